/-! Contracts over a store. s0: the state at the law's start; every later state has warmer tables, and below s0.heap.size the same cells. -/
def so_rm (k mc ms : Nat) : Room := { frames := k, cells := mc, slots := ms, locals := 32 * k }
def so_Kn (s0 U : State) : Prop := s0.WarmedH U.vm ∧ s0.heap.size ≤ U.heap.size ∧ ∀ q : Nat, q < s0.heap.size → U.heap[q]? = s0.heap[q]?
def so_B (Ts : List Cond) (s0 : State) (D : va_G) (cl : List vw_C) (tys : List (ClassId × FieldType)) : Prop := (∀ w ∈ Ts, ∀ (a : Array Value) (U : State), s0.WarmedH U.vm → w.before a U = true) ∧ va_K D cl tys s0
def so_Pre (s0 : State) (D : va_G) (cl : List vw_C) (σ : so_S) (U : State) : Prop := so_Kn s0 U ∧ so_P D cl s0.heap.size σ U.heap
def so_Q (s0 : State) (D : va_G) (cl : List vw_C) (post : Option Value → so_S → Prop) : Array Value → State → Outcome → State → Prop := fun _ st oc t => (∃ (v : Option Value) (σ1 : so_S), oc = .returned v ∧ post v σ1 ∧ so_P D cl s0.heap.size σ1 t.heap) ∧ va_F (so_A s0.heap.size) st t
def so_R (post : Option Value → Prop) : Array Value → State → Outcome → State → Prop := fun _ st oc t => ∃ v : Option Value, oc = .returned v ∧ post v ∧ t.heap = st.heap
/-- y, given av over the store σ, returns v and leaves σ1: post v σ1; it makes at most mc cells of ms slots -/
def so_C (l : Launch) (s0 : State) (D : va_G) (cl : List vw_C) (y : MethodName) (b : ByteArray) (n : Nat) (r : Option FieldType) (k mc ms : Nat) (av : List Value) (σ : so_S) (post : Option Value → so_S → Prop) : Prop :=
  Met l y [.code y b n r] (so_rm k mc ms) (va_Pc av (so_Pre s0 D cl σ)) (so_Q s0 D cl post) mc ms (so_A s0.heap.size)
/-- y only reads -/
def so_D (l : Launch) (s0 : State) (D : va_G) (cl : List vw_C) (y : MethodName) (b : ByteArray) (n : Nat) (r : Option FieldType) (k : Nat) (av : List Value) (σ : so_S) (post : Option Value → Prop) : Prop :=
  Met l y [.code y b n r] (so_rm k 0 0) (va_Pc av (so_Pre s0 D cl σ)) (so_R post) 0 0 (fun _ => False)
theorem so_blind {s0 : State} {D : va_G} {cl : List vw_C} {σ : so_S} {av : List Value} : FrameBlind (va_Pc av (so_Pre s0 D cl σ)) := fun _ _ _ _ h => h
theorem so_Kn.at {s0 s U : State} {H : Heap} {locs : List Loc} (E : so_Kn s0 s) (hS : va_S (so_A s0.heap.size) s.heap H locs) (hU : U.heap = H) (hW : s.WarmedH U.vm) : so_Kn s0 U :=
  ⟨State.WarmedH.trans E.1 hW, by rw [hU]; exact Nat.le_trans E.2.1 hS.1, fun q hq => by rw [hU, hS.2.1 q (Nat.lt_of_lt_of_le hq E.2.1) (Nat.not_le.mpr hq)]; exact E.2.2 q hq⟩
section SO3
variable {l : Launch} {s0 : State} {D : va_G} {cl : List vw_C} {tys : List (ClassId × FieldType)} {Ts : List Cond} {y : MethodName} {b : ByteArray} {n k mc ms : Nat} {r : Option FieldType} {av : List Value} {σ : so_S}
theorem so_of {post : Option Value → so_S → Prop} (hB : so_B Ts s0 D cl tys) (hy : plainName y.cls = true) (hn : (lg_sl av).length ≤ n)
    (body : ∀ (p : Program) (e : Env) (s : State) (m : MethodId) (below : List Frame) (meth : Method) (c : Code) (ls : Array Slot), CallFix p m c b n s av.toArray Ts y.cls → va_K D cl tys s → so_Kn s0 s → meth.sig.returnType = r → meth.locks = false → meth.name = y.name →
      so_P D cl s0.heap.size σ s.heap → va_S (so_A s0.heap.size) s.heap s.heap [] → lv_has ls n (lv_args 0 av) →
      W p l e (so_rm k mc ms) s m av.toArray below meth c s.heap [] 0 0 (MQ below (so_Q s0 D cl post) av.toArray s mc ms (so_A s0.heap.size)) (F0 m 0 ls [])) :
    so_C l s0 D cl y b n r k mc ms av σ post := by
  refine Met.ofW (cc := b) (maxL := n) (ret := r) hy rfl ?_
  intro p e s m args below meth c s₁ B hml hv
  obtain ⟨rfl, hKn, hP⟩ := hv
  have hts : ∀ w ∈ Ts, w.before av.toArray s = true := fun w hw => hB.1 w hw _ _ hKn.1
  have hl := lv_entry av (n := n) hn
  rw [lg_entry_eq]
  generalize (lg_sl av ++ List.replicate (n - (lg_sl av).length) Slot.unset).toArray = ls at hl ⊢
  exact body p e s m below meth c ls ⟨B.exec, B.bytes, hml, findClass_of_methodNamed B.named, hts⟩ (va_K.moved hKn.1.alike hB.2) hKn B.returns B.notSynchronized (name_of_methodNamed B.named B.method).1 hP va_S.rf hl
theorem so_ofR {post : Option Value → Prop} (hB : so_B Ts s0 D cl tys) (hy : plainName y.cls = true) (hn : (lg_sl av).length ≤ n)
    (body : ∀ (p : Program) (e : Env) (s : State) (m : MethodId) (below : List Frame) (meth : Method) (c : Code) (ls : Array Slot), CallFix p m c b n s av.toArray Ts y.cls → va_K D cl tys s → so_Kn s0 s → meth.sig.returnType = r → meth.locks = false →
      so_P D cl s0.heap.size σ s.heap → va_S (so_A s0.heap.size) s.heap s.heap [] → lv_has ls n (lv_args 0 av) →
      W p l e (so_rm k 0 0) s m av.toArray below meth c s.heap [] 0 0 (MQ below (so_R post) av.toArray s 0 0 (fun _ => False)) (F0 m 0 ls [])) :
    so_D l s0 D cl y b n r k av σ post := by
  refine Met.ofW (cc := b) (maxL := n) (ret := r) hy rfl ?_
  intro p e s m args below meth c s₁ B hml hv
  obtain ⟨rfl, hKn, hP⟩ := hv
  have hts : ∀ w ∈ Ts, w.before av.toArray s = true := fun w hw => hB.1 w hw _ _ hKn.1
  have hl := lv_entry av (n := n) hn
  rw [lg_entry_eq]
  generalize (lg_sl av ++ List.replicate (n - (lg_sl av).length) Slot.unset).toArray = ls at hl ⊢
  exact body p e s m below meth c ls ⟨B.exec, B.bytes, hml, findClass_of_methodNamed B.named, hts⟩ (va_K.moved hKn.1.alike hB.2) hKn B.returns B.notSynchronized hP va_S.rf hl
end SO3
section SO4
variable {p : Program} {l : Launch} {e : Env} {R : Room} {s : State} {m : MethodId} {args : Array Value} {below : List Frame} {meth : Method} {c : Code} {H : Heap} {locs : List Loc} {cells slots : Nat} {Q : State → Prop}
variable {cc : ByteArray} {pc nL : Nat} {ls : Array Slot} {rest st0 : List Value} {D : va_G} {cl : List vw_C} {tys : List (ClassId × FieldType)} {σ : so_S} {H0 : Heap} {Ts : List Cond} {own : String} {s0 : State} {mc ms : Nat} {a : Array Value}
theorem so_iret {post : Option Value → so_S → Prop} {v : Int32} (S : CallFix p m c cc nL s args Ts own) (hr : meth.sig.returnType = some .int) (hlocks : meth.locks = false) (hP : so_P D cl s0.heap.size σ H) (hS : va_S (so_A s0.heap.size) s.heap H locs) (hc : cells ≤ mc) (hs : slots ≤ ms) (hpost : post (some (.int v)) σ) (hdg : decode cc pc = .ok (.ireturn, 1)) :
    W p l e R s m args below meth c H locs cells slots (MQ below (so_Q s0 D cl post) args s mc ms (so_A s0.heap.size)) (F0 m pc ls [.int v]) :=
  W.widen hc hs (W.iret S.1 S.2.1 hr (fun t ht hW => ⟨⟨_, σ, rfl, hpost, by rw [ht]; exact hP⟩, hS.F ht⟩) hS.2.2 hdg)
theorem so_zret {post : Option Value → so_S → Prop} {v : Int32} {ty : FieldType} (S : CallFix p m c cc nL s args Ts own) (hr : meth.sig.returnType = some ty) (hn : narrow ty (.int v) = .int v) (hlocks : meth.locks = false) (hP : so_P D cl s0.heap.size σ H) (hS : va_S (so_A s0.heap.size) s.heap H locs) (hc : cells ≤ mc) (hs : slots ≤ ms) (hpost : post (some (.int v)) σ) (hdg : decode cc pc = .ok (.ireturn, 1)) :
    W p l e R s m args below meth c H locs cells slots (MQ below (so_Q s0 D cl post) args s mc ms (so_A s0.heap.size)) (F0 m pc ls [.int v]) :=
  W.widen hc hs (W.zret S.1 S.2.1 hr hn (fun t ht hW => ⟨⟨_, σ, rfl, hpost, by rw [ht]; exact hP⟩, hS.F ht⟩) hS.2.2 hdg)
theorem so_vret {post : Option Value → so_S → Prop} (S : CallFix p m c cc nL s args Ts own) (hr : meth.sig.returnType = none) (hlocks : meth.locks = false) (hP : so_P D cl s0.heap.size σ H) (hS : va_S (so_A s0.heap.size) s.heap H locs) (hc : cells ≤ mc) (hs : slots ≤ ms) (hpost : post none σ) (hdg : decode cc pc = .ok (.return_, 1)) :
    W p l e R s m args below meth c H locs cells slots (MQ below (so_Q s0 D cl post) args s mc ms (so_A s0.heap.size)) (F0 m pc ls []) :=
  W.widen hc hs (W.vret S.1 S.2.1 hr (fun t ht hW => ⟨⟨_, σ, rfl, hpost, by rw [ht]; exact hP⟩, hS.F ht⟩) hS.2.2 hdg)
theorem so_aret {post : Option Value → so_S → Prop} {v : Option Nat} {rt : FieldType} (S : CallFix p m c cc nL s args Ts own) (hr : meth.sig.returnType = some rt) (hrt : (∃ n, rt = .object n) ∨ ∃ t, rt = .array t) (hlocks : meth.locks = false) (hP : so_P D cl s0.heap.size σ H) (hS : va_S (so_A s0.heap.size) s.heap H locs) (hc : cells ≤ mc) (hs : slots ≤ ms) (hpost : post (some (va_rf v)) σ) (hdg : decode cc pc = .ok (.areturn, 1)) :
    W p l e R s m args below meth c H locs cells slots (MQ below (so_Q s0 D cl post) args s mc ms (so_A s0.heap.size)) (F0 m pc ls [va_rf v]) :=
  W.widen hc hs (W.aret S.1 S.2.1 hr hrt (va_rf_or v) (fun t ht hW => ⟨⟨_, σ, rfl, hpost, by rw [ht]; exact hP⟩, hS.F ht⟩) hS.2.2 hdg)
theorem so_iretR {post : Option Value → Prop} {v : Int32} (S : CallFix p m c cc nL s args Ts own) (hr : meth.sig.returnType = some .int) (hlocks : meth.locks = false) (hpost : post (some (.int v))) (hdg : decode cc pc = .ok (.ireturn, 1)) :
    W p l e R s m args below meth c s.heap [] 0 0 (MQ below (so_R post) args s 0 0 (fun _ => False)) (F0 m pc ls [.int v]) :=
  W.iret S.1 S.2.1 hr (fun t ht hW => ⟨_, rfl, hpost, ht⟩) (fun q h => by cases h) hdg
theorem so_zretR {post : Option Value → Prop} {v : Int32} {ty : FieldType} (S : CallFix p m c cc nL s args Ts own) (hr : meth.sig.returnType = some ty) (hn : narrow ty (.int v) = .int v) (hlocks : meth.locks = false) (hpost : post (some (.int v))) (hdg : decode cc pc = .ok (.ireturn, 1)) :
    W p l e R s m args below meth c s.heap [] 0 0 (MQ below (so_R post) args s 0 0 (fun _ => False)) (F0 m pc ls [.int v]) :=
  W.zret S.1 S.2.1 hr hn (fun t ht hW => ⟨_, rfl, hpost, ht⟩) (fun q h => by cases h) hdg
theorem so_vretR {post : Option Value → Prop} (S : CallFix p m c cc nL s args Ts own) (hr : meth.sig.returnType = none) (hlocks : meth.locks = false) (hpost : post none) (hdg : decode cc pc = .ok (.return_, 1)) :
    W p l e R s m args below meth c s.heap [] 0 0 (MQ below (so_R post) args s 0 0 (fun _ => False)) (F0 m pc ls []) :=
  W.vret S.1 S.2.1 hr (fun t ht hW => ⟨_, rfl, hpost, ht⟩) (fun q h => by cases h) hdg
theorem so_aretR {post : Option Value → Prop} {v : Option Nat} {rt : FieldType} (S : CallFix p m c cc nL s args Ts own) (hr : meth.sig.returnType = some rt) (hrt : (∃ n, rt = .object n) ∨ ∃ t, rt = .array t) (hlocks : meth.locks = false) (hpost : post (some (va_rf v))) (hdg : decode cc pc = .ok (.areturn, 1)) :
    W p l e R s m args below meth c s.heap [] 0 0 (MQ below (so_R post) args s 0 0 (fun _ => False)) (F0 m pc ls [va_rf v]) :=
  W.aret S.1 S.2.1 hr hrt (va_rf_or v) (fun t ht hW => ⟨_, rfl, hpost, ht⟩) (fun q h => by cases h) hdg
/-- behind a call -/
theorem so_call {post : Option Value → so_S → Prop} (hr : va_Run p l e R s m args below meth c H locs cells slots mc ms (F0 m pc ls st0) rest (so_Q s0 D cl post a) (so_A s0.heap.size)) (hS : va_S (so_A s0.heap.size) H0 H locs)
    (kk : ∀ (v : Option Value) (σ1 : so_S) (H1 : Heap) (locs1 : List Loc), post v σ1 → so_P D cl s0.heap.size σ1 H1 → va_S (so_A s0.heap.size) H0 H1 locs1 → W p l e R s m args below meth c H1 locs1 (cells + mc) (slots + ms) Q (F0 m (pc + 3) ls (v.toList ++ rest))) : W p l e R s m args below meth c H locs cells slots Q (F0 m pc ls st0) := by
  intro T hT X
  obtain ⟨v, st₀, t, T', L, h0, X', hL, e1, e2, ⟨⟨v', σ1, hv, hp, hb⟩, hz, hk⟩, st⟩ := hr T hT X
  cases hv
  rw [h0] at hz hk
  obtain ⟨t2, a1, b1⟩ := kk v σ1 T'.heap (locs ++ L) hp (by rw [e1]; exact hb)
    ⟨Nat.le_trans hS.1 (by rw [e1]; exact hz), fun q h1 h2 => by rw [e1, hk q (Nat.lt_of_lt_of_le h1 hS.1) h2]; exact hS.2.1 q h1 h2, fun q hq => by
      rcases List.mem_append.mp hq with h | h
      · exact hS.2.2 q h
      · exact hL q h⟩ T' rfl X'
  exact ⟨t2, st t2 a1, b1⟩
theorem so_callR {post : Option Value → Prop} (hr : va_Run p l e R s m args below meth c H locs cells slots 0 0 (F0 m pc ls st0) rest (so_R post a) (fun _ => False))
    (kk : ∀ v : Option Value, post v → W p l e R s m args below meth c H locs cells slots Q (F0 m (pc + 3) ls (v.toList ++ rest))) : W p l e R s m args below meth c H locs cells slots Q (F0 m pc ls st0) := by
  intro T hT X
  obtain ⟨v, st₀, t, T', L, h0, X', hL, e1, e2, ⟨v', hv, hp, hh⟩, st⟩ := hr T hT X
  cases hv
  obtain ⟨t2, a1, b1⟩ := kk v hp T' (by rw [e1, hh, h0]) (Stand.forget X' (fun q h => (hL q h).elim))
  exact ⟨t2, st t2 a1, b1⟩
end SO4

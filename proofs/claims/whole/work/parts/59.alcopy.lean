/-! Copying within rows of references, over the store; frames by tags; what is known of the JDK's own empty row. -/
def fT (P : Nat → Prop) (σ σ1 : so_S) : Prop := ∀ (q : Nat) (x : so_E), σ q = some x → ¬ P x.1 → σ1 q = some x
theorem fT.rf {P : Nat → Prop} {σ : so_S} : fT P σ σ := fun _ _ h _ => h
theorem fT.tr {P : Nat → Prop} {a b c : so_S} (h : fT P a b) (h2 : fT P b c) : fT P a c := fun q x hq hx => h2 q x (h q x hq hx) hx
theorem fT.mono {P Q : Nat → Prop} {a b : so_S} (h : fT P a b) (h2 : ∀ t, P t → Q t) : fT Q a b := fun q x hq hx => h q x hq (fun z => hx (h2 _ z))
theorem fT.up {P : Nat → Prop} {σ σ1 : so_S} (h : fT P σ σ1) {a : Nat} {x y : so_E} (ha : σ1 a = some x) (h1 : P x.1) : fT P σ (so_up σ1 a y) := by
  intro q w hq hw
  have h2 := h q w hq hw
  rw [so_un (so_ne h2 ha (fun e => hw (e ▸ h1)))]
  exact h2
theorem fT.nw {P : Nat → Prop} {σ σ1 : so_S} (h : fT P σ σ1) {a : Nat} {y : so_E} (ha : σ1 a = none) : fT P σ (so_up σ1 a y) := by
  intro q w hq hw
  have h2 := h q w hq hw
  rw [so_un (fun e => by rw [e, ha] at h2; cases h2)]
  exact h2
def tL (tg tr t : Nat) : Prop := t = tg ∨ t = tr
/-- the store's cells below n, as a list -/
def so_wl (σ : so_S) : Nat → va_W
  | 0 => []
  | n + 1 => so_wl σ n ++ match σ n with
    | none => []
    | some e => [(n, e.2)]
theorem so_wl_at {σ : so_S} : ∀ {n k : Nat} {q : Nat × va_E}, (so_wl σ n)[k]? = some q → q.1 < n ∧ ∃ e, σ q.1 = some e ∧ q.2 = e.2
  | 0, k, q, h => by cases h
  | n + 1, k, q, h => by
    unfold so_wl at h
    rcases Nat.lt_or_ge k (so_wl σ n).length with hk | hk
    · rw [List.getElem?_append_left hk] at h
      obtain ⟨h1, h2⟩ := so_wl_at h
      exact ⟨by omega, h2⟩
    · rw [List.getElem?_append_right hk] at h
      cases hs : σ n with
      | none => rw [hs] at h; cases h
      | some e =>
        rw [hs] at h
        have hz : k - (so_wl σ n).length = 0 := by
          have := (List.getElem?_eq_some_iff.mp h).1
          simp at this
          omega
        rw [hz] at h
        cases h
        exact ⟨by show n < n + 1; omega, e, hs, rfl⟩
theorem so_wl_in {σ : so_S} {a : Nat} {e : so_E} (he : σ a = some e) : ∀ {n : Nat}, a < n → ∃ k : Nat, (so_wl σ n)[k]? = some (a, e.2)
  | 0, h => absurd h (Nat.not_lt_zero _)
  | n + 1, h => by
    unfold so_wl
    rcases Nat.lt_or_ge a n with ha | ha
    · obtain ⟨k, hk⟩ := so_wl_in he ha
      exact ⟨k, by rw [List.getElem?_append_left (List.getElem?_eq_some_iff.mp hk).1]; exact hk⟩
    · have e1 : a = n := by omega
      subst e1
      exact ⟨(so_wl σ a).length, by rw [List.getElem?_append_right (Nat.le_refl _), he, Nat.sub_self]; rfl⟩
theorem so_wl_d {σ : so_S} : ∀ {n i j : Nat} {p q : Nat × va_E}, (so_wl σ n)[i]? = some p → (so_wl σ n)[j]? = some q → p.1 = q.1 → i = j
  | 0, i, j, p, q, h, _, _ => by cases h
  | n + 1, i, j, p, q, hi, hj, he => by
    have key : ∀ {k : Nat} {r : Nat × va_E}, (so_wl σ (n + 1))[k]? = some r → (so_wl σ n).length ≤ k → r.1 = n ∧ k = (so_wl σ n).length := by
      intro k r h hk
      unfold so_wl at h
      rw [List.getElem?_append_right hk] at h
      cases hs : σ n with
      | none => rw [hs] at h; cases h
      | some e =>
        rw [hs] at h
        have hz : k - (so_wl σ n).length = 0 := by
          have := (List.getElem?_eq_some_iff.mp h).1
          simp at this
          omega
        rw [hz] at h
        cases h
        exact ⟨rfl, by omega⟩
    have low : ∀ {k : Nat} {r : Nat × va_E}, (so_wl σ (n + 1))[k]? = some r → k < (so_wl σ n).length → (so_wl σ n)[k]? = some r := by
      intro k r h hk
      unfold so_wl at h
      rw [List.getElem?_append_left hk] at h
      exact h
    rcases Nat.lt_or_ge i (so_wl σ n).length with h1 | h1 <;> rcases Nat.lt_or_ge j (so_wl σ n).length with h2 | h2
    · exact so_wl_d (low hi h1) (low hj h2) he
    · have a1 := (so_wl_at (low hi h1)).1
      have a2 := (key hj h2).1
      omega
    · have a1 := (so_wl_at (low hj h2)).1
      have a2 := (key hi h1).1
      omega
    · have a1 := (key hi h1).2
      have a2 := (key hj h2).2
      omega
section CPQ
variable {p : Program} {l : Launch} {e : Env} {s : State} {m : MethodId} {args : Array Value} {below : List Frame} {meth : Method} {c : Code} {H : Heap} {locs : List Loc} {cells slots : Nat} {Q : State → Prop}
variable {cc : ByteArray} {pc nL : Nat} {ls : Array Slot} {rest : List Value} {D : va_G} {cl : List vw_C} {a N0 tg kR mcR msR : Nat} {tys : List (ClassId × FieldType)} {σ : so_S} {H0 : Heap} {Ts : List Cond} {own : String}
/-- System.arraycopy between two rows of references of the store (they may be one): f from sp on, n of them, to dp on -/
theorem so_copyq (S : CallFix p m c cc nL s args Ts own) (hsize : ls.size = nL) {index : Nat} (w1 : Cond.methodLink own index arraycopyName ∈ Ts) (w2 : Cond.native arraycopyName ∈ Ts) (w3 : Cond.static arraycopyName ∈ Ts) (w4 : Cond.initialized "java/lang/System" ∈ Ts)
    (hK : va_K D cl tys s) (hP : so_P D cl N0 σ H) (hS : va_S (so_A N0) H0 H locs) (t0 t1 : Nat) {a0 tg0 : Nat} {c0 c1 : ClassId} {n0 n1 : Nat} {f g : Nat → Option Nat} {E0 E1 C : String} (ha0 : σ a0 = some (tg0, .inl (c0, n0, .inr (.inr (.inr (.inr f)))))) (ha1 : σ a = some (tg, .inl (c1, n1, .inr (.inr (.inr (.inr g)))))) (ht0 : tys[t0]? = some (c0, .object E0)) (ht1 : tys[t1]? = some (c1, .object E1))
    {sp dp n : Nat} (h4 : sp + n ≤ n0) (h5 : dp + n ≤ n1) (h0 : n0 < 2 ^ 31) (h1 : n1 < 2 ^ 31) (hel : ∀ i : Nat, i < n → ∀ y : Nat, f (sp + i) = some y → ∃ (tv ci : Nat) (T : u_T) (N : Nat) (vs : List Value), σ y = some (tv, .inr (ci, vs)) ∧ cl[ci]? = some (C, T, N)) (hasg : va_Nw (.castable C E1) s)
    (hk : 1 ≤ kR) (hlocals : (rest.map fun v => v.category).sum + (nativeFrameWords "java/lang/System" "arraycopy" 5 + 11) ≤ 32 * kR) (hdg : decode cc pc = .ok (.invokestatic index, 3))
    (kk : ∀ (H1 : Heap) (locs1 : List Loc), so_P D cl N0 (so_up σ a (tg, .inl (c1, n1, .inr (.inr (.inr (.inr (va_cpy f g sp dp n))))))) H1 → va_S (so_A N0) H0 H1 locs1 → W p l e (so_rm kR mcR msR) s m args below meth c H1 locs1 cells slots Q (F0 m (pc + 3) ls rest)) : W p l e (so_rm kR mcR msR) s m args below meth c H locs cells slots Q (F0 m pc ls (.int (nI n) :: .int (nI dp) :: .ref a :: .int (nI sp) :: .ref a0 :: rest)) := by
  have ht := S.2.2.2.2
  obtain ⟨q0, hq0⟩ := so_wl_in ha0 (hP.lt ha0)
  obtain ⟨q1, hq1⟩ := so_wl_in ha1 (hP.lt ha1)
  have hw : va_P D cl (so_wl σ H.size) H := fun k q hk => by
    obtain ⟨-, e1, h1, h2⟩ := so_wl_at hk
    have := (hP _ _ h1).2
    rw [← h2] at this
    exact this
  have hD : va_D (so_A N0) (so_wl σ H.size) := ⟨fun i j p q h1 h2 h3 => so_wl_d h1 h2 h3, fun k q hk => by
    obtain ⟨-, e1, h1, h2⟩ := so_wl_at hk
    exact (hP _ _ h1).1⟩
  refine va_copyq S.1 S.2.1 (by rw [S.2.2.1, hsize]) S.2.2.2.1 (ht _ w1) (ht _ w2) (ht _ w3) (ht _ w4) hK hw hD hS q0 q1 t0 t1 hq0 hq1 ht0 ht1 (C := C) (nI_pos (by omega)) (nI_pos (by omega)) (nI_pos (by omega)) (by rw [nI_clamp (by omega), nI_clamp (by omega)]; exact h4) (by rw [nI_clamp (by omega), nI_clamp (by omega)]; exact h5) (fun i hi y hy => ?_) (vb_asgC hasg) hk hlocals hdg (fun H1 locs1 hP1 hD1 hS1 => ?_)
  · rw [nI_clamp (by omega)] at hi
    rw [nI_clamp (by omega)] at hy
    obtain ⟨tv, ci, T, N, vs, g1, g2⟩ := hel i hi y hy
    obtain ⟨-, q', f1, cell, e1, e2, e3, -⟩ := hP y _ g1
    exact ⟨cell, e1, by rw [e3]; rfl, by rw [e2]; exact (hK.1 ci _ g2).2.1⟩
  · rw [nI_clamp (by omega), nI_clamp (by omega), nI_clamp (by omega)] at hP1
    refine kk H1 locs1 ?_ hS1
    intro b x hb
    by_cases hba : b = a
    · subst hba
      rw [so_us] at hb
      cases hb
      refine ⟨(hP _ _ ha1).1, hP1 q1 _ ?_⟩
      rw [List.getElem?_set_self (List.getElem?_eq_some_iff.mp hq1).1]
    · rw [so_un hba] at hb
      refine ⟨(hP b x hb).1, ?_⟩
      obtain ⟨k, hk⟩ := so_wl_in hb (hP.lt hb)
      refine hP1 k _ ?_
      rw [List.getElem?_set_ne]
      · exact hk
      · intro e1
        rw [e1] at hq1
        rw [hk] at hq1
        exact hba (congrArg Prod.fst (Option.some.inj hq1))
end CPQ
/-- an entry lies at y -/
def isE (σ : so_S) (y : Nat) : Prop := ∃ (te : Nat) (k m v u : Int32), 1000 ≤ te ∧ σ y = some (te, oEn k m v u)
theorem isE.el {σ : so_S} {y : Nat} (h : isE σ y) : ∃ (tv ci : Nat) (T : u_T) (N : Nat) (vs : List Value), σ y = some (tv, .inr (ci, vs)) ∧ vcl[ci]? = some ("HoldMaps$Entry", T, N) := by
  obtain ⟨te, k, m, v, u, -, h⟩ := h
  exact ⟨te, 3, _, _, _, h, rfl⟩
/-- the JDK's empty row DE, and the class object mi of Object[] -/
def jX (s0 : State) (D : va_G) (ca : Nat → ClassId) (DE mi : Nat) : Prop := va_Z "java/util/ArrayList" "DEFAULTCAPACITY_EMPTY_ELEMENTDATA" "[Ljava/lang/Object;" (.ref DE) (so_A s0.heap.size) s0 s0.heap ∧ (DE < s0.heap.size ∧ ∃ cell : Cell, s0.heap[DE]? = some cell ∧ s0.isArrayOf cell (.object "java/lang/Object") ∧ cell.slots.size.toInt32 = nI 0) ∧ va_Mi "[Ljava/lang/Object;" mi s0
section JX
variable {s0 s : State} {D : va_G} {ca : Nat → ClassId} {DE mi : Nat} {H : Heap} {locs : List Loc} {σ : so_S}
theorem jX.z (J : jX s0 D ca DE mi) (E : so_Kn s0 s) : va_Z "java/util/ArrayList" "DEFAULTCAPACITY_EMPTY_ELEMENTDATA" "[Ljava/lang/Object;" (.ref DE) (so_A s0.heap.size) s s.heap := va_Z.kept (va_Z.moved E.1.alike J.1) (fun a h _ => E.2.2 a h)
theorem jX.cl (J : jX s0 D ca DE mi) (E : so_Kn s0 s) : va_Mi "[Ljava/lang/Object;" mi s := va_Mi.moved E.1.alike J.2.2
theorem jX.p (J : jX s0 D ca DE mi) (E : so_Kn s0 s) (hS : va_S (so_A s0.heap.size) s.heap H locs) : ∃ cell : Cell, H[DE]? = some cell ∧ s.isArrayOf cell (.object "java/lang/Object") ∧ cell.slots.size.toInt32 = nI 0 := by
  obtain ⟨hlt, cell, h1, h2, h3⟩ := J.2.1
  refine ⟨cell, ?_, State.isArrayOf_alike E.1.alike h2, h3⟩
  rw [hS.2.1 DE (Nat.lt_of_lt_of_le hlt E.2.1) (Nat.not_le.mpr hlt), E.2.2 DE hlt]
  exact h1
theorem jX.ne (J : jX s0 D ca DE mi) {a : Nat} {e : so_E} (P : so_P D vcl s0.heap.size σ H) (h : σ a = some e) : a ≠ DE := fun q => by
  have h1 := (P a e h).1
  have h2 := J.2.1.1
  omega
end JX
/-- as so_ofR, for a class of which some methods have rows in the table of natives: y has none -/
theorem Met_ofF {l : Launch} {y : MethodName} {ws ws' : List Cond} {rm : Room} {Pc : Array Value → State → Prop} {Qc : Array Value → State → Outcome → State → Prop} {mc ms : Nat} {free : Addr → Prop} {cc : ByteArray} {maxL : Nat} {ret : Option FieldType} (hy : plainFor y = true) (hw : ws = Cond.code y cc maxL ret :: ws')
    (body : ∀ p e s m args below meth c s₁, BodyLoose p l y (headSpec ws rm) cc maxL ret e s m args below meth c s₁ → c.maxLocals = maxL → Pc args s → W p l e (headSpec ws rm).room s m args below meth c s.heap [] 0 0 (MQ below Qc args s mc ms free) (entryFrame m args maxL)) : Met l y ws rm Pc Qc mc ms free := by
  refine MetFree.of_bodySF (code := cc) (maxLocals := maxL) (ret := ret) hy (fun args s m h hn => ?_) (fun p e s m args below meth c s₁ B hml hP _ => ?_)
  · obtain ⟨meth, c, h1, h2, h3, h4, h5, h6, -, -⟩ := Cond.code_spec hn (atoms_spec (ws := ws) h _ (by rw [hw]; exact List.mem_cons_self))
    exact ⟨meth, c, h1, h2, h3, h4, h5, h6⟩
  · obtain ⟨t, a1, o, b1, b2, b3⟩ := body p e s m args below meth c s₁ B hml hP s₁ (by rw [B.state]; rfl) (Stand.of_body B)
    exact ⟨t, o, a1, b1, b2, ⟨b3.1, b3.2⟩⟩
theorem so_ofRF {l : Launch} {s0 : State} {D : va_G} {cl : List vw_C} {tys : List (ClassId × FieldType)} {Ts : List Cond} {y : MethodName} {b : ByteArray} {n k : Nat} {r : Option FieldType} {av : List Value} {σ : so_S} {post : Option Value → Prop} (hB : so_B Ts s0 D cl tys) (hy : plainFor y = true) (hn : (lg_sl av).length ≤ n)
    (body : ∀ (p : Program) (e : Env) (s : State) (m : MethodId) (below : List Frame) (meth : Method) (c : Code) (ls : Array Slot), CallFix p m c b n s av.toArray Ts y.cls → va_K D cl tys s → so_Kn s0 s → meth.sig.returnType = r → meth.locks = false →
      so_P D cl s0.heap.size σ s.heap → va_S (so_A s0.heap.size) s.heap s.heap [] → lv_has ls n (lv_args 0 av) →
      W p l e (so_rm k 0 0) s m av.toArray below meth c s.heap [] 0 0 (MQ below (so_R post) av.toArray s 0 0 (fun _ => False)) (F0 m 0 ls [])) :
    so_D l s0 D cl y b n r k av σ post := by
  refine Met_ofF (cc := b) (maxL := n) (ret := r) hy rfl ?_
  intro p e s m args below meth c s₁ B hml hv
  obtain ⟨rfl, hKn, hP⟩ := hv
  have hts : ∀ w ∈ Ts, w.before av.toArray s = true := fun w hw => hB.1 w hw _ _ hKn.1
  have hl := lv_entry av (n := n) hn
  rw [lg_entry_eq]
  generalize (lg_sl av ++ List.replicate (n - (lg_sl av).length) Slot.unset).toArray = ls at hl ⊢
  exact body p e s m below meth c ls ⟨B.exec, B.bytes, hml, findClass_of_methodNamed B.named, hts⟩ (va_K.moved hKn.1.alike hB.2) hKn B.returns B.notSynchronized hP va_S.rf hl

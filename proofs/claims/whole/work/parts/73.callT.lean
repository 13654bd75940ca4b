/-! A call that returns or throws; methods with an exception table. -/
section CT1
variable {p : Program} {l : Launch} {e : Env} {s : State} {m : MethodId} {args : Array Value} {below : List Frame} {meth : Method} {c : Code} {H : Heap} {locs : List Loc} {cells slots : Nat} {Q : State → Prop}
variable {cc b1 : ByteArray} {pc nL n1 k k1 mcR msR mc ms index o ci N tg : Nat} {ls : Array Slot} {rest st0 As fs : List Value} {D : va_G} {cl : List vw_C} {tys : List (ClassId × FieldType)} {σ : so_S} {Ts : List Cond} {own C : String} {T : u_T} {s0 : State} {y : MethodName} {r1 : Option FieldType}
theorem so_callT {post : Option Value → so_S → Prop} {thr : String → Prop} (S : CallFix p m c cc nL s args Ts own) (hB : so_B Ts s0 D cl tys) (hK : va_K D cl tys s) (E : so_Kn s0 s) (hP : so_P D cl s0.heap.size σ H) (hS : va_S (so_A s0.heap.size) s.heap H locs)
    (hM : so_T l s0 D cl y b1 n1 r1 k1 mc ms (.ref o :: As) σ post thr) (he : σ o = some (tg, .inr (ci, fs))) (hc : cl[ci]? = some (C, T, N))
    (w1 : Cond.methodLink own index y ∈ Ts) (w2 : Cond.instanceMethod y ∈ Ts) (w3 : Cond.selects C y y ∈ Ts) (w4 : Cond.code y b1 n1 r1 ∈ Ts) (w5 : Cond.initialized y.cls ∈ Ts)
    (hd : y.cls ≠ "java/lang/invoke/MethodHandle" ∧ y.cls ≠ "java/lang/invoke/VarHandle" ∧ (parseMethodDescriptor y.desc).map (fun d => d.parameters.length) = some As.length) (hn1 : n1 ≤ 13) (hk : k1 < k) (hc1 : cells + mc ≤ mcR) (hs1 : slots + ms ≤ msR)
    (hsize : ls.size = nL) (hst : st0 = As.reverse ++ .ref o :: rest) (hW : (rest.map fun v => v.category).sum ≤ 8) (hdg : decode cc pc = .ok (.invokevirtual index, 3))
    (kk : ∀ (v : Option Value) (σ1 : so_S) (H1 : Heap) (locs1 : List Loc), post v σ1 → so_P D cl s0.heap.size σ1 H1 → va_S (so_A s0.heap.size) s.heap H1 locs1 → W p l e (so_rm k mcR msR) s m args below meth c H1 locs1 (cells + mc) (slots + ms) Q (F0 m (pc + 3) ls (v.toList ++ rest)))
    (kt : ∀ (x : Addr) (C' : String) (H1 : Heap) (locs1 : List Loc), thr C' → (∃ cell : Cell, H1[x]? = some cell ∧ cell.vm.isStatics = false ∧ s.vm.findClass C' = some cell.cls) → so_P D cl s0.heap.size σ H1 → va_S (so_A s0.heap.size) s.heap H1 locs1 → WT p l e (so_rm k mcR msR) s m args below meth c H1 locs1 (cells + mc) (slots + ms) Q (F0 m pc ls rest) x) :
    W p l e (so_rm k mcR msR) s m args below meth c H locs cells slots Q (F0 m pc ls st0) := by
  have ht := S.2.2.2.2
  obtain ⟨cellB, hcB, hoB, hclB⟩ := so_recv hK hP he hc
  intro T0 hT X
  obtain ⟨mk, methM, hnamed, hmethM, hstM, habM⟩ := Cond.instanceMethod_spec (ht _ w2)
  obtain ⟨methM', cM, hmethM', hcM, -, hlM, -, -, -, hsigM⟩ := Cond.code_spec hnamed (ht _ w4)
  cases hmethM.symm.trans hmethM'
  obtain ⟨c2, r2, m2, q1, q2, q3, q4, kP, hkP, hkPi⟩ := Cond.selects_spec (ht _ w3)
  cases hclB.symm.trans q1
  cases (State.methodFound?_of_named hnamed ⟨hd.1, hd.2.1⟩).symm.trans q2
  cases hnamed.symm.trans q3
  have hselP : selectMethod e.platform s.vm cellB.cls mk = .method mk := by rw [Launch.admits_selectMethod X.admits]; exact q4
  have hlen : As.length = methM.sig.parameters.length := by
    have h2 := hd.2.2
    rw [hsigM] at h2
    exact (Option.some.inj h2).symm
  obtain ⟨vm₁, X₁, hstep₁⟩ := X.invokevirtual S.1 S.2.2.2.1 (ht _ w1) hnamed hmethM hstM hkP hkPi ⟨hd.1, hd.2.1⟩ (a := o) (cell := cellB) (by rw [hT]; exact hcB)
    (fun z h => by rw [h] at hoB; cases hoB) hselP hmethM habM hkP hkPi (g := F0 m pc ls st0) rfl (argsL := As) (rest := rest) hlen hst (by rw [S.2.1]; exact hdg)
  have hgs : (F0 m pc ls rest).locals.size = c.maxLocals := by show ls.size = c.maxLocals; rw [hsize, S.2.2.1]
  have hdg' : decode c.code (F0 m pc ls rest).pc = .ok (.invokevirtual index, 3) := by rw [S.2.1]; exact hdg
  obtain ⟨U, hU⟩ : ∃ U, U = T0.setVm vm₁ := ⟨_, rfl⟩
  have hUh : U.heap = H := by rw [hU]; exact hT
  rw [← hU] at X₁ hstep₁
  have hat : At U (F0 m pc ls rest).method c below := X₁.here
  have hnU := X₁.named hnamed
  have wU : ∀ w ∈ Ts, ∀ a' : Array Value, w.before a' U = true := fun w hw a' => hB.1 w hw a' U (State.WarmedH.trans E.1 X₁.warmed)
  obtain ⟨methY, cY, hmY, hcY, -, hlY, -, -, -, -⟩ := Cond.code_spec hnU (wU _ w4 #[])
  obtain ⟨kY, hkY, -⟩ := className_of_methodNamed hnU
  have hinitY : kY.init = .initialized := Cond.initialized_spec (findClass_of_methodNamed hnU) hkY (wU _ w5 #[])
  have happ : (headSpec [Cond.code y b1 n1 r1] (so_rm k1 mc ms)).appliesLoose y e.platform (U.calling (F0 m pc ls rest) mk (Value.ref o :: As).toArray) = true :=
    Spec.appliesLoose_calling (g := F0 m pc ls rest) hat hdg' hnU hkY hinitY
      (X₁.room_calling (g := F0 m pc ls rest) (R' := so_rm k1 mc ms) hgs hmY hcY (by show k1 + 1 ≤ k; omega) (by
        show 2 * 0 + (rest.map fun v => v.category).sum + (cY.maxLocals + 11) + 32 * k1 ≤ 32 * k
        rw [hlY]
        omega) hc1 hs1) (atoms_intro fun w hw => by rw [List.mem_singleton.mp hw]; exact wU _ w4 _)
  obtain ⟨mid, hmid⟩ := hat.above
  have hfr : (U.setTop (F0 m pc ls rest)).frames = (.java (F0 m pc ls rest) :: mid) ++ below := by rw [State.frames_setTop' _ hat.top, hmid]; rfl
  have hPre : va_Pc (.ref o :: As) (so_Pre s0 D cl σ) (Value.ref o :: As).toArray (U.calling (F0 m pc ls rest) mk (Value.ref o :: As).toArray) :=
    so_blind _ _ _ _ ⟨rfl, E.at hS hUh X₁.warmed, by rw [hUh]; exact hP⟩
  obtain ⟨oc, s₂, hsteps, -, hend, ⟨hq, hF⟩, hWE, L, hsame, hL⟩ := Steps.callFree hM p X.admits X.cas X.clock (acts := []) hfr happ hPre trivial
  rw [State.frames_setTop' _ hat.top] at hend
  have hsame0 := hsame
  obtain ⟨e2, q2', q3', q4', q5', q6'⟩ := hsame
  have e3 : s₂ = ({ (U.calling (F0 m pc ls rest) mk (Value.ref o :: As).toArray).setFrames s₂.frames with heap := s₂.heap, slotsUsed := s₂.slotsUsed } : State).setVm s₂.vm := by
    have h3 := congrArg (fun z : State => z.setVm s₂.vm) e2
    exact h3
  have hW' : U.WarmedH s₂.vm := hWE
  obtain ⟨g₀, hg0⟩ := Option.isSome_iff_exists.mp hat.top
  obtain ⟨r, hr⟩ := State.topJava?_eq_some.mp hg0
  obtain ⟨V, hV⟩ : ∃ V, V = ({ U with heap := s₂.heap, slotsUsed := s₂.slotsUsed } : State).setVm s₂.vm := ⟨_, rfl⟩
  have hsm : U.sameButNew ({ U with heap := s₂.heap, slotsUsed := s₂.slotsUsed } : State) L mc ms := by
    refine ⟨?_, q2', q3', q4', q5', q6'⟩
    obtain ⟨t, ht0, -⟩ := State.frames_cons hr
    show ({ U with heap := s₂.heap, slotsUsed := s₂.slotsUsed } : State) = { U.setFrames U.frames with heap := s₂.heap, slotsUsed := s₂.slotsUsed }
    rw [State.setFrames_self ht0]
  have XV : Stand p l e (so_rm k mcR msR) s m args below meth c V (locs ++ L) (cells + mc) (slots + ms) := by
    rw [hV]
    exact ⟨X₁.admits, X₁.cas, X₁.clock, X₁.frames, X₁.room, X₁.hears, X₁.method, X₁.code, (X₁.here.setHeapUsed s₂.heap s₂.slotsUsed).setVm hW'.alike, X₁.tail, State.WarmedH.trans X₁.warmed hW', X₁.limits, X₁.bytes, X₁.same.trans (hsm.setVm s.vm)⟩
  have hVh : V.heap = s₂.heap := by rw [hV]; rfl
  have hFh : H.size ≤ s₂.heap.size ∧ ∀ q : Nat, q < H.size → ¬ so_A s0.heap.size q → s₂.heap[q]? = H[q]? := by
    obtain ⟨f1, f2⟩ := hF
    have hch : (U.calling (F0 m pc ls rest) mk (Value.ref o :: As).toArray).heap = H := hUh
    have hch2 : ((U.setTop (F0 m pc ls rest)).pushFrame (.invoking mk (Value.ref o :: As).toArray)).heap = H := hUh
    rw [hch2] at f1 f2
    exact ⟨f1, f2⟩
  have hS' : va_S (so_A s0.heap.size) s.heap V.heap (locs ++ L) := by
    rw [hVh]
    refine ⟨Nat.le_trans hS.1 hFh.1, fun q h1 h2 => (hFh.2 q (Nat.lt_of_lt_of_le h1 hS.1) h2).trans (hS.2.1 q h1 h2), fun q hq => ?_⟩
    rcases List.mem_append.mp hq with h | h
    · exact hS.2.2 q h
    · exact hL q h
  have go : ∀ t, Steps p.tables e below s₂ t → Steps p.tables e below (T0.setTop (F0 m pc ls st0)) t := fun t h => hstep₁ _ fun acts => by rw [doInvoke_state]; exact hsteps.trans h
  have hV' : V.frames = .java g₀ :: r := by rw [hV]; exact hr
  rcases hq with ⟨v, σ1, hoc, hpost, hb⟩ | ⟨x, cell, C', hoc, hthr, hx1, hx2, hx3, hb⟩
  · subst hoc
    obtain ⟨c₂, i₂, len₂, hc₂, hd₂, hf₂⟩ := hend
    have hcc : c₂ = c := by
      have h1 : s₂.code? (F0 m pc ls rest).method = U.code? (F0 m pc ls rest).method := by rw [State.code?_eq, State.code?_eq, hW'.alike.method?]
      exact Option.some.inj (hc₂.symm.trans (h1.trans hat.code))
    subst hcc
    have hl3 : len₂ = 3 := by rw [hdg'] at hd₂; cases hd₂; rfl
    subst hl3
    have hs₂ : s₂ = V.setTop (F0 m (pc + 3) ls (v.toList ++ rest)) := by
      refine e3.trans ?_
      rw [hf₂, State.calling_eq hat.top, State.setFrames_setFrames, State.setTop_of_frames _ hV', hV, hr]
      rfl
    obtain ⟨t, a1, b1⟩ := kk v σ1 V.heap (locs ++ L) hpost (by rw [hVh]; exact hb) hS' V rfl XV
    rw [← hs₂] at a1
    exact ⟨t, go t a1, b1⟩
  · subst hoc
    have hf₂ : s₂.frames = .throwing x :: .java (F0 m pc ls rest) :: U.frames.tail := hend
    have hs₂ : s₂ = (V.setTop (F0 m pc ls rest)).pushFrame (.throwing x) := by
      refine e3.trans ?_
      rw [hf₂, State.calling_eq hat.top, State.setFrames_setFrames, State.pushFrame, State.frames_setTop _ hV', State.setTop_of_frames _ hV', State.setFrames_setFrames, hV, hr]
      rfl
    obtain ⟨t, a1, b1⟩ := kt x C' V.heap (locs ++ L) hthr ⟨cell, by rw [hVh]; exact hx1, hx2, by rw [E.1.alike.findClass]; exact hx3⟩ (by rw [hVh]; exact hb) hS' V rfl XV
    rw [← hs₂] at a1
    exact ⟨t, go t a1, b1⟩
end CT1

/-! What the start gives of the exceptions. -/
theorem st_grow {C n d : String} {V U : State} {A a : Array Value} {v : Value} (hf : U.fieldNamed? C n d true = V.fieldNamed? C n d true) (hh : ∀ (q : Nat) (x : Cell), V.heap[q]? = some x → U.heap[q]? = some x) (h : (Term.static C n d).eval A V none [] V = some v) : (Term.static C n d).eval a U none [] U = some v := by
  simp only [Term.eval, Option.bind_eq_bind] at h ⊢
  rw [hf]
  cases h1 : V.fieldNamed? C n d true with
  | none => simp [h1] at h
  | some q =>
    obtain ⟨x, k, sl⟩ := q
    cases h2 : k.statics with
    | none => simp [h1, h2] at h
    | some ad =>
      cases h3 : V.heap[ad]? with
      | none => simp [h1, h2, h3] at h
      | some cl =>
        simp only [h1, h2, h3, hh _ _ h3, Option.bind_some] at h ⊢
        exact h
theorem rf_keep {C n d : String} {s U : State} {A a : Array Value} (E : so_Kn s U) (h : (Cond.isRef (.static C n d)).before A s = true) : (Cond.isRef (.static C n d)).before a U = true := by
  have e2 := Cond.value_setVm (args := A) (o := none) E.1.alike (Cond.isRef (.static C n d)) [] rfl
  have h1 : (Cond.isRef (.static C n d)).before A (s.setVm U.vm) = true := by
    simp only [Cond.before, Cond.holds] at h ⊢
    rw [e2]
    exact h
  obtain ⟨v, hv, hr⟩ := Cond.isRef_spec h1
  have h2 : (Term.static C n d).eval a U none [] U = some v := st_grow (V := s.setVm U.vm) rfl (fun q x hq => by
    have hq : s.heap[q]? = some x := hq
    rw [E.2.2 q (Array.getElem?_eq_some_iff.mp hq).1]
    exact hq) hv
  simp only [Cond.before, Cond.holds, Cond.value, h2]
  cases v <;> first | rfl | cases hr
theorem ls_keep {C n d : String} {s U : State} {A a : Array Value} (E : so_Kn s U) (h : (Cond.laysStatic C n d).before A s = true) : (Cond.laysStatic C n d).before a U = true := by
  have h1 := Cond.laysStatic_setVm (args := A) E.1.alike h
  obtain ⟨c, k, i, f, ad, cell, g1, g2, g3, g4, g5, g6, g7, g8, g9⟩ := Cond.laysStatic_spec h1
  have g1 : U.vm.findClass C = some c := g1
  have g2 : U.fieldFound? C n d = some (c, k, i, f) := g2
  have g5 : s.heap[ad]? = some cell := g5
  have g5 : U.heap[ad]? = some cell := by rw [E.2.2 ad (Array.getElem?_eq_some_iff.mp g5).1]; exact g5
  simp [Cond.before, Cond.holds, Cond.value, g1, g2, g3, g4, g5, g6, g7, g8, g9]
theorem na_of {C E : String} {s : State} {A : Array Value} (h : (Cond.not (.castable C E)).before A s = true) : nA C E s := fun c0 c1 h0 h1 => by
  simp only [Cond.before, Cond.holds, Cond.value, h0, h1] at h
  revert h
  cases s.vm.assignable c0 c1
  · intro _; rfl
  · intro h; simp at h
theorem st_X {l : Launch} {s : State} {A : Array Value} (hfg : l.flags = flags0) (hts : ∀ w ∈ lw_tbl, w.before A s = true) (hfl : ∀ w ∈ flatC (Jvm.Cond.and given_1 narrow_1), w.before A s = true) : exX l s := by
  refine ⟨fun e ha => Launch.traces_off hfg ha, ?_, ?_, na_of (hfl _ (by decide +kernel)), na_of (hfl _ (by decide +kernel)), na_of (hfl _ (by decide +kernel))⟩
  · intro w hw a U E
    rcases List.mem_cons.mp hw with rfl | hw
    · exact rf_keep E (hfl _ (by decide +kernel))
    rcases List.mem_cons.mp hw with rfl | hw
    · exact rf_keep E (hfl _ (by decide +kernel))
    rcases List.mem_cons.mp hw with rfl | hw
    · exact ls_keep E (hts _ wd_281)
    rcases List.mem_cons.mp hw with rfl | hw
    · exact ls_keep E (hts _ wd_283)
    cases hw
  · have hin : ∀ q ∈ exst, Cond.stringRef "HoldMaps" q.1 q.2 ∈ lw_tbl ∧ Cond.exactly (.string "HoldMaps" q.1) "java/lang/String" ∈ flatC (Jvm.Cond.and given_1 narrow_1) := by decide +kernel
    intro q hq
    obtain ⟨h1, h2⟩ := hin q hq
    obtain ⟨x, c, cell, k, q1, -⟩ := Cond.exactly_spec (hfl _ h2)
    exact ⟨x, fun U hW => vk_R.warm hW (vk_R.of (hts _ h1) q1)⟩

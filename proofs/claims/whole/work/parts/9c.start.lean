/-! What the start gives: the words of the tables under warmer tables, the classes, the JDK's empty row, the exceptions. -/
def wm_ok : Cond → Bool
  | .castable .. => true
  | .declares .. => true
  | .privateMethod .. => true
  | .methodLinkNest .. => true
  | .arrayClass .. => true
  | .arrayOver .. => true
  | w => w.onTables && w.keeps
theorem wm_all : tbl.all wm_ok = true := by decide +kernel
theorem wm_tbl : ∀ w ∈ tbl, wm_ok w = true := List.all_eq_true.mp wm_all
theorem wm_keep {w : Cond} {s U : State} {A a : Array Value} (hw : wm_ok w = true) (hW : s.WarmedH U.vm) (h : w.before A s = true) : w.before a U = true := by
  cases w
  case castable C T => exact va_tabs rfl (rfl : (s.setVm U.vm).vm = U.vm) ((Cond.castable_setVm (args := A) hW.alike C T).trans h)
  case declares x => exact va_tabs rfl (rfl : (s.setVm U.vm).vm = U.vm) ((Cond.declares_setVm (args := A) hW.alike x).trans h)
  case privateMethod x => exact va_tabs rfl (rfl : (s.setVm U.vm).vm = U.vm) ((Cond.privateMethod_setVm (args := A) hW.alike x).trans h)
  case methodLinkNest => exact va_tabs rfl (rfl : (s.setVm U.vm).vm = U.vm) (Cond.methodLinkNest_warmed (args := A) hW h)
  case arrayClass ty =>
    have e : (Cond.arrayClass ty).before a U = (Cond.arrayClass ty).before A (s.setVm U.vm) := rfl
    rw [e]
    have e2 := Cond.value_setVm (args := A) (o := none) hW.alike (Cond.arrayClass ty) [] rfl
    simp only [Cond.before, Cond.holds] at h ⊢
    rw [e2]
    exact h
  case arrayOver ty =>
    have e : (Cond.arrayOver ty).before a U = (Cond.arrayOver ty).before A (s.setVm U.vm) := rfl
    rw [e, Cond.arrayOver_setVmC hW.alike]
    exact h
  all_goals
    simp only [wm_ok, Bool.and_eq_true] at hw
    exact Cond.onTables_warm (T := U) hW hw.1 hw.2 h
theorem kn_cl {s : State} {A : Array Value} (hts : ∀ w ∈ tbl, w.before A s = true) : ∀ c : Nat, ∃ d : ClassId × (Nat → Nat), ∀ q : vw_C, vcl[c]? = some q → u_Kn s q.1 q.2.1 q.2.2 d.1 d.2 := by
  intro c
  have mk : ∀ {C : String} {T : u_T} {N n : Nat}, vcl[c]? = some (C, T, N) → (∀ w ∈ u_ws C T N, w ∈ tbl) → Cond.instantiable C n ∈ tbl → ∃ d : ClassId × (Nat → Nat), ∀ q : vw_C, vcl[c]? = some q → u_Kn s q.1 q.2.1 q.2.2 d.1 d.2 := by
    intro C T N n hc hin hi
    obtain ⟨cC, iS, h⟩ := u_known hts hin (hts _ hi)
    refine ⟨(cC, iS), fun q hq => ?_⟩
    cases hc.symm.trans hq
    exact h
  rcases c with _ | _ | _ | _ | _ | _ | _ | _ | _ | _ | _ | c
  · exact mk rfl i_HM wd_29
  · exact mk rfl i_He wd_37
  · exact mk rfl i_Th wd_343
  · exact mk rfl i_En wd_482
  · exact mk rfl i_We wd_61
  · exact mk rfl i_So wd_137
  · exact mk rfl i_Id wd_154
  · exact mk rfl i_Pl wd_172
  · exact mk rfl i_La wd_183
  · exact mk rfl i_AL wd_73
  · exact mk rfl i_Mo wd_853
  · exact ⟨(0, fun _ => 0), fun q hq => by cases hq⟩
theorem kn_ar {s : State} {A : Array Value} (hts : ∀ w ∈ tbl, w.before A s = true) : ∃ ca : Nat → ClassId, ∀ (k : Nat) (q : ClassId × FieldType), (tyl ca)[k]? = some q → ArrOfT s q.1 q.2 ∧ va_RA s q.1 q.2 := by
  have pr : ∀ {ty : FieldType}, Cond.arrayClass ty ∈ tbl → ∃ c : ClassId, ArrOfT s c ty ∧ s.vm.findClass ("[" ++ ty.toString) = some c := fun {ty} hw => by
    obtain ⟨c, k, comp, h1, h2, h3⟩ := Cond.arrayClass_spec (hts _ hw)
    exact ⟨c, fun N z => ⟨(fun k h => by cases h), k, h2, comp, h3⟩, h1⟩
  have ob : ∀ {C : String}, Cond.arrayOver (.object C) ∈ tbl → ∃ c : ClassId, ArrOfT s c (.object C) ∧ va_RA s c (.object C) := fun {C} hw => by
    obtain ⟨comp, c, k, h1, h2, h3, h4, h5⟩ := Cond.arrayOver_spec (hts _ hw)
    exact ⟨c, fun N z => ⟨(fun k h => by cases h), k, h3, comp, h4⟩, k, comp, h3, h4, h1, h5⟩
  obtain ⟨c0, a0, b0⟩ := pr wd_59
  obtain ⟨c1, a1, b1⟩ := pr wd_913
  obtain ⟨c2, a2, b2⟩ := pr wd_1069
  obtain ⟨c3, a3, b3⟩ := ob wd_43
  obtain ⟨c4, a4, b4⟩ := ob wd_152
  obtain ⟨c5, a5, b5⟩ := ob wd_160
  obtain ⟨c6, a6, b6⟩ := ob wd_588
  refine ⟨fun k => [c0, c1, c2, c3, c4, c5, c6].getD k 0, fun k q hk => ?_⟩
  rcases k with _ | _ | _ | _ | _ | _ | _ | k
  · cases hk; exact ⟨a0, b0⟩
  · cases hk; exact ⟨a1, b1⟩
  · cases hk; exact ⟨a2, b2⟩
  · cases hk; exact ⟨a3, b3⟩
  · cases hk; exact ⟨a4, b4⟩
  · cases hk; exact ⟨a5, b5⟩
  · cases hk; exact ⟨a6, b6⟩
  · cases hk
theorem st_B {s : State} {A : Array Value} (hts : ∀ w ∈ tbl, w.before A s = true) : ∃ D ca, so_B tbl s D vcl (tyl ca) := by
  obtain ⟨f, hf⟩ := Classical.skolem.mp (kn_cl hts)
  obtain ⟨ca, hca⟩ := kn_ar hts
  exact ⟨(fun c => (f c).1, fun c => (f c).2), ca, fun w hw a U hW => wm_keep (wm_tbl w hw) hW (hts w hw), fun c q hq => hf c q hq, hca⟩
theorem st_J {s : State} {A : Array Value} (hts : ∀ w ∈ lw_tbl, w.before A s = true) (hfl : ∀ w ∈ flatC (Jvm.Cond.and given_1 narrow_1), w.before A s = true) (D : va_G) (ca : Nat → ClassId) : ∃ DE mi, jX s D ca DE mi := by
  have hex : (Cond.exactly (.static "java/util/ArrayList" "DEFAULTCAPACITY_EMPTY_ELEMENTDATA" "[Ljava/lang/Object;") "[Ljava/lang/Object;").before A s = true := hfl _ (by decide +kernel)
  have har : (Cond.arrayOf (.static "java/util/ArrayList" "DEFAULTCAPACITY_EMPTY_ELEMENTDATA" "[Ljava/lang/Object;") (.object "java/lang/Object")).before A s = true := hfl _ (by decide +kernel)
  have hle : (Cond.eq (.length (.static "java/util/ArrayList" "DEFAULTCAPACITY_EMPTY_ELEMENTDATA" "[Ljava/lang/Object;")) (.int 0)).before A s = true := hfl _ (by decide +kernel)
  have hmi : (Cond.isRef (.mirror "[Ljava/lang/Object;")).before A s = true := hfl _ (by decide +kernel)
  obtain ⟨DE, c, cell, k, q1, q2, q3, q4, q5, q6, -⟩ := Cond.exactly_spec hex
  obtain ⟨hA, hV⟩ := Cond.arrayOf_spec har q1 q3
  obtain ⟨y, e1, e2⟩ := Cond.eq_one hle
  obtain ⟨a2, cell2, f1, f2, f3⟩ := Term.length_spec e1
  cases q1.symm.trans f1
  obtain ⟨f4, -⟩ := State.arrayAt?_spec f2
  cases q3.symm.trans f4
  have e3 : y = .int 0 := (Option.some.inj e2).symm
  have e4 : cell.slots.size.toInt32 = 0 := by
    rw [f3] at e3
    exact Value.int.inj e3
  obtain ⟨mi, hM⟩ := va_Mi.of hmi
  exact ⟨DE, mi, va_Zof (hts _ wd_85) (hts _ (List.mem_filter.mp wd_8).1) q1 (fun a h => Nat.not_le.mpr h), ⟨(Array.getElem?_eq_some_iff.mp q3).1, cell, q3, hA, e4⟩, hM⟩

/-! The reference: root, refer, make, count, walk, over the model. -/
theorem mpR.ext {R R1 : Rf} {q : Mps} (h8 : R1.2.1 8 = R.2.1 8) (h9 : R1.2.1 9 = R.2.1 9) (h10 : R1.2.1 10 = R.2.1 10) (h11 : R1.2.1 11 = R.2.1 11) (h : mpR R q) : mpR R1 q := by
  obtain ⟨a, ⟨b1, b2, b3⟩, ⟨c1, c2⟩, ⟨d1, d2⟩, e⟩ := h
  refine ⟨?_, ⟨?_, ?_, b3⟩, ⟨?_, by rw [h11]; exact c2⟩, ⟨?_, by rw [h11]; exact d2⟩, ?_⟩
  · unfold rowR; rw [h8, h9, h11]; exact a
  · unfold rowR; rw [h8, h9, h11]; exact b1
  · unfold useR; rw [h10]; exact b2
  · unfold idR slR; rw [h8, h9]; exact c1
  · unfold plR ppR; rw [h8, h9]; exact d1
  · unfold rowR; rw [h8, h9, h11]; exact e
set_option maxHeartbeats 400000 in
set_option maxRecDepth 100000 in
theorem c_Mo_root (l : Launch) {s0 : State} {D : va_G} {ca : Nat → ClassId} (hB : so_B tbl s0 D vcl (tyl ca)) {σ : so_S} {mo : Nat} {ar : Nat → Nat} {R : Rf} (M : MoR ca σ mo ar R) {o : Obs} {q : Mps} {n : Nms} {k : Wks} (h0 : refR R o q n k) (x : Int32) (b : Bool) : mo_C l s0 D ca mo ar σ y_Mo_root b_Mo_root 4 (some .boolean) 1 [.int x, .int (bI b)] (fun v R1 => (al_O o x = false ∧ v = some (.int 0) ∧ R1.1 0 = 1 ∧ refR R1 o q n k) ∨ (∃ j, j < 32 ∧ x = nI j ∧ o.1 j = true ∧ v = some (.int (bI (o.2.2.1 j))) ∧ R1.1 0 = 0 ∧ refR R1 (o.1, o.2.1, va_up o.2.2.1 j b, o.2.2.2) q n k)) := by
  refine so_of hB (by decide) (Nat.le_of_ble_eq_true rfl) ?_
  intro p e s m below meth c ls S K E hr hlk hnm P hS hl
  have hl : lv_has ls 4 [(0, .ref mo), (1, .int x), (2, .int (bI b))] := hl
  have F : fM σ σ := fM.rf
  refine lv_aload_n S.1 S.2.1 d_Mo_root_0 rfl (lv_at hl 0 rfl) ?_
  refine lv_iconst (v := 0) S.1 S.2.1 d_Mo_root_1 (by decide) ?_
  refine mo_pz_57 S K P hS M F d_Mo_root_2 (fun σ H locs P hS M F => ?_)
  refine lv_aload_n S.1 S.2.1 d_Mo_root_5 rfl (lv_at hl 0 rfl) ?_
  refine lv_iload_n S.1 S.2.1 d_Mo_root_6 rfl (lv_at hl 1 rfl) ?_
  refine so_callR (cv_Mo_64_Mo S hB K E P hS M.1 (c_Mo_isObject l hB M x) rfl (by decide) (Nat.le_refl _) (Nat.le_refl _) hl.1 rfl (Nat.le_of_ble_eq_true rfl) d_Mo_root_7) (fun v hv => ?_)
  subst hv
  refine lv_if_ne (tgt := 20) S.1 S.2.1 d_Mo_root_10 rfl (fun h10 => ?_) (fun h10 => ?_)
  · have hx : is_O R x = true := bI_1 h10
    obtain ⟨j, hj, rfl, hal⟩ := is_cases hx
    refine lv_aload_n S.1 S.2.1 d_Mo_root_20 rfl (lv_at hl 0 rfl) ?_
    refine gf_Mo_23_Mo S K P M.1 rfl d_Mo_root_21 ?_
    refine lv_iload_n S.1 S.2.1 d_Mo_root_24 rfl (lv_at hl 1 rfl) ?_
    refine mo_zald S K P M 5 rfl j rfl (by show _ < 32; omega) d_Mo_root_25 ?_
    refine lv_istore_n S.1 S.2.1 d_Mo_root_26 rfl hl (by decide) rfl (fun ls hl => ?_)
    refine lv_aload_n S.1 S.2.1 d_Mo_root_27 rfl (lv_at hl 1 rfl) ?_
    refine gf_Mo_23_Mo S K P M.1 rfl d_Mo_root_28 ?_
    refine lv_iload_n S.1 S.2.1 d_Mo_root_31 rfl (lv_at hl 2 rfl) ?_
    refine lv_iload_n S.1 S.2.1 d_Mo_root_32 rfl (lv_at hl 3 rfl) ?_
    refine mo_zast S K P hS M F 5 rfl j b rfl rfl (by show _ < 32; omega) d_Mo_root_33 (fun σ H locs P hS M F => ?_)
    refine lv_iload_n S.1 S.2.1 d_Mo_root_34 rfl (lv_at hl 0 rfl) ?_
    refine so_zret S hr (by first | rfl | exact bI_nar _) hlk P hS (Nat.le_refl _) (Nat.le_refl _) ⟨_, ?_, M, F⟩ d_Mo_root_35
    have hoj := (h0.1 j hj)
    rw [hoj.1] at hal
    refine Or.inr ⟨j, hj, rfl, hal, by rw [← (hoj.2 hal).2.1]; rfl, rfl, ⟨fun i hi => ?_, h0.2.1, h0.2.2.1, h0.2.2.2⟩⟩
    have hoi := h0.1 i hi
    refine ⟨hoi.1, fun ha => ⟨(hoi.2 ha).1, ?_, (hoi.2 ha).2.2⟩⟩
    show va_up (R.2.2 5) j b i = va_up o.2.2.1 j b i
    unfold va_up
    split
    · rfl
    · exact (hoi.2 ha).2.1
  · refine lv_aload_n S.1 S.2.1 d_Mo_root_13 rfl (lv_at hl 0 rfl) ?_
    refine lv_iconst (v := 1) S.1 S.2.1 d_Mo_root_14 (by decide) ?_
    refine mo_pz_57 S K P hS M F d_Mo_root_15 (fun σ H locs P hS M F => ?_)
    refine lv_iconst (v := 0) S.1 S.2.1 d_Mo_root_18 (by decide) ?_
    refine so_zret S hr (by first | rfl | exact bI_nar _) hlk P hS (Nat.le_refl _) (Nat.le_refl _) ⟨_, ?_, M, F⟩ d_Mo_root_19
    refine Or.inl ⟨?_, rfl, rfl, ⟨h0.1, h0.2.1, h0.2.2.1, h0.2.2.2⟩⟩
    rw [← is_al2 h0.1]
    exact (bI_0 _).mp h10
def rf_ok (o : Obs) (x w t : Int32) : Bool := al_O o x && (decide (¬ w < 0) && (decide (¬ 1 < w) && (decide (t = -1) || al_O o t)))
theorem wh_cases {w : Int32} (h1 : ¬ w < 0) (h2 : ¬ 1 < w) : w = nI 0 ∨ w = nI 1 := by
  obtain ⟨j, hj, rfl⟩ := ix_in (n := 2) (M := 2) (by decide) rfl h1 (fun q => h2 (by
    rw [Int32.le_iff_toInt_le] at q
    rw [Int32.lt_iff_toInt_lt]
    have e2 : (2 : Int32).toInt = 2 := by decide
    have e1 : (1 : Int32).toInt = 1 := by decide
    omega))
  rcases (show j = 0 ∨ j = 1 by omega) with rfl | rfl
  · exact Or.inl rfl
  · exact Or.inr rfl
/-- a reference's number: -1 for none -/
def tI (t : Int32) : Option Nat := if t = -1 then none else some t.toNatClampNeg
theorem tI_r {o : Obs} {t : Int32} (h : t = -1 ∨ al_O o t = true) : rI (tI t) = t := by
  unfold tI
  split
  · rename_i e; rw [e]; rfl
  · rename_i e
    obtain ⟨j, hj, rfl, -⟩ := al_cases (h.resolve_left e)
    show nI _ = _
    rw [nI_clamp (by omega)]
theorem obR.rf {R R1 : Rf} {o : Obs} {j wh : Nat} {t : Option Nat} (h : obR R o.1 o.2.1 o.2.2.1 o.2.2.2) (hw : wh < 2) (h1 : R1.2.1 1 = R.2.1 1) (hB : R1.2.2 = R.2.2) (h2 : R1.2.1 2 = if wh = 0 then upd (R.2.1 2) j (rI t) else R.2.1 2) (h3 : R1.2.1 3 = if wh = 1 then upd (R.2.1 3) j (rI t) else R.2.1 3) : obR R1 o.1 o.2.1 o.2.2.1 (va_up o.2.2.2 j (va_up (o.2.2.2 j) wh t)) := by
  intro i hi
  have hoi := h i hi
  rw [hB, h1, h2, h3]
  refine ⟨hoi.1, fun ha => ⟨(hoi.2 ha).1, (hoi.2 ha).2.1, ?_, ?_⟩⟩
  · unfold upd va_up
    by_cases c : i = j
    · subst c
      rw [if_pos rfl]
      by_cases c2 : wh = 0
      · subst c2; rw [if_pos rfl, if_pos rfl]; rfl
      · rw [if_neg c2, if_neg (by omega)]; exact (hoi.2 ha).2.2.1
    · rw [if_neg c]
      by_cases c2 : wh = 0
      · rw [if_pos c2]; simp only [if_neg c]; exact (hoi.2 ha).2.2.1
      · rw [if_neg c2]; exact (hoi.2 ha).2.2.1
  · unfold upd va_up
    by_cases c : i = j
    · subst c
      rw [if_pos rfl]
      by_cases c2 : wh = 1
      · subst c2; rw [if_pos rfl, if_pos rfl]; rfl
      · rw [if_neg c2, if_neg (by omega)]; exact (hoi.2 ha).2.2.2
    · rw [if_neg c]
      by_cases c2 : wh = 1
      · rw [if_pos c2]; simp only [if_neg c]; exact (hoi.2 ha).2.2.2
      · rw [if_neg c2]; exact (hoi.2 ha).2.2.2
set_option maxHeartbeats 400000 in
set_option maxRecDepth 100000 in
theorem c_Mo_refer (l : Launch) {s0 : State} {D : va_G} {ca : Nat → ClassId} (hB : so_B tbl s0 D vcl (tyl ca)) {σ : so_S} {mo : Nat} {ar : Nat → Nat} {R : Rf} (M : MoR ca σ mo ar R) {o : Obs} {q : Mps} {n : Nms} {k : Wks} (h0 : refR R o q n k) (x w t : Int32) : mo_C l s0 D ca mo ar σ y_Mo_refer b_Mo_refer 5 (some .int) 1 [.int x, .int w, .int t] (fun v R1 => (rf_ok o x w t = false ∧ v = some (.int 0) ∧ R1.1 0 = 1 ∧ refR R1 o q n k) ∨ (∃ j wh, j < 32 ∧ wh < 2 ∧ rf_ok o x w t = true ∧ x = nI j ∧ w = nI wh ∧ v = some (.int (rI (o.2.2.2 j wh))) ∧ R1.1 0 = 0 ∧ refR R1 (o.1, o.2.1, o.2.2.1, va_up o.2.2.2 j (va_up (o.2.2.2 j) wh (tI t))) q n k)) := by
  refine so_of hB (by decide) (Nat.le_of_ble_eq_true rfl) ?_
  intro p e s m below meth c ls S K E hr hlk hnm P hS hl
  have hl : lv_has ls 5 [(0, .ref mo), (1, .int x), (2, .int w), (3, .int t)] := hl
  have F : fM σ σ := fM.rf
  refine lv_aload_n S.1 S.2.1 d_Mo_refer_0 rfl (lv_at hl 0 rfl) ?_
  refine lv_iconst (v := 0) S.1 S.2.1 d_Mo_refer_1 (by decide) ?_
  refine mo_pz_57 S K P hS M F d_Mo_refer_2 (fun σ H locs P hS M F => ?_)
  refine lv_aload_n S.1 S.2.1 d_Mo_refer_5 rfl (lv_at hl 0 rfl) ?_
  refine lv_iload_n S.1 S.2.1 d_Mo_refer_6 rfl (lv_at hl 1 rfl) ?_
  refine so_callR (cv_Mo_64_Mo S hB K E P hS M.1 (c_Mo_isObject l hB M x) rfl (by decide) (Nat.le_refl _) (Nat.le_refl _) hl.1 rfl (Nat.le_of_ble_eq_true rfl) d_Mo_refer_7) (fun v hv => ?_)
  subst hv
  refine lv_if_eq (tgt := 35) S.1 S.2.1 d_Mo_refer_10 rfl (fun h10 => ?_) (fun h10 => ?_)
  · have hbad : rf_ok o x w t = false := by
      unfold rf_ok
      rw [← is_al2 h0.1 x, show is_O R x = false from (bI_0 _).mp h10]; rfl
    refine lv_aload_n S.1 S.2.1 d_Mo_refer_35 rfl (lv_at hl 0 rfl) ?_
    refine lv_iconst (v := 1) S.1 S.2.1 d_Mo_refer_36 (by decide) ?_
    refine mo_after F (cv_Mo_60_Mo S hB K E P hS M.1 (c_Mo_refuse l hB M 1) rfl (by decide) (Nat.le_refl _) (Nat.le_refl _) hl.1 rfl (Nat.le_of_ble_eq_true rfl) d_Mo_refer_37) hS (fun v R1 σ H locs hp P hS M F => ?_)
    obtain ⟨rfl, rfl⟩ := hp
    refine so_iret S hr hlk P hS (Nat.le_refl _) (Nat.le_refl _) ⟨_, ?_, M, F⟩ d_Mo_refer_40
    exact Or.inl ⟨hbad, rfl, rfl, ⟨h0.1, h0.2.1, h0.2.2.1, h0.2.2.2⟩⟩
  · have hx : is_O R x = true := bI_1 h10
    have hx2 : al_O o x = true := by rw [← is_al2 h0.1]; exact hx
    refine lv_iload_n S.1 S.2.1 d_Mo_refer_13 rfl (lv_at hl 2 rfl) ?_
    refine lv_if_lt (tgt := 35) S.1 S.2.1 d_Mo_refer_14 rfl (fun h14 => ?_) (fun h14 => ?_)
    · have hbad : rf_ok o x w t = false := by
        unfold rf_ok
        rw [hx2, decide_eq_false (show ¬ ¬ w < 0 from fun z => z h14)]; rfl
      refine lv_aload_n S.1 S.2.1 d_Mo_refer_35 rfl (lv_at hl 0 rfl) ?_
      refine lv_iconst (v := 1) S.1 S.2.1 d_Mo_refer_36 (by decide) ?_
      refine mo_after F (cv_Mo_60_Mo S hB K E P hS M.1 (c_Mo_refuse l hB M 1) rfl (by decide) (Nat.le_refl _) (Nat.le_refl _) hl.1 rfl (Nat.le_of_ble_eq_true rfl) d_Mo_refer_37) hS (fun v R1 σ H locs hp P hS M F => ?_)
      obtain ⟨rfl, rfl⟩ := hp
      refine so_iret S hr hlk P hS (Nat.le_refl _) (Nat.le_refl _) ⟨_, ?_, M, F⟩ d_Mo_refer_40
      exact Or.inl ⟨hbad, rfl, rfl, ⟨h0.1, h0.2.1, h0.2.2.1, h0.2.2.2⟩⟩
    · refine lv_iload_n S.1 S.2.1 d_Mo_refer_17 rfl (lv_at hl 2 rfl) ?_
      refine lv_iconst (v := 1) S.1 S.2.1 d_Mo_refer_18 (by decide) ?_
      refine lv_icmp_gt (tgt := 35) S.1 S.2.1 d_Mo_refer_19 rfl (fun h19 => ?_) (fun h19 => ?_)
      · have hbad : rf_ok o x w t = false := by
          unfold rf_ok
          rw [hx2, decide_eq_true h14, decide_eq_false (show ¬ ¬ 1 < w from fun z => z h19)]; rfl
        refine lv_aload_n S.1 S.2.1 d_Mo_refer_35 rfl (lv_at hl 0 rfl) ?_
        refine lv_iconst (v := 1) S.1 S.2.1 d_Mo_refer_36 (by decide) ?_
        refine mo_after F (cv_Mo_60_Mo S hB K E P hS M.1 (c_Mo_refuse l hB M 1) rfl (by decide) (Nat.le_refl _) (Nat.le_refl _) hl.1 rfl (Nat.le_of_ble_eq_true rfl) d_Mo_refer_37) hS (fun v R1 σ H locs hp P hS M F => ?_)
        obtain ⟨rfl, rfl⟩ := hp
        refine so_iret S hr hlk P hS (Nat.le_refl _) (Nat.le_refl _) ⟨_, ?_, M, F⟩ d_Mo_refer_40
        exact Or.inl ⟨hbad, rfl, rfl, ⟨h0.1, h0.2.1, h0.2.2.1, h0.2.2.2⟩⟩
      · refine lv_iload_n S.1 S.2.1 d_Mo_refer_22 rfl (lv_at hl 3 rfl) ?_
        refine lv_iconst (v := (-1)) S.1 S.2.1 d_Mo_refer_23 (by decide) ?_
        refine lv_icmp_eq (tgt := 41) S.1 S.2.1 d_Mo_refer_24 rfl (fun h24 => ?_) (fun h24 => ?_)
        · have ht : t = -1 ∨ al_O o t = true := by
            first | exact Or.inl h24 | exact Or.inr (by rw [← is_al2 h0.1]; exact bI_1 h32)
          have hok : rf_ok o x w t = true := by
            unfold rf_ok
            rw [hx2, decide_eq_true h14, decide_eq_true h19]
            rcases ht with z | z
            · rw [decide_eq_true z]; rfl
            · rw [z, Bool.or_true]; rfl
          obtain ⟨j, hj, rfl, hal⟩ := al_cases hx2
          have hoj := (h0.1 j hj).2 hal
          have etI := tI_r ht
          refine lv_iload_n S.1 S.2.1 d_Mo_refer_41 rfl (lv_at hl 2 rfl) ?_
          refine lv_if_ne (tgt := 54) S.1 S.2.1 d_Mo_refer_42 rfl (fun h42 => ?_) (fun h42 => ?_)
          · refine lv_aload_n S.1 S.2.1 d_Mo_refer_54 rfl (lv_at hl 0 rfl) ?_
            refine gf_Mo_16_Mo S K P M.1 rfl d_Mo_refer_55 ?_
            refine lv_iload_n S.1 S.2.1 d_Mo_refer_58 rfl (lv_at hl 1 rfl) ?_
            refine mo_iald S K P M 3 rfl j rfl (by show _ < 32; omega) d_Mo_refer_59 ?_
            refine lv_istore S.1 S.2.1 d_Mo_refer_60 hl (by decide) rfl (fun ls hl => ?_)
            refine lv_iload_n S.1 S.2.1 d_Mo_refer_62 rfl (lv_at hl 3 rfl) ?_
            refine lv_if_ne (tgt := 76) S.1 S.2.1 d_Mo_refer_63 rfl (fun h63 => ?_) (fun h63 => ?_)
            · refine lv_aload_n S.1 S.2.1 d_Mo_refer_76 rfl (lv_at hl 1 rfl) ?_
              refine gf_Mo_16_Mo S K P M.1 rfl d_Mo_refer_77 ?_
              refine lv_iload_n S.1 S.2.1 d_Mo_refer_80 rfl (lv_at hl 2 rfl) ?_
              refine lv_iload_n S.1 S.2.1 d_Mo_refer_81 rfl (lv_at hl 4 rfl) ?_
              refine mo_iast S K P hS M F 3 rfl j rfl (by show _ < 32; omega) d_Mo_refer_82 (fun σ H locs P hS M F => ?_)
              refine lv_iload S.1 S.2.1 d_Mo_refer_83 (lv_at hl 0 rfl) ?_
              refine so_iret S hr hlk P hS (Nat.le_refl _) (Nat.le_refl _) ⟨_, ?_, M, F⟩ d_Mo_refer_85
              refine Or.inr ⟨j, 1, hj, (by decide), hok, rfl, ?_, ?_, rfl, ⟨obR.rf h0.1 (by decide) rfl rfl ?_ ?_, mpR.ext rfl rfl rfl rfl h0.2.1, h0.2.2.1, h0.2.2.2⟩⟩
              · first | exact h42 | exact ((wh_cases h14 h19).resolve_left h42)
              · show some (Value.int (R.2.1 3 j)) = _
                rw [hoj.2.2.2]
              · rw [etI]; rfl
              · rw [etI]; rfl
            · exact absurd h63 h42
          · refine lv_aload_n S.1 S.2.1 d_Mo_refer_45 rfl (lv_at hl 0 rfl) ?_
            refine gf_Mo_13_Mo S K P M.1 rfl d_Mo_refer_46 ?_
            refine lv_iload_n S.1 S.2.1 d_Mo_refer_49 rfl (lv_at hl 1 rfl) ?_
            refine mo_iald S K P M 2 rfl j rfl (by show _ < 32; omega) d_Mo_refer_50 ?_
            refine lv_goto (tgt := 60) S.1 S.2.1 d_Mo_refer_51 rfl ?_
            refine lv_istore S.1 S.2.1 d_Mo_refer_60 hl (by decide) rfl (fun ls hl => ?_)
            refine lv_iload_n S.1 S.2.1 d_Mo_refer_62 rfl (lv_at hl 3 rfl) ?_
            refine lv_if_ne (tgt := 76) S.1 S.2.1 d_Mo_refer_63 rfl (fun h63 => ?_) (fun h63 => ?_)
            · exact absurd h42 h63
            · refine lv_aload_n S.1 S.2.1 d_Mo_refer_66 rfl (lv_at hl 1 rfl) ?_
              refine gf_Mo_13_Mo S K P M.1 rfl d_Mo_refer_67 ?_
              refine lv_iload_n S.1 S.2.1 d_Mo_refer_70 rfl (lv_at hl 2 rfl) ?_
              refine lv_iload_n S.1 S.2.1 d_Mo_refer_71 rfl (lv_at hl 4 rfl) ?_
              refine mo_iast S K P hS M F 2 rfl j rfl (by show _ < 32; omega) d_Mo_refer_72 (fun σ H locs P hS M F => ?_)
              refine lv_goto (tgt := 83) S.1 S.2.1 d_Mo_refer_73 rfl ?_
              refine lv_iload S.1 S.2.1 d_Mo_refer_83 (lv_at hl 0 rfl) ?_
              refine so_iret S hr hlk P hS (Nat.le_refl _) (Nat.le_refl _) ⟨_, ?_, M, F⟩ d_Mo_refer_85
              refine Or.inr ⟨j, 0, hj, (by decide), hok, rfl, ?_, ?_, rfl, ⟨obR.rf h0.1 (by decide) rfl rfl ?_ ?_, mpR.ext rfl rfl rfl rfl h0.2.1, h0.2.2.1, h0.2.2.2⟩⟩
              · first | exact h42 | exact ((wh_cases h14 h19).resolve_left h42)
              · show some (Value.int (R.2.1 2 j)) = _
                rw [hoj.2.2.1]
              · rw [etI]; rfl
              · rw [etI]; rfl
        · refine lv_aload_n S.1 S.2.1 d_Mo_refer_27 rfl (lv_at hl 0 rfl) ?_
          refine lv_iload_n S.1 S.2.1 d_Mo_refer_28 rfl (lv_at hl 3 rfl) ?_
          refine so_callR (cv_Mo_64_Mo S hB K E P hS M.1 (c_Mo_isObject l hB M t) rfl (by decide) (Nat.le_refl _) (Nat.le_refl _) hl.1 rfl (Nat.le_of_ble_eq_true rfl) d_Mo_refer_29) (fun v hv => ?_)
          subst hv
          refine lv_if_ne (tgt := 41) S.1 S.2.1 d_Mo_refer_32 rfl (fun h32 => ?_) (fun h32 => ?_)
          · have ht : t = -1 ∨ al_O o t = true := by
              first | exact Or.inl h24 | exact Or.inr (by rw [← is_al2 h0.1]; exact bI_1 h32)
            have hok : rf_ok o x w t = true := by
              unfold rf_ok
              rw [hx2, decide_eq_true h14, decide_eq_true h19]
              rcases ht with z | z
              · rw [decide_eq_true z]; rfl
              · rw [z, Bool.or_true]; rfl
            obtain ⟨j, hj, rfl, hal⟩ := al_cases hx2
            have hoj := (h0.1 j hj).2 hal
            have etI := tI_r ht
            refine lv_iload_n S.1 S.2.1 d_Mo_refer_41 rfl (lv_at hl 2 rfl) ?_
            refine lv_if_ne (tgt := 54) S.1 S.2.1 d_Mo_refer_42 rfl (fun h42 => ?_) (fun h42 => ?_)
            · refine lv_aload_n S.1 S.2.1 d_Mo_refer_54 rfl (lv_at hl 0 rfl) ?_
              refine gf_Mo_16_Mo S K P M.1 rfl d_Mo_refer_55 ?_
              refine lv_iload_n S.1 S.2.1 d_Mo_refer_58 rfl (lv_at hl 1 rfl) ?_
              refine mo_iald S K P M 3 rfl j rfl (by show _ < 32; omega) d_Mo_refer_59 ?_
              refine lv_istore S.1 S.2.1 d_Mo_refer_60 hl (by decide) rfl (fun ls hl => ?_)
              refine lv_iload_n S.1 S.2.1 d_Mo_refer_62 rfl (lv_at hl 3 rfl) ?_
              refine lv_if_ne (tgt := 76) S.1 S.2.1 d_Mo_refer_63 rfl (fun h63 => ?_) (fun h63 => ?_)
              · refine lv_aload_n S.1 S.2.1 d_Mo_refer_76 rfl (lv_at hl 1 rfl) ?_
                refine gf_Mo_16_Mo S K P M.1 rfl d_Mo_refer_77 ?_
                refine lv_iload_n S.1 S.2.1 d_Mo_refer_80 rfl (lv_at hl 2 rfl) ?_
                refine lv_iload_n S.1 S.2.1 d_Mo_refer_81 rfl (lv_at hl 4 rfl) ?_
                refine mo_iast S K P hS M F 3 rfl j rfl (by show _ < 32; omega) d_Mo_refer_82 (fun σ H locs P hS M F => ?_)
                refine lv_iload S.1 S.2.1 d_Mo_refer_83 (lv_at hl 0 rfl) ?_
                refine so_iret S hr hlk P hS (Nat.le_refl _) (Nat.le_refl _) ⟨_, ?_, M, F⟩ d_Mo_refer_85
                refine Or.inr ⟨j, 1, hj, (by decide), hok, rfl, ?_, ?_, rfl, ⟨obR.rf h0.1 (by decide) rfl rfl ?_ ?_, mpR.ext rfl rfl rfl rfl h0.2.1, h0.2.2.1, h0.2.2.2⟩⟩
                · first | exact h42 | exact ((wh_cases h14 h19).resolve_left h42)
                · show some (Value.int (R.2.1 3 j)) = _
                  rw [hoj.2.2.2]
                · rw [etI]; rfl
                · rw [etI]; rfl
              · exact absurd h63 h42
            · refine lv_aload_n S.1 S.2.1 d_Mo_refer_45 rfl (lv_at hl 0 rfl) ?_
              refine gf_Mo_13_Mo S K P M.1 rfl d_Mo_refer_46 ?_
              refine lv_iload_n S.1 S.2.1 d_Mo_refer_49 rfl (lv_at hl 1 rfl) ?_
              refine mo_iald S K P M 2 rfl j rfl (by show _ < 32; omega) d_Mo_refer_50 ?_
              refine lv_goto (tgt := 60) S.1 S.2.1 d_Mo_refer_51 rfl ?_
              refine lv_istore S.1 S.2.1 d_Mo_refer_60 hl (by decide) rfl (fun ls hl => ?_)
              refine lv_iload_n S.1 S.2.1 d_Mo_refer_62 rfl (lv_at hl 3 rfl) ?_
              refine lv_if_ne (tgt := 76) S.1 S.2.1 d_Mo_refer_63 rfl (fun h63 => ?_) (fun h63 => ?_)
              · exact absurd h42 h63
              · refine lv_aload_n S.1 S.2.1 d_Mo_refer_66 rfl (lv_at hl 1 rfl) ?_
                refine gf_Mo_13_Mo S K P M.1 rfl d_Mo_refer_67 ?_
                refine lv_iload_n S.1 S.2.1 d_Mo_refer_70 rfl (lv_at hl 2 rfl) ?_
                refine lv_iload_n S.1 S.2.1 d_Mo_refer_71 rfl (lv_at hl 4 rfl) ?_
                refine mo_iast S K P hS M F 2 rfl j rfl (by show _ < 32; omega) d_Mo_refer_72 (fun σ H locs P hS M F => ?_)
                refine lv_goto (tgt := 83) S.1 S.2.1 d_Mo_refer_73 rfl ?_
                refine lv_iload S.1 S.2.1 d_Mo_refer_83 (lv_at hl 0 rfl) ?_
                refine so_iret S hr hlk P hS (Nat.le_refl _) (Nat.le_refl _) ⟨_, ?_, M, F⟩ d_Mo_refer_85
                refine Or.inr ⟨j, 0, hj, (by decide), hok, rfl, ?_, ?_, rfl, ⟨obR.rf h0.1 (by decide) rfl rfl ?_ ?_, mpR.ext rfl rfl rfl rfl h0.2.1, h0.2.2.1, h0.2.2.2⟩⟩
                · first | exact h42 | exact ((wh_cases h14 h19).resolve_left h42)
                · show some (Value.int (R.2.1 2 j)) = _
                  rw [hoj.2.2.1]
                · rw [etI]; rfl
                · rw [etI]; rfl
          · have hbad : rf_ok o x w t = false := by
              unfold rf_ok
              rw [hx2, decide_eq_true h14, decide_eq_true h19, decide_eq_false h24, ← is_al2 h0.1 t, show is_O R t = false from (bI_0 _).mp h32]; rfl
            refine lv_aload_n S.1 S.2.1 d_Mo_refer_35 rfl (lv_at hl 0 rfl) ?_
            refine lv_iconst (v := 1) S.1 S.2.1 d_Mo_refer_36 (by decide) ?_
            refine mo_after F (cv_Mo_60_Mo S hB K E P hS M.1 (c_Mo_refuse l hB M 1) rfl (by decide) (Nat.le_refl _) (Nat.le_refl _) hl.1 rfl (Nat.le_of_ble_eq_true rfl) d_Mo_refer_37) hS (fun v R1 σ H locs hp P hS M F => ?_)
            obtain ⟨rfl, rfl⟩ := hp
            refine so_iret S hr hlk P hS (Nat.le_refl _) (Nat.le_refl _) ⟨_, ?_, M, F⟩ d_Mo_refer_40
            exact Or.inl ⟨hbad, rfl, rfl, ⟨h0.1, h0.2.1, h0.2.2.1, h0.2.2.2⟩⟩
def isFr (al : Nat → Bool) (x : Nat) : Prop := x < 32 ∧ al x = false ∧ ∀ i, i < x → al i = true
theorem obR.mk {R R1 : Rf} {o : Obs} {x v : Nat} (h : obR R o.1 o.2.1 o.2.2.1 o.2.2.2) (h1 : R1.2.1 1 = upd (R.2.1 1) x (nI v)) (h2 : R1.2.1 2 = upd (R.2.1 2) x (-1)) (h3 : R1.2.1 3 = upd (R.2.1 3) x (-1)) (h4 : R1.2.2 4 = va_up (R.2.2 4) x true) (h5 : R1.2.2 5 = va_up (R.2.2 5) x false) : obR R1 (va_up o.1 x true) (va_up o.2.1 x v) (va_up o.2.2.1 x false) (va_up o.2.2.2 x (fun _ => none)) := by
  intro i hi
  have hoi := h i hi
  rw [h1, h2, h3, h4, h5]
  unfold upd va_up
  by_cases c : i = x
  · simp only [if_pos c]
    exact ⟨trivial, fun _ => ⟨trivial, trivial, rfl, rfl⟩⟩
  · simp only [if_neg c]
    exact hoi
set_option maxHeartbeats 400000 in
set_option maxRecDepth 100000 in
theorem c_Mo_make (l : Launch) {s0 : State} {D : va_G} {ca : Nat → ClassId} (hB : so_B tbl s0 D vcl (tyl ca)) {σ : so_S} {mo : Nat} {ar : Nat → Nat} {R : Rf} (M : MoR ca σ mo ar R) {o : Obs} {q : Mps} {n : Nms} {k : Wks} (h0 : refR R o q n k) (x : Int32) : mo_C l s0 D ca mo ar σ y_Mo_make b_Mo_make 3 (some .int) 1 [.int x] (fun v R1 => ((x < 0 ∨ 99 < x) ∧ v = some (.int 0) ∧ R1.1 0 = 1 ∧ refR R1 o q n k) ∨ (¬ x < 0 ∧ ¬ 99 < x ∧ (∀ j, j < 32 → o.1 j = true) ∧ v = some (.int 0) ∧ R1.1 0 = 2 ∧ refR R1 o q n k) ∨ (∃ va i, va < 100 ∧ x = nI va ∧ isFr o.1 i ∧ v = some (.int (nI i)) ∧ R1.1 0 = 0 ∧ refR R1 (va_up o.1 i true, va_up o.2.1 i va, va_up o.2.2.1 i false, va_up o.2.2.2 i (fun _ => none)) q n k)) := by
  refine so_of hB (by decide) (Nat.le_of_ble_eq_true rfl) ?_
  intro p e s m below meth c ls S K E hr hlk hnm P hS hl
  have hl : lv_has ls 3 [(0, .ref mo), (1, .int x)] := hl
  have F : fM σ σ := fM.rf
  refine lv_aload_n S.1 S.2.1 d_Mo_make_0 rfl (lv_at hl 0 rfl) ?_
  refine lv_iconst (v := 0) S.1 S.2.1 d_Mo_make_1 (by decide) ?_
  refine mo_pz_57 S K P hS M F d_Mo_make_2 (fun σ H locs P hS M F => ?_)
  refine lv_iload_n S.1 S.2.1 d_Mo_make_5 rfl (lv_at hl 1 rfl) ?_
  refine lv_if_lt (tgt := 15) S.1 S.2.1 d_Mo_make_6 rfl (fun h6 => ?_) (fun h6 => ?_)
  · refine lv_aload_n S.1 S.2.1 d_Mo_make_15 rfl (lv_at hl 0 rfl) ?_
    refine lv_iconst (v := 1) S.1 S.2.1 d_Mo_make_16 (by decide) ?_
    refine mo_after F (cv_Mo_60_Mo S hB K E P hS M.1 (c_Mo_refuse l hB M 1) rfl (by decide) (Nat.le_refl _) (Nat.le_refl _) hl.1 rfl (Nat.le_of_ble_eq_true rfl) d_Mo_make_17) hS (fun v R1 σ H locs hp P hS M F => ?_)
    obtain ⟨rfl, rfl⟩ := hp
    refine so_iret S hr hlk P hS (Nat.le_refl _) (Nat.le_refl _) ⟨_, ?_, M, F⟩ d_Mo_make_20
    refine Or.inl ⟨?_, rfl, rfl, ⟨h0.1, h0.2.1, h0.2.2.1, h0.2.2.2⟩⟩
    first | exact Or.inl h6 | exact Or.inr (i_nle h12)
  · refine lv_iload_n S.1 S.2.1 d_Mo_make_9 rfl (lv_at hl 1 rfl) ?_
    refine lv_bipush (v := 99) S.1 S.2.1 d_Mo_make_10 (by decide) ?_
    refine lv_icmp_le (tgt := 21) S.1 S.2.1 d_Mo_make_12 rfl (fun h12 => ?_) (fun h12 => ?_)
    · refine lv_iconst (v := 0) S.1 S.2.1 d_Mo_make_21 (by decide) ?_
      refine lv_istore_n S.1 S.2.1 d_Mo_make_22 rfl hl (by decide) rfl (fun ls hl => ?_)
      refine so_lpR (Wf := fun ls (_ : Nat) => W p l e _ s m _ below meth c _ _ _ _ _ (F0 m 23 ls [])) (fun n1 ls i => n1 = 32 - i ∧ i ≤ 32 ∧ (∀ j, j < i → o.1 j = true) ∧ lv_has ls 3 [(2, .int (nI i)), (0, .ref mo), (1, .int x)]) ?_ _ ls 0 ⟨rfl, Nat.zero_le _, fun j hj => absurd hj (Nat.not_lt_zero _), hl⟩
      clear hl
      intro n1 ls i ⟨hn1, hi1, hall, hl⟩ ih
      refine lv_iload_n S.1 S.2.1 d_Mo_make_23 rfl (lv_at hl 0 rfl) ?_
      refine lv_bipush (v := 32) S.1 S.2.1 d_Mo_make_24 (by decide) ?_
      refine lv_icmp_ge (tgt := 44) S.1 S.2.1 d_Mo_make_26 rfl (fun h26 => ?_) (fun h26 => ?_)
      · refine lv_iload_n S.1 S.2.1 d_Mo_make_44 rfl (lv_at hl 0 rfl) ?_
        refine lv_bipush (v := 32) S.1 S.2.1 d_Mo_make_45 (by decide) ?_
        refine lv_icmp_ne (tgt := 56) S.1 S.2.1 d_Mo_make_47 rfl (fun h47 => ?_) (fun h47 => ?_)
        · have hi3 : i < 32 := by
            have : i ≠ 32 := fun z => h47 (by rw [z]; rfl)
            omega
          have hfr : o.1 i = false := by
            rw [← (h0.1 i hi3).1]
            first
              | exact (bI_0 _).mp h35
              | exact absurd ((nI_leI (a := 32) (by decide) (by omega)).mp h26) (by omega)
          refine lv_aload_n S.1 S.2.1 d_Mo_make_56 rfl (lv_at hl 1 rfl) ?_
          refine gf_Mo_19_Mo S K P M.1 rfl d_Mo_make_57 ?_
          refine lv_iload_n S.1 S.2.1 d_Mo_make_60 rfl (lv_at hl 0 rfl) ?_
          refine lv_iconst (v := 1) S.1 S.2.1 d_Mo_make_61 (by decide) ?_
          refine mo_zast S K P hS M F 4 rfl i true rfl rfl (by show i < 32; omega) d_Mo_make_62 (fun σ H locs P hS M F => ?_)
          refine lv_aload_n S.1 S.2.1 d_Mo_make_63 rfl (lv_at hl 1 rfl) ?_
          refine gf_Mo_23_Mo S K P M.1 rfl d_Mo_make_64 ?_
          refine lv_iload_n S.1 S.2.1 d_Mo_make_67 rfl (lv_at hl 0 rfl) ?_
          refine lv_iconst (v := 0) S.1 S.2.1 d_Mo_make_68 (by decide) ?_
          refine mo_zast S K P hS M F 5 rfl i false rfl rfl (by show i < 32; omega) d_Mo_make_69 (fun σ H locs P hS M F => ?_)
          refine lv_aload_n S.1 S.2.1 d_Mo_make_70 rfl (lv_at hl 1 rfl) ?_
          refine gf_Mo_7_Mo S K P M.1 rfl d_Mo_make_71 ?_
          refine lv_iload_n S.1 S.2.1 d_Mo_make_74 rfl (lv_at hl 0 rfl) ?_
          refine lv_iload_n S.1 S.2.1 d_Mo_make_75 rfl (lv_at hl 2 rfl) ?_
          refine mo_iast S K P hS M F 1 rfl i rfl (by show i < 32; omega) d_Mo_make_76 (fun σ H locs P hS M F => ?_)
          refine lv_aload_n S.1 S.2.1 d_Mo_make_77 rfl (lv_at hl 1 rfl) ?_
          refine gf_Mo_13_Mo S K P M.1 rfl d_Mo_make_78 ?_
          refine lv_iload_n S.1 S.2.1 d_Mo_make_81 rfl (lv_at hl 0 rfl) ?_
          refine lv_iconst (v := (-1)) S.1 S.2.1 d_Mo_make_82 (by decide) ?_
          refine mo_iast S K P hS M F 2 rfl i rfl (by show i < 32; omega) d_Mo_make_83 (fun σ H locs P hS M F => ?_)
          refine lv_aload_n S.1 S.2.1 d_Mo_make_84 rfl (lv_at hl 1 rfl) ?_
          refine gf_Mo_16_Mo S K P M.1 rfl d_Mo_make_85 ?_
          refine lv_iload_n S.1 S.2.1 d_Mo_make_88 rfl (lv_at hl 0 rfl) ?_
          refine lv_iconst (v := (-1)) S.1 S.2.1 d_Mo_make_89 (by decide) ?_
          refine mo_iast S K P hS M F 3 rfl i rfl (by show i < 32; omega) d_Mo_make_90 (fun σ H locs P hS M F => ?_)
          refine lv_iload_n S.1 S.2.1 d_Mo_make_91 rfl (lv_at hl 0 rfl) ?_
          refine so_iret S hr hlk P hS (Nat.le_refl _) (Nat.le_refl _) ⟨_, ?_, M, F⟩ d_Mo_make_92
          obtain ⟨va, hva, rfl⟩ := ix_in (n := 100) (M := 100) (by decide) rfl h6 (fun z => (i_lt_nle (i_nle (fun z2 => absurd z2 (i_lt_nle (show (99 : Int32) < 100 by decide))))) (Int32.le_trans z h12))
          exact Or.inr (Or.inr ⟨va, i, hva, rfl, ⟨hi3, hfr, hall⟩, rfl, rfl, ⟨obR.mk h0.1 rfl rfl rfl rfl rfl, mpR.ext rfl rfl rfl rfl h0.2.1, h0.2.2.1, h0.2.2.2⟩⟩)
        · refine lv_aload_n S.1 S.2.1 d_Mo_make_50 rfl (lv_at hl 1 rfl) ?_
          refine lv_iconst (v := 2) S.1 S.2.1 d_Mo_make_51 (by decide) ?_
          refine mo_after F (cv_Mo_60_Mo S hB K E P hS M.1 (c_Mo_refuse l hB M 2) rfl (by decide) (Nat.le_refl _) (Nat.le_refl _) hl.1 rfl (Nat.le_of_ble_eq_true rfl) d_Mo_make_52) hS (fun v R1 σ H locs hp P hS M F => ?_)
          obtain ⟨rfl, rfl⟩ := hp
          refine so_iret S hr hlk P hS (Nat.le_refl _) (Nat.le_refl _) ⟨_, ?_, M, F⟩ d_Mo_make_55
          refine Or.inr (Or.inl ⟨h6, i_le_nlt h12, fun j hj => hall j ?_, rfl, rfl, ⟨h0.1, h0.2.1, h0.2.2.1, h0.2.2.2⟩⟩)
          have : i = 32 := (nI_eq (b := 32) (by omega) (by decide)).mp h47
          omega
      · have hlt : i < 32 := Nat.not_le.mp fun q => h26 (nI_le (a := 32) q (by omega))
        refine lv_aload_n S.1 S.2.1 d_Mo_make_29 rfl (lv_at hl 1 rfl) ?_
        refine gf_Mo_19_Mo S K P M.1 rfl d_Mo_make_30 ?_
        refine lv_iload_n S.1 S.2.1 d_Mo_make_33 rfl (lv_at hl 0 rfl) ?_
        refine mo_zald S K P M 4 rfl i rfl (by show i < 32; omega) d_Mo_make_34 ?_
        refine lv_if_eq (tgt := 44) S.1 S.2.1 d_Mo_make_35 rfl (fun h35 => ?_) (fun h35 => ?_)
        · refine lv_iload_n S.1 S.2.1 d_Mo_make_44 rfl (lv_at hl 0 rfl) ?_
          refine lv_bipush (v := 32) S.1 S.2.1 d_Mo_make_45 (by decide) ?_
          refine lv_icmp_ne (tgt := 56) S.1 S.2.1 d_Mo_make_47 rfl (fun h47 => ?_) (fun h47 => ?_)
          · have hi3 : i < 32 := by
              have : i ≠ 32 := fun z => h47 (by rw [z]; rfl)
              omega
            have hfr : o.1 i = false := by
              rw [← (h0.1 i hi3).1]
              first
                | exact (bI_0 _).mp h35
                | exact absurd ((nI_leI (a := 32) (by decide) (by omega)).mp h26) (by omega)
            refine lv_aload_n S.1 S.2.1 d_Mo_make_56 rfl (lv_at hl 1 rfl) ?_
            refine gf_Mo_19_Mo S K P M.1 rfl d_Mo_make_57 ?_
            refine lv_iload_n S.1 S.2.1 d_Mo_make_60 rfl (lv_at hl 0 rfl) ?_
            refine lv_iconst (v := 1) S.1 S.2.1 d_Mo_make_61 (by decide) ?_
            refine mo_zast S K P hS M F 4 rfl i true rfl rfl (by show i < 32; omega) d_Mo_make_62 (fun σ H locs P hS M F => ?_)
            refine lv_aload_n S.1 S.2.1 d_Mo_make_63 rfl (lv_at hl 1 rfl) ?_
            refine gf_Mo_23_Mo S K P M.1 rfl d_Mo_make_64 ?_
            refine lv_iload_n S.1 S.2.1 d_Mo_make_67 rfl (lv_at hl 0 rfl) ?_
            refine lv_iconst (v := 0) S.1 S.2.1 d_Mo_make_68 (by decide) ?_
            refine mo_zast S K P hS M F 5 rfl i false rfl rfl (by show i < 32; omega) d_Mo_make_69 (fun σ H locs P hS M F => ?_)
            refine lv_aload_n S.1 S.2.1 d_Mo_make_70 rfl (lv_at hl 1 rfl) ?_
            refine gf_Mo_7_Mo S K P M.1 rfl d_Mo_make_71 ?_
            refine lv_iload_n S.1 S.2.1 d_Mo_make_74 rfl (lv_at hl 0 rfl) ?_
            refine lv_iload_n S.1 S.2.1 d_Mo_make_75 rfl (lv_at hl 2 rfl) ?_
            refine mo_iast S K P hS M F 1 rfl i rfl (by show i < 32; omega) d_Mo_make_76 (fun σ H locs P hS M F => ?_)
            refine lv_aload_n S.1 S.2.1 d_Mo_make_77 rfl (lv_at hl 1 rfl) ?_
            refine gf_Mo_13_Mo S K P M.1 rfl d_Mo_make_78 ?_
            refine lv_iload_n S.1 S.2.1 d_Mo_make_81 rfl (lv_at hl 0 rfl) ?_
            refine lv_iconst (v := (-1)) S.1 S.2.1 d_Mo_make_82 (by decide) ?_
            refine mo_iast S K P hS M F 2 rfl i rfl (by show i < 32; omega) d_Mo_make_83 (fun σ H locs P hS M F => ?_)
            refine lv_aload_n S.1 S.2.1 d_Mo_make_84 rfl (lv_at hl 1 rfl) ?_
            refine gf_Mo_16_Mo S K P M.1 rfl d_Mo_make_85 ?_
            refine lv_iload_n S.1 S.2.1 d_Mo_make_88 rfl (lv_at hl 0 rfl) ?_
            refine lv_iconst (v := (-1)) S.1 S.2.1 d_Mo_make_89 (by decide) ?_
            refine mo_iast S K P hS M F 3 rfl i rfl (by show i < 32; omega) d_Mo_make_90 (fun σ H locs P hS M F => ?_)
            refine lv_iload_n S.1 S.2.1 d_Mo_make_91 rfl (lv_at hl 0 rfl) ?_
            refine so_iret S hr hlk P hS (Nat.le_refl _) (Nat.le_refl _) ⟨_, ?_, M, F⟩ d_Mo_make_92
            obtain ⟨va, hva, rfl⟩ := ix_in (n := 100) (M := 100) (by decide) rfl h6 (fun z => (i_lt_nle (i_nle (fun z2 => absurd z2 (i_lt_nle (show (99 : Int32) < 100 by decide))))) (Int32.le_trans z h12))
            exact Or.inr (Or.inr ⟨va, i, hva, rfl, ⟨hi3, hfr, hall⟩, rfl, rfl, ⟨obR.mk h0.1 rfl rfl rfl rfl rfl, mpR.ext rfl rfl rfl rfl h0.2.1, h0.2.2.1, h0.2.2.2⟩⟩)
          · refine lv_aload_n S.1 S.2.1 d_Mo_make_50 rfl (lv_at hl 1 rfl) ?_
            refine lv_iconst (v := 2) S.1 S.2.1 d_Mo_make_51 (by decide) ?_
            refine mo_after F (cv_Mo_60_Mo S hB K E P hS M.1 (c_Mo_refuse l hB M 2) rfl (by decide) (Nat.le_refl _) (Nat.le_refl _) hl.1 rfl (Nat.le_of_ble_eq_true rfl) d_Mo_make_52) hS (fun v R1 σ H locs hp P hS M F => ?_)
            obtain ⟨rfl, rfl⟩ := hp
            refine so_iret S hr hlk P hS (Nat.le_refl _) (Nat.le_refl _) ⟨_, ?_, M, F⟩ d_Mo_make_55
            refine Or.inr (Or.inl ⟨h6, i_le_nlt h12, fun j hj => hall j ?_, rfl, rfl, ⟨h0.1, h0.2.1, h0.2.2.1, h0.2.2.2⟩⟩)
            have : i = 32 := (nI_eq (b := 32) (by omega) (by decide)).mp h47
            omega
        · refine lv_iinc (k := 0) S.1 S.2.1 d_Mo_make_38 hl rfl rfl (by decide) rfl (fun ls hl => ?_)
          refine lv_goto (tgt := 23) S.1 S.2.1 d_Mo_make_41 rfl ?_
          rw [nI_a] at hl
          refine ih (32 - (i + 1)) ls (i + 1) (by omega) ⟨rfl, by omega, fun j hj => ?_, hl⟩
          rcases Nat.lt_succ_iff_lt_or_eq.mp hj with h | h
          · exact hall j h
          · rw [h, ← (h0.1 i hlt).1]
            exact bI_1 h35
    · refine lv_aload_n S.1 S.2.1 d_Mo_make_15 rfl (lv_at hl 0 rfl) ?_
      refine lv_iconst (v := 1) S.1 S.2.1 d_Mo_make_16 (by decide) ?_
      refine mo_after F (cv_Mo_60_Mo S hB K E P hS M.1 (c_Mo_refuse l hB M 1) rfl (by decide) (Nat.le_refl _) (Nat.le_refl _) hl.1 rfl (Nat.le_of_ble_eq_true rfl) d_Mo_make_17) hS (fun v R1 σ H locs hp P hS M F => ?_)
      obtain ⟨rfl, rfl⟩ := hp
      refine so_iret S hr hlk P hS (Nat.le_refl _) (Nat.le_refl _) ⟨_, ?_, M, F⟩ d_Mo_make_20
      refine Or.inl ⟨?_, rfl, rfl, ⟨h0.1, h0.2.1, h0.2.2.1, h0.2.2.2⟩⟩
      first | exact Or.inl h6 | exact Or.inr (i_nle h12)
set_option maxHeartbeats 400000 in
set_option maxRecDepth 100000 in
theorem c_Mo_walk (l : Launch) {s0 : State} {D : va_G} {ca : Nat → ClassId} (hB : so_B tbl s0 D vcl (tyl ca)) {σ : so_S} {mo : Nat} {ar : Nat → Nat} {R : Rf} (M : MoR ca σ mo ar R) {o : Obs} {q : Mps} {n : Nms} {k : Wks} (h0 : refR R o q n k) (x : Int32) : mo_C l s0 D ca mo ar σ y_Mo_walk b_Mo_walk 2 none 1 [.int x] (fun v R1 => (is_M x = false ∧ v = none ∧ R1.1 0 = 1 ∧ refR R1 o q n k) ∨ (∃ j, j < 5 ∧ x = nI j ∧ v = none ∧ R1.1 0 = 0 ∧ refR R1 o q n (va_up k.1 j true, va_up k.2.1 j false, va_up k.2.2 j 0))) := by
  refine so_of hB (by decide) (Nat.le_of_ble_eq_true rfl) ?_
  intro p e s m below meth c ls S K E hr hlk hnm P hS hl
  have hl : lv_has ls 2 [(0, .ref mo), (1, .int x)] := hl
  have F : fM σ σ := fM.rf
  refine lv_aload_n S.1 S.2.1 d_Mo_walk_0 rfl (lv_at hl 0 rfl) ?_
  refine lv_aload_n S.1 S.2.1 d_Mo_walk_1 rfl (lv_at hl 0 rfl) ?_
  refine lv_iload_n S.1 S.2.1 d_Mo_walk_2 rfl (lv_at hl 1 rfl) ?_
  refine so_callR (cv_Mo_112_Mo S hB K E P hS M.1 (c_Mo_isMap l hB M x) rfl (by decide) (Nat.le_refl _) (Nat.le_refl _) hl.1 rfl (Nat.le_of_ble_eq_true rfl) d_Mo_walk_3) (fun v hv => ?_)
  subst hv
  refine lv_if_eq (tgt := 13) S.1 S.2.1 d_Mo_walk_6 rfl (fun h6 => ?_) (fun h6 => ?_)
  · refine lv_iconst (v := 1) S.1 S.2.1 d_Mo_walk_13 (by decide) ?_
    refine mo_pz_57 S K P hS M F d_Mo_walk_14 (fun σ H locs P hS M F => ?_)
    refine lv_aload_n S.1 S.2.1 d_Mo_walk_17 rfl (lv_at hl 0 rfl) ?_
    refine gf_Mo_57_Mo S K P M.1 rfl d_Mo_walk_18 ?_
    refine lv_if_eq (tgt := 25) S.1 S.2.1 d_Mo_walk_21 rfl (fun h21 => ?_) (fun h21 => ?_)
    · exact absurd h21 (by show ¬ (1 : Int32) = 0; decide)
    · refine so_vret S hr hlk P hS (Nat.le_refl _) (Nat.le_refl _) ⟨_, ?_, M, F⟩ d_Mo_walk_24
      exact Or.inl ⟨(bI_0 _).mp h6, rfl, rfl, ⟨h0.1, h0.2.1, h0.2.2.1, h0.2.2.2⟩⟩
  · have hx : is_M x = true := bI_1 h6
    obtain ⟨j, hj, rfl⟩ := is_M_cases hx
    refine lv_iconst (v := 0) S.1 S.2.1 d_Mo_walk_9 (by decide) ?_
    refine lv_goto (tgt := 14) S.1 S.2.1 d_Mo_walk_10 rfl ?_
    refine mo_pz_57 S K P hS M F d_Mo_walk_14 (fun σ H locs P hS M F => ?_)
    refine lv_aload_n S.1 S.2.1 d_Mo_walk_17 rfl (lv_at hl 0 rfl) ?_
    refine gf_Mo_57_Mo S K P M.1 rfl d_Mo_walk_18 ?_
    refine lv_if_eq (tgt := 25) S.1 S.2.1 d_Mo_walk_21 rfl (fun h21 => ?_) (fun h21 => ?_)
    · refine lv_aload_n S.1 S.2.1 d_Mo_walk_25 rfl (lv_at hl 0 rfl) ?_
      refine gf_Mo_48_Mo S K P M.1 rfl d_Mo_walk_26 ?_
      refine lv_iload_n S.1 S.2.1 d_Mo_walk_29 rfl (lv_at hl 1 rfl) ?_
      refine lv_iconst (v := 1) S.1 S.2.1 d_Mo_walk_30 (by decide) ?_
      refine mo_zast S K P hS M F 15 rfl j true rfl rfl (by show j < 5; omega) d_Mo_walk_31 (fun σ H locs P hS M F => ?_)
      refine lv_aload_n S.1 S.2.1 d_Mo_walk_32 rfl (lv_at hl 0 rfl) ?_
      refine gf_Mo_51_Mo S K P M.1 rfl d_Mo_walk_33 ?_
      refine lv_iload_n S.1 S.2.1 d_Mo_walk_36 rfl (lv_at hl 1 rfl) ?_
      refine lv_iconst (v := 0) S.1 S.2.1 d_Mo_walk_37 (by decide) ?_
      refine mo_zast S K P hS M F 16 rfl j false rfl rfl (by show j < 5; omega) d_Mo_walk_38 (fun σ H locs P hS M F => ?_)
      refine lv_aload_n S.1 S.2.1 d_Mo_walk_39 rfl (lv_at hl 0 rfl) ?_
      refine gf_Mo_54_Mo S K P M.1 rfl d_Mo_walk_40 ?_
      refine lv_iload_n S.1 S.2.1 d_Mo_walk_43 rfl (lv_at hl 1 rfl) ?_
      refine lv_iconst (v := 0) S.1 S.2.1 d_Mo_walk_44 (by decide) ?_
      refine mo_iast S K P hS M F 17 rfl j rfl (by show j < 5; omega) d_Mo_walk_45 (fun σ H locs P hS M F => ?_)
      refine so_vret S hr hlk P hS (Nat.le_refl _) (Nat.le_refl _) ⟨_, ?_, M, F⟩ d_Mo_walk_46
      refine Or.inr ⟨j, hj, rfl, rfl, rfl, ⟨h0.1, mpR.ext rfl rfl rfl rfl h0.2.1, h0.2.2.1, fun i hi => ?_⟩⟩
      have hw := h0.2.2.2 i hi
      show va_up (R.2.2 15) j true i = va_up k.1 j true i ∧ va_up (R.2.2 16) j false i = va_up k.2.1 j false i ∧ upd (R.2.1 17) j 0 i = nI (va_up k.2.2 j 0 i)
      unfold va_up upd
      by_cases c : i = j
      · simp only [if_pos c]
        exact ⟨trivial, trivial, rfl⟩
      · simp only [if_neg c]
        exact hw
    · exact absurd rfl h21
def cb (f : Nat → Bool) : Nat → Nat
  | 0 => 0
  | n + 1 => cb f n + if f n = true then 1 else 0
theorem cb_le (f : Nat → Bool) (n : Nat) : cb f n ≤ n := by
  induction n with
  | zero => exact Nat.le_refl _
  | succ n ih => unfold cb; split <;> omega
def co_O (o : Obs) (n : Nms) (x : Int32) : Int32 := if x = 0 then nI (cb o.1 32) else if x = 1 then nI n.2.2 else if x = 2 then nI n.1 else if x = 3 then nI n.2.1 else -1
set_option maxHeartbeats 400000 in
set_option maxRecDepth 100000 in
theorem c_Mo_count (l : Launch) {s0 : State} {D : va_G} {ca : Nat → ClassId} (hB : so_B tbl s0 D vcl (tyl ca)) {σ : so_S} {mo : Nat} {ar : Nat → Nat} {R : Rf} (M : MoR ca σ mo ar R) {o : Obs} {q : Mps} {n : Nms} {k : Wks} (h0 : refR R o q n k) (x : Int32) : mo_C l s0 D ca mo ar σ y_Mo_count b_Mo_count 4 (some .int) 0 [.int x] (fun v R1 => v = some (.int (co_O o n x)) ∧ R1.1 0 = 0 ∧ refR R1 o q n k) := by
  refine so_of hB (by decide) (Nat.le_of_ble_eq_true rfl) ?_
  intro p e s m below meth c ls S K E hr hlk hnm P hS hl
  have hl : lv_has ls 4 [(0, .ref mo), (1, .int x)] := hl
  have F : fM σ σ := fM.rf
  refine lv_aload_n S.1 S.2.1 d_Mo_count_0 rfl (lv_at hl 0 rfl) ?_
  refine lv_iconst (v := 0) S.1 S.2.1 d_Mo_count_1 (by decide) ?_
  refine mo_pz_57 S K P hS M F d_Mo_count_2 (fun σ H locs P hS M F => ?_)
  refine lv_iconst (v := 0) S.1 S.2.1 d_Mo_count_5 (by decide) ?_
  refine lv_istore_n S.1 S.2.1 d_Mo_count_6 rfl hl (by decide) rfl (fun ls hl => ?_)
  refine lv_iconst (v := 0) S.1 S.2.1 d_Mo_count_7 (by decide) ?_
  refine lv_istore_n S.1 S.2.1 d_Mo_count_8 rfl hl (by decide) rfl (fun ls hl => ?_)
  refine so_lpR (Wf := fun ls (_ : Nat) => W p l e _ s m _ below meth c _ _ _ _ _ (F0 m 9 ls [])) (fun n1 ls i => n1 = 32 - i ∧ i ≤ 32 ∧ lv_has ls 4 [(3, .int (nI i)), (2, .int (nI (cb o.1 i))), (0, .ref mo), (1, .int x)]) ?_ _ ls 0 ⟨rfl, Nat.zero_le _, hl⟩
  clear hl
  intro n1 ls i ⟨hn1, hi1, hl⟩ ih
  have hcb := cb_le o.1 i
  refine lv_iload_n S.1 S.2.1 d_Mo_count_9 rfl (lv_at hl 0 rfl) ?_
  refine lv_bipush (v := 32) S.1 S.2.1 d_Mo_count_10 (by decide) ?_
  refine lv_icmp_ge (tgt := 38) S.1 S.2.1 d_Mo_count_12 rfl (fun h12 => ?_) (fun h12 => ?_)
  · have hi32 : i = 32 := by
      have := (nI_leI (a := 32) (by decide) (by omega)).mp h12
      omega
    subst hi32
    refine lv_iload_n S.1 S.2.1 d_Mo_count_38 rfl (lv_at hl 3 rfl) ?_
    refine lv_if_ne (tgt := 46) S.1 S.2.1 d_Mo_count_39 rfl (fun h39 => ?_) (fun h39 => ?_)
    · refine lv_iload_n S.1 S.2.1 d_Mo_count_46 rfl (lv_at hl 3 rfl) ?_
      refine lv_iconst (v := 1) S.1 S.2.1 d_Mo_count_47 (by decide) ?_
      refine lv_icmp_ne (tgt := 58) S.1 S.2.1 d_Mo_count_48 rfl (fun h48 => ?_) (fun h48 => ?_)
      · refine lv_iload_n S.1 S.2.1 d_Mo_count_58 rfl (lv_at hl 3 rfl) ?_
        refine lv_iconst (v := 2) S.1 S.2.1 d_Mo_count_59 (by decide) ?_
        refine lv_icmp_ne (tgt := 70) S.1 S.2.1 d_Mo_count_60 rfl (fun h60 => ?_) (fun h60 => ?_)
        · refine lv_iload_n S.1 S.2.1 d_Mo_count_70 rfl (lv_at hl 3 rfl) ?_
          refine lv_iconst (v := 3) S.1 S.2.1 d_Mo_count_71 (by decide) ?_
          refine lv_icmp_ne (tgt := 82) S.1 S.2.1 d_Mo_count_72 rfl (fun h72 => ?_) (fun h72 => ?_)
          · refine lv_iconst (v := (-1)) S.1 S.2.1 d_Mo_count_82 (by decide) ?_
            refine so_iret S hr hlk P hS (Nat.le_refl _) (Nat.le_refl _) ⟨_, ?_, M, F⟩ d_Mo_count_83
            refine ⟨?_, rfl, ⟨h0.1, h0.2.1, h0.2.2.1, h0.2.2.2⟩⟩
            unfold co_O
            rw [if_neg h39, if_neg h48, if_neg h60, if_neg h72]
            
          · refine lv_aload_n S.1 S.2.1 d_Mo_count_75 rfl (lv_at hl 2 rfl) ?_
            refine gf_Mo_93_Mo S K P M.1 rfl d_Mo_count_76 ?_
            refine lv_goto (tgt := 83) S.1 S.2.1 d_Mo_count_79 rfl ?_
            refine so_iret S hr hlk P hS (Nat.le_refl _) (Nat.le_refl _) ⟨_, ?_, M, F⟩ d_Mo_count_83
            refine ⟨?_, rfl, ⟨h0.1, h0.2.1, h0.2.2.1, h0.2.2.2⟩⟩
            unfold co_O
            rw [if_neg h39, if_neg h48, if_neg h60, if_pos h72]
            rw [← h0.2.2.1.2.1]; rfl
        · refine lv_aload_n S.1 S.2.1 d_Mo_count_63 rfl (lv_at hl 2 rfl) ?_
          refine gf_Mo_41_Mo S K P M.1 rfl d_Mo_count_64 ?_
          refine lv_goto (tgt := 83) S.1 S.2.1 d_Mo_count_67 rfl ?_
          refine so_iret S hr hlk P hS (Nat.le_refl _) (Nat.le_refl _) ⟨_, ?_, M, F⟩ d_Mo_count_83
          refine ⟨?_, rfl, ⟨h0.1, h0.2.1, h0.2.2.1, h0.2.2.2⟩⟩
          unfold co_O
          rw [if_neg h39, if_neg h48, if_pos h60]
          rw [← h0.2.2.1.1]; rfl
      · refine lv_aload_n S.1 S.2.1 d_Mo_count_51 rfl (lv_at hl 2 rfl) ?_
        refine gf_Mo_147_Mo S K P M.1 rfl d_Mo_count_52 ?_
        refine lv_goto (tgt := 83) S.1 S.2.1 d_Mo_count_55 rfl ?_
        refine so_iret S hr hlk P hS (Nat.le_refl _) (Nat.le_refl _) ⟨_, ?_, M, F⟩ d_Mo_count_83
        refine ⟨?_, rfl, ⟨h0.1, h0.2.1, h0.2.2.1, h0.2.2.2⟩⟩
        unfold co_O
        rw [if_neg h39, if_pos h48]
        rw [← h0.2.2.1.2.2]; rfl
    · refine lv_iload_n S.1 S.2.1 d_Mo_count_42 rfl (lv_at hl 1 rfl) ?_
      refine lv_goto (tgt := 83) S.1 S.2.1 d_Mo_count_43 rfl ?_
      refine so_iret S hr hlk P hS (Nat.le_refl _) (Nat.le_refl _) ⟨_, ?_, M, F⟩ d_Mo_count_83
      refine ⟨?_, rfl, ⟨h0.1, h0.2.1, h0.2.2.1, h0.2.2.2⟩⟩
      unfold co_O
      rw [if_pos h39]
      
  · have hlt : i < 32 := Nat.not_le.mp fun q => h12 (nI_le (a := 32) q (by omega))
    refine lv_iload_n S.1 S.2.1 d_Mo_count_15 rfl (lv_at hl 1 rfl) ?_
    refine lv_aload_n S.1 S.2.1 d_Mo_count_16 rfl (lv_at hl 2 rfl) ?_
    refine gf_Mo_19_Mo S K P M.1 rfl d_Mo_count_17 ?_
    refine lv_iload_n S.1 S.2.1 d_Mo_count_20 rfl (lv_at hl 0 rfl) ?_
    refine mo_zald S K P M 4 rfl i rfl (by show i < 32; omega) d_Mo_count_21 ?_
    refine lv_if_eq (tgt := 29) S.1 S.2.1 d_Mo_count_22 rfl (fun h22 => ?_) (fun h22 => ?_)
    · refine lv_iconst (v := 0) S.1 S.2.1 d_Mo_count_29 (by decide) ?_
      refine lv_iadd S.1 S.2.1 d_Mo_count_30 ?_
      refine lv_istore_n S.1 S.2.1 d_Mo_count_31 rfl hl (by decide) rfl (fun ls hl => ?_)
      refine lv_iinc (k := 1) S.1 S.2.1 d_Mo_count_32 hl rfl rfl (by decide) rfl (fun ls hl => ?_)
      refine lv_goto (tgt := 9) S.1 S.2.1 d_Mo_count_35 rfl ?_
      rw [nI_a] at hl
      have hoi : o.1 i = false := by rw [← (h0.1 i hlt).1]; exact ((bI_0 _).mp h22)
      refine ih (32 - (i + 1)) ls (i + 1) (by omega) ⟨rfl, by omega, ?_⟩
      have e9 : nI (cb o.1 i) + 0 = nI (cb o.1 (i + 1)) := by
        rw [show cb o.1 (i + 1) = cb o.1 i + if o.1 i = true then 1 else 0 from rfl, hoi]
        exact nI_add _ 0
      rw [e9] at hl
      exact hl
    · refine lv_iconst (v := 1) S.1 S.2.1 d_Mo_count_25 (by decide) ?_
      refine lv_goto (tgt := 30) S.1 S.2.1 d_Mo_count_26 rfl ?_
      refine lv_iadd S.1 S.2.1 d_Mo_count_30 ?_
      refine lv_istore_n S.1 S.2.1 d_Mo_count_31 rfl hl (by decide) rfl (fun ls hl => ?_)
      refine lv_iinc (k := 1) S.1 S.2.1 d_Mo_count_32 hl rfl rfl (by decide) rfl (fun ls hl => ?_)
      refine lv_goto (tgt := 9) S.1 S.2.1 d_Mo_count_35 rfl ?_
      rw [nI_a] at hl
      have hoi : o.1 i = true := by rw [← (h0.1 i hlt).1]; exact (bI_1 h22)
      refine ih (32 - (i + 1)) ls (i + 1) (by omega) ⟨rfl, by omega, ?_⟩
      have e9 : nI (cb o.1 i) + 1 = nI (cb o.1 (i + 1)) := by
        rw [show cb o.1 (i + 1) = cb o.1 i + if o.1 i = true then 1 else 0 from rfl, hoi]
        exact nI_add _ 1
      rw [e9] at hl
      exact hl

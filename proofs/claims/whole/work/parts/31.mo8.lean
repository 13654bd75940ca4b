/-! The reference: goes, comes. -/
set_option maxHeartbeats 400000 in
set_option maxRecDepth 100000 in
theorem c_Mo_goes (l : Launch) {s0 : State} {D : va_G} {ca : Nat → ClassId} (hB : so_B tbl s0 D vcl (tyl ca)) {σ : so_S} {mo : Nat} {ar : Nat → Nat} {R : Rf} (M : MoR ca σ mo ar R) (mp k n : Nat) (hm : mp < 5) (h2m : mp ≠ 2) (h3m : mp ≠ 3) (hz : R.2.1 11 mp = nI n) (hn1 : 1 ≤ n) (hn : n ≤ 32) (hk1 : 32 * mp ≤ k) (hk2 : k < 32 * mp + n) : mo_C l s0 D ca mo ar σ y_Mo_goes b_Mo_goes 3 none 2 [.int (nI mp), .int (nI k)] (fun v R1 => v = none ∧ R1 = cl_R (sbb R 16 mp true) mp k n) := by
  refine so_of hB (by decide) (Nat.le_of_ble_eq_true rfl) ?_
  intro p e s m below meth c ls S K E hr hlk hnm P hS hl
  have hl : lv_has ls 3 [(0, .ref mo), (1, .int (nI mp)), (2, .int (nI k))] := hl
  have F : fM σ σ := fM.rf
  refine lv_aload_n S.1 S.2.1 d_Mo_goes_0 rfl (lv_at hl 0 rfl) ?_
  refine lv_iload_n S.1 S.2.1 d_Mo_goes_1 rfl (lv_at hl 1 rfl) ?_
  refine mo_after F (cv_Mo_99_Mo S hB K E P hS M.1 (c_Mo_change l hB M mp hm) rfl (by decide) (Nat.le_refl _) (Nat.le_refl _) hl.1 rfl (Nat.le_of_ble_eq_true rfl) d_Mo_goes_2) hS (fun v R1 σ H locs hp P hS M F => ?_)
  obtain ⟨rfl, rfl⟩ := hp
  refine lv_iload_n S.1 S.2.1 d_Mo_goes_5 rfl (lv_at hl 1 rfl) ?_
  refine lv_iconst (v := 2) S.1 S.2.1 d_Mo_goes_6 (by decide) ?_
  refine lv_icmp_ne (tgt := 18) S.1 S.2.1 d_Mo_goes_7 rfl (fun h7 => ?_) (fun h7 => ?_)
  · refine lv_iload_n S.1 S.2.1 d_Mo_goes_18 rfl (lv_at hl 1 rfl) ?_
    refine lv_iconst (v := 3) S.1 S.2.1 d_Mo_goes_19 (by decide) ?_
    refine lv_icmp_ne (tgt := 43) S.1 S.2.1 d_Mo_goes_20 rfl (fun h20 => ?_) (fun h20 => ?_)
    · refine lv_aload_n S.1 S.2.1 d_Mo_goes_43 rfl (lv_at hl 0 rfl) ?_
      refine lv_iload_n S.1 S.2.1 d_Mo_goes_44 rfl (lv_at hl 1 rfl) ?_
      refine lv_iload_n S.1 S.2.1 d_Mo_goes_45 rfl (lv_at hl 2 rfl) ?_
      refine mo_after F (cv_Mo_96_Mo S hB K E P hS M.1 (c_Mo_close l hB M mp k n hm h2m h3m hz hn1 hn hk1 hk2) rfl (by decide) (Nat.le_refl _) (Nat.le_refl _) hl.1 rfl (Nat.le_of_ble_eq_true rfl) d_Mo_goes_46) hS (fun v R1 σ H locs hp P hS M F => ?_)
      obtain ⟨rfl, rfl⟩ := hp
      refine so_vret S hr hlk P hS (Nat.le_refl _) (Nat.le_refl _) ⟨_, ?_, M, F⟩ d_Mo_goes_49
      exact ⟨rfl, rfl⟩
    · exact absurd h20 (nI_ne (b := 3) (by omega) (by decide) h3m)
  · exact absurd h7 (nI_ne (b := 2) (by omega) (by decide) h2m)
set_option maxHeartbeats 400000 in
set_option maxRecDepth 100000 in
theorem c_Mo_goes_2 (l : Launch) {s0 : State} {D : va_G} {ca : Nat → ClassId} (hB : so_B tbl s0 D vcl (tyl ca)) {σ : so_S} {mo : Nat} {ar : Nat → Nat} {R : Rf} (M : MoR ca σ mo ar R) {sl : Nat → Option (Nat × Nat)} (g : Nat) (hg : g < 16) (hid : idR R sl) (hfree : ∃ d0, 1 ≤ d0 ∧ d0 < 16 ∧ sl ((g + d0) % 16) = none) : mo_C l s0 D ca mo ar σ y_Mo_goes b_Mo_goes 3 none 2 [.int (nI 2), .int (nI (64 + g))] (fun v R1 => v = none ∧ idR R1 (clo 15 (va_up sl g none) g ((g + 1) % 16)) ∧ eqo 2 (sbb R 16 2 true) R1 ∧ R1.2.1 11 2 = R.2.1 11 2 - 1) := by
  refine so_of hB (by decide) (Nat.le_of_ble_eq_true rfl) ?_
  intro p e s m below meth c ls S K E hr hlk hnm P hS hl
  have hl : lv_has ls 3 [(0, .ref mo), (1, .int (nI 2)), (2, .int (nI (64 + g)))] := hl
  have F : fM σ σ := fM.rf
  refine lv_aload_n S.1 S.2.1 d_Mo_goes_0 rfl (lv_at hl 0 rfl) ?_
  refine lv_iload_n S.1 S.2.1 d_Mo_goes_1 rfl (lv_at hl 1 rfl) ?_
  refine mo_after F (cv_Mo_99_Mo S hB K E P hS M.1 (c_Mo_change l hB M 2 (by decide)) rfl (by decide) (Nat.le_refl _) (Nat.le_refl _) hl.1 rfl (Nat.le_of_ble_eq_true rfl) d_Mo_goes_2) hS (fun v R1 σ H locs hp P hS M F => ?_)
  obtain ⟨rfl, rfl⟩ := hp
  refine lv_iload_n S.1 S.2.1 d_Mo_goes_5 rfl (lv_at hl 1 rfl) ?_
  refine lv_iconst (v := 2) S.1 S.2.1 d_Mo_goes_6 (by decide) ?_
  refine lv_icmp_ne (tgt := 18) S.1 S.2.1 d_Mo_goes_7 rfl (fun h7 => ?_) (fun h7 => ?_)
  · exact absurd rfl h7
  · refine lv_aload_n S.1 S.2.1 d_Mo_goes_10 rfl (lv_at hl 0 rfl) ?_
    refine lv_iload_n S.1 S.2.1 d_Mo_goes_11 rfl (lv_at hl 2 rfl) ?_
    refine mo_after F (cv_Mo_109_Mo S hB K E P hS M.1 (c_Mo_takeIdentity l hB M (sl := sl) g hg hid hfree) rfl (by decide) (Nat.le_refl _) (Nat.le_refl _) hl.1 rfl (Nat.le_of_ble_eq_true rfl) d_Mo_goes_12) hS (fun v R1 σ H locs hp P hS M F => ?_)
    obtain ⟨rfl, hq⟩ := hp
    refine lv_goto (tgt := 49) S.1 S.2.1 d_Mo_goes_15 rfl ?_
    refine so_vret S hr hlk P hS (Nat.le_refl _) (Nat.le_refl _) ⟨_, ?_, M, F⟩ d_Mo_goes_49
    exact ⟨rfl, hq⟩
set_option maxHeartbeats 400000 in
set_option maxRecDepth 100000 in
theorem c_Mo_goes_3 (l : Launch) {s0 : State} {D : va_G} {ca : Nat → ClassId} (hB : so_B tbl s0 D vcl (tyl ca)) {σ : so_S} {mo : Nat} {ar : Nat → Nat} {R : Rf} (M : MoR ca σ mo ar R) (k : Nat) (hk : k < 160) : mo_C l s0 D ca mo ar σ y_Mo_goes b_Mo_goes 3 none 2 [.int (nI 3), .int (nI k)] (fun v R1 => v = none ∧ R1 = sa (sa (sbb R 16 3 true) 8 k (-1)) 11 3 (R.2.1 11 3 - 1)) := by
  refine so_of hB (by decide) (Nat.le_of_ble_eq_true rfl) ?_
  intro p e s m below meth c ls S K E hr hlk hnm P hS hl
  have hl : lv_has ls 3 [(0, .ref mo), (1, .int (nI 3)), (2, .int (nI k))] := hl
  have F : fM σ σ := fM.rf
  refine lv_aload_n S.1 S.2.1 d_Mo_goes_0 rfl (lv_at hl 0 rfl) ?_
  refine lv_iload_n S.1 S.2.1 d_Mo_goes_1 rfl (lv_at hl 1 rfl) ?_
  refine mo_after F (cv_Mo_99_Mo S hB K E P hS M.1 (c_Mo_change l hB M 3 (by decide)) rfl (by decide) (Nat.le_refl _) (Nat.le_refl _) hl.1 rfl (Nat.le_of_ble_eq_true rfl) d_Mo_goes_2) hS (fun v R1 σ H locs hp P hS M F => ?_)
  obtain ⟨rfl, rfl⟩ := hp
  refine lv_iload_n S.1 S.2.1 d_Mo_goes_5 rfl (lv_at hl 1 rfl) ?_
  refine lv_iconst (v := 2) S.1 S.2.1 d_Mo_goes_6 (by decide) ?_
  refine lv_icmp_ne (tgt := 18) S.1 S.2.1 d_Mo_goes_7 rfl (fun h7 => ?_) (fun h7 => ?_)
  · refine lv_iload_n S.1 S.2.1 d_Mo_goes_18 rfl (lv_at hl 1 rfl) ?_
    refine lv_iconst (v := 3) S.1 S.2.1 d_Mo_goes_19 (by decide) ?_
    refine lv_icmp_ne (tgt := 43) S.1 S.2.1 d_Mo_goes_20 rfl (fun h20 => ?_) (fun h20 => ?_)
    · exact absurd rfl h20
    · refine lv_aload_n S.1 S.2.1 d_Mo_goes_23 rfl (lv_at hl 0 rfl) ?_
      refine gf_Mo_29_Mo S K P M.1 rfl d_Mo_goes_24 ?_
      refine lv_iload_n S.1 S.2.1 d_Mo_goes_27 rfl (lv_at hl 2 rfl) ?_
      refine lv_iconst (v := (-1)) S.1 S.2.1 d_Mo_goes_28 (by decide) ?_
      refine mo_iast S K P hS M F 8 rfl k rfl (by show _ < 160; omega) d_Mo_goes_29 (fun σ H locs P hS M F => ?_)
      refine lv_aload_n S.1 S.2.1 d_Mo_goes_30 rfl (lv_at hl 0 rfl) ?_
      refine gf_Mo_38_Mo S K P M.1 rfl d_Mo_goes_31 ?_
      refine lv_iconst (v := 3) S.1 S.2.1 d_Mo_goes_34 (by decide) ?_
      refine lv_dup2_11 S.1 S.2.1 d_Mo_goes_35 rfl rfl ?_
      refine mo_iald S K P M 11 rfl 3 rfl (by show _ < 5; omega) d_Mo_goes_36 ?_
      refine lv_iconst (v := 1) S.1 S.2.1 d_Mo_goes_37 (by decide) ?_
      refine lv_isub S.1 S.2.1 d_Mo_goes_38 ?_
      refine mo_iast S K P hS M F 11 rfl 3 rfl (by show _ < 5; omega) d_Mo_goes_39 (fun σ H locs P hS M F => ?_)
      refine lv_goto (tgt := 49) S.1 S.2.1 d_Mo_goes_40 rfl ?_
      refine so_vret S hr hlk P hS (Nat.le_refl _) (Nat.le_refl _) ⟨_, ?_, M, F⟩ d_Mo_goes_49
      exact ⟨rfl, rfl⟩
  · exact absurd h7 (by decide)
def wk_n (b : Nat → Int32) (b2 : Nat → Int32) (bk : Nat) (w : List (Nat × Nat)) (e : Nat × Nat) : List (Nat × Nat) := if 3 * bk < 4 * (w.length + 1) ∧ bk < 32 then re_B b2 (ins_B b w e) else ins_B b w e
def wk_b (bk : Nat) (w : List (Nat × Nat)) : Nat := if 3 * bk < 4 * (w.length + 1) ∧ bk < 32 then 2 * bk else bk
set_option maxHeartbeats 400000 in
set_option maxRecDepth 100000 in
theorem c_Mo_comes_0 (l : Launch) {s0 : State} {D : va_G} {ca : Nat → ClassId} (hB : so_B tbl s0 D vcl (tyl ca)) {σ : so_S} {mo : Nat} {ar : Nat → Nat} {R : Rf} (M : MoR ca σ mo ar R) {w : List (Nat × Nat)} (key val bk : Nat) (hrow : rowR R 0 w) (hlen : w.length < 32) (hks : ∀ x ∈ w, x.1 < 32) (hkey : key < 32) (hbk : R.1 12 = nI bk) (hbl : bk ≤ 32) : mo_C l s0 D ca mo ar σ y_Mo_comes b_Mo_comes 4 none 4 [.int (nI 0), .int (nI key), .int (nI val)] (fun v R1 => v = none ∧ rowR R1 0 (wk_n (fun q => bk_O (nI bk) (R.2.1 1 q)) (fun q => bk_O (nI (2 * bk)) (R.2.1 1 q)) bk w (key, val)) ∧ agr 0 R R1 ∧ R1.1 12 = nI (wk_b bk w) ∧ (∀ j, j ≠ 12 → R1.1 j = R.1 j) ∧ R1.2.2 = (sbb R 16 0 true).2.2) := by
  refine so_of hB (by decide) (Nat.le_of_ble_eq_true rfl) ?_
  intro p e s m below meth c ls S K E hr hlk hnm P hS hl
  have hl : lv_has ls 4 [(0, .ref mo), (1, .int (nI 0)), (2, .int (nI key)), (3, .int (nI val))] := hl
  have F : fM σ σ := fM.rf
  refine lv_aload_n S.1 S.2.1 d_Mo_comes_0 rfl (lv_at hl 0 rfl) ?_
  refine lv_iload_n S.1 S.2.1 d_Mo_comes_1 rfl (lv_at hl 1 rfl) ?_
  refine mo_after F (cv_Mo_99_Mo S hB K E P hS M.1 (c_Mo_change l hB M 0 (by decide)) rfl (by decide) (Nat.le_refl _) (Nat.le_refl _) hl.1 rfl (Nat.le_of_ble_eq_true rfl) d_Mo_comes_2) hS (fun v R1 σ H locs hp P hS M F => ?_)
  obtain ⟨rfl, rfl⟩ := hp
  have hrow0 : rowR (sbb R 16 0 true) 0 w := hrow
  refine lv_iload_n S.1 S.2.1 d_Mo_comes_5 rfl (lv_at hl 1 rfl) ?_
  refine lv_tableIn (tgt := 36) S.1 S.2.1 d_Mo_comes_6 (by decide) (by decide) rfl rfl ?_
  refine lv_aload_n S.1 S.2.1 d_Mo_comes_36 rfl (lv_at hl 0 rfl) ?_
  refine lv_iload_n S.1 S.2.1 d_Mo_comes_37 rfl (lv_at hl 2 rfl) ?_
  refine lv_iload_n S.1 S.2.1 d_Mo_comes_38 rfl (lv_at hl 3 rfl) ?_
  refine mo_after F (cv_Mo_86_Mo S hB K E P hS M.1 (c_Mo_putWeak l hB M key val hrow0 hlen hks hkey) rfl (by decide) (Nat.le_refl _) (Nat.le_refl _) hl.1 rfl (Nat.le_of_ble_eq_true rfl) d_Mo_comes_39) hS (fun v R1 σ H locs hp P hS M F => ?_)
  obtain ⟨rfl, hq, hrow1⟩ := hp
  have hfun : bko (sbb R 16 0 true) = fun q => bk_O (nI bk) (R.2.1 1 q) := funext fun q => by
    show bk_O (R.1 12) (R.2.1 1 q) = _
    rw [hbk]
  have hins : ins_R (sbb R 16 0 true) w key val = ins_B (fun q => bk_O (nI bk) (R.2.1 1 q)) w (key, val) := by
    show ins_B (bko (sbb R 16 0 true)) w (key, val) = _
    rw [hfun]
  rw [hins] at hrow1
  have hw1 : (ins_B (fun q => bk_O (nI bk) (R.2.1 1 q)) w (key, val)).length = w.length + 1 := ins_len (fun q => bk_O (nI bk) (R.2.1 1 q)) w (key, val)
  have hb12 : R1.1 12 = nI bk := by rw [hq.1]; exact hbk
  have hb1 : R1.2.1 1 = R.2.1 1 := hq.2.2.1 1 (by decide) (by decide) (by decide) (by decide)
  have hks1 : ∀ x ∈ ins_B (fun q => bk_O (nI bk) (R.2.1 1 q)) w (key, val), x.1 < 32 := fun x hx => by
    rcases (ins_mem (b := fun q => bk_O (nI bk) (R.2.1 1 q)) (e := (key, val))).mp hx with h | h
    · rw [h]; exact hkey
    · exact hks x h
  refine lv_iconst (v := 4) S.1 S.2.1 d_Mo_comes_42 (by decide) ?_
  refine lv_aload_n S.1 S.2.1 d_Mo_comes_43 rfl (lv_at hl 0 rfl) ?_
  refine gf_Mo_38_Mo S K P M.1 rfl d_Mo_comes_44 ?_
  refine lv_iconst (v := 0) S.1 S.2.1 d_Mo_comes_47 (by decide) ?_
  refine mo_iald S K P M 11 rfl 0 rfl (by show _ < 5; omega) d_Mo_comes_48 ?_
  refine lv_imul S.1 S.2.1 d_Mo_comes_49 ?_
  rw [hrow1.1, hw1, show (4 : Int32) * nI (w.length + 1) = nI (4 * (w.length + 1)) from pk_mul 4 _]
  refine lv_iconst (v := 3) S.1 S.2.1 d_Mo_comes_50 (by decide) ?_
  refine lv_aload_n S.1 S.2.1 d_Mo_comes_51 rfl (lv_at hl 0 rfl) ?_
  refine gf_Mo_41_Mo S K P M.1 rfl d_Mo_comes_52 ?_
  refine lv_imul S.1 S.2.1 d_Mo_comes_55 ?_
  rw [hb12, show (3 : Int32) * nI bk = nI (3 * bk) from pk_mul 3 _]
  refine lv_icmp_le (tgt := 169) S.1 S.2.1 d_Mo_comes_56 rfl (fun h56 => ?_) (fun h56 => ?_)
  · refine so_vret S hr hlk P hS (Nat.le_refl _) (Nat.le_refl _) ⟨_, ?_, M, F⟩ d_Mo_comes_169
    refine ⟨rfl, ?_⟩
    have c1 : ¬ (3 * bk < 4 * (w.length + 1) ∧ bk < 32) := fun q => by
      have := (nI_leI (by omega) (by omega)).mp h56
      omega
    unfold wk_n wk_b
    rw [if_neg c1, if_neg c1]
    exact ⟨hrow1, hq.agr, hb12, fun j _ => congrFun hq.1 j, hq.2.1⟩
  · refine lv_aload_n S.1 S.2.1 d_Mo_comes_59 rfl (lv_at hl 0 rfl) ?_
    refine gf_Mo_41_Mo S K P M.1 rfl d_Mo_comes_60 ?_
    rw [hb12]
    refine lv_bipush (v := 32) S.1 S.2.1 d_Mo_comes_63 (by decide) ?_
    refine lv_icmp_ge (tgt := 169) S.1 S.2.1 d_Mo_comes_65 rfl (fun h65 => ?_) (fun h65 => ?_)
    · refine so_vret S hr hlk P hS (Nat.le_refl _) (Nat.le_refl _) ⟨_, ?_, M, F⟩ d_Mo_comes_169
      refine ⟨rfl, ?_⟩
      have c1 : ¬ (3 * bk < 4 * (w.length + 1) ∧ bk < 32) := fun q => by
        have := (nI_leI (a := 32) (by decide) (by omega)).mp h65
        omega
      unfold wk_n wk_b
      rw [if_neg c1, if_neg c1]
      exact ⟨hrow1, hq.agr, hb12, fun j _ => congrFun hq.1 j, hq.2.1⟩
    · refine lv_aload_n S.1 S.2.1 d_Mo_comes_68 rfl (lv_at hl 0 rfl) ?_
      refine mo_after F (cv_Mo_103_Mo S hB K E P hS M.1 (c_Mo_doubleBuckets l hB M hrow1 hks1) rfl (by decide) (Nat.le_refl _) (Nat.le_refl _) hl.1 rfl (Nat.le_of_ble_eq_true rfl) d_Mo_comes_69) hS (fun v R1 σ H locs hp P hS M F => ?_)
      obtain ⟨rfl, hq2, hrow2⟩ := hp
      refine lv_goto (tgt := 169) S.1 S.2.1 d_Mo_comes_72 rfl ?_
      refine so_vret S hr hlk P hS (Nat.le_refl _) (Nat.le_refl _) ⟨_, ?_, M, F⟩ d_Mo_comes_169
      refine ⟨rfl, ?_⟩
      have c1 : 3 * bk < 4 * (w.length + 1) ∧ bk < 32 := ⟨Nat.not_le.mp fun q => h56 (nI_le q (by omega)), Nat.not_le.mp fun q => h65 (nI_le (a := 32) q (by omega))⟩
      unfold wk_n wk_b
      rw [if_pos c1, if_pos c1]
      refine ⟨?_, hq.agr.tr hq2.agr, ?_, fun j hj => ?_, hq2.2.1.trans hq.2.1⟩
      · rw [hb12, hb1, show (2 : Int32) * nI bk = nI (2 * bk) from pk_mul 2 _] at hrow2
        exact hrow2
      · rw [hq2.1, va_up_self, hb12]
        exact pk_mul 2 _
      · rw [hq2.1, va_up_ne _ _ hj]
        exact congrFun hq.1 j
set_option maxHeartbeats 400000 in
set_option maxRecDepth 100000 in
theorem c_Mo_comes_2 (l : Launch) {s0 : State} {D : va_G} {ca : Nat → ClassId} (hB : so_B tbl s0 D vcl (tyl ca)) {σ : so_S} {mo : Nat} {ar : Nat → Nat} {R : Rf} (M : MoR ca σ mo ar R) {sl : Nat → Option (Nat × Nat)} (key val : Nat) (hid : idR R sl) (hfree : ∃ d0, d0 < 16 ∧ sl ((7 * key % 16 + d0) % 16) = none) (hkey : key < 32) : mo_C l s0 D ca mo ar σ y_Mo_comes b_Mo_comes 4 none 4 [.int (nI 2), .int (nI key), .int (nI val)] (fun v R1 => v = none ∧ ∃ t, t < 16 ∧ isPr sl (7 * key % 16) t ∧ R1 = sa (sa (sa (sbb R 16 2 true) 8 (64 + t) (nI key)) 9 (64 + t) (nI val)) 11 2 (R.2.1 11 2 + 1)) := by
  refine so_of hB (by decide) (Nat.le_of_ble_eq_true rfl) ?_
  intro p e s m below meth c ls S K E hr hlk hnm P hS hl
  have hl : lv_has ls 4 [(0, .ref mo), (1, .int (nI 2)), (2, .int (nI key)), (3, .int (nI val))] := hl
  have F : fM σ σ := fM.rf
  refine lv_aload_n S.1 S.2.1 d_Mo_comes_0 rfl (lv_at hl 0 rfl) ?_
  refine lv_iload_n S.1 S.2.1 d_Mo_comes_1 rfl (lv_at hl 1 rfl) ?_
  refine mo_after F (cv_Mo_99_Mo S hB K E P hS M.1 (c_Mo_change l hB M 2 (by decide)) rfl (by decide) (Nat.le_refl _) (Nat.le_refl _) hl.1 rfl (Nat.le_of_ble_eq_true rfl) d_Mo_comes_2) hS (fun v R1 σ H locs hp P hS M F => ?_)
  obtain ⟨rfl, rfl⟩ := hp
  refine lv_iload_n S.1 S.2.1 d_Mo_comes_5 rfl (lv_at hl 1 rfl) ?_
  refine lv_tableIn (tgt := 75) S.1 S.2.1 d_Mo_comes_6 (by decide) (by decide) rfl rfl ?_
  refine lv_aload_n S.1 S.2.1 d_Mo_comes_75 rfl (lv_at hl 0 rfl) ?_
  refine lv_iload_n S.1 S.2.1 d_Mo_comes_76 rfl (lv_at hl 2 rfl) ?_
  refine lv_iload_n S.1 S.2.1 d_Mo_comes_77 rfl (lv_at hl 3 rfl) ?_
  refine mo_after F (cv_Mo_106_Mo S hB K E P hS M.1 (c_Mo_putIdentity l hB M (sl := sl) key val hid hfree hkey) rfl (by decide) (Nat.le_refl _) (Nat.le_refl _) hl.1 rfl (Nat.le_of_ble_eq_true rfl) d_Mo_comes_78) hS (fun v R1 σ H locs hp P hS M F => ?_)
  obtain ⟨rfl, t, ht, hpr, rfl⟩ := hp
  refine lv_goto (tgt := 169) S.1 S.2.1 d_Mo_comes_81 rfl ?_
  refine so_vret S hr hlk P hS (Nat.le_refl _) (Nat.le_refl _) ⟨_, ?_, M, F⟩ d_Mo_comes_169
  exact ⟨rfl, t, ht, hpr, rfl⟩
set_option maxHeartbeats 400000 in
set_option maxRecDepth 100000 in
theorem c_Mo_comes_3 (l : Launch) {s0 : State} {D : va_G} {ca : Nat → ClassId} (hB : so_B tbl s0 D vcl (tyl ca)) {σ : so_S} {mo : Nat} {ar : Nat → Nat} {R : Rf} (M : MoR ca σ mo ar R) (key val va : Nat) (hkey : key < 32) (hva : R.2.1 1 key = nI va) (hv8 : va < 8) : mo_C l s0 D ca mo ar σ y_Mo_comes b_Mo_comes 4 none 4 [.int (nI 3), .int (nI key), .int (nI val)] (fun v R1 => v = none ∧ R1 = sa (sa (sa (sbb R 16 3 true) 8 (96 + va) (nI va)) 9 (96 + va) (nI val)) 11 3 (R.2.1 11 3 + 1)) := by
  refine so_of hB (by decide) (Nat.le_of_ble_eq_true rfl) ?_
  intro p e s m below meth c ls S K E hr hlk hnm P hS hl
  have hl : lv_has ls 4 [(0, .ref mo), (1, .int (nI 3)), (2, .int (nI key)), (3, .int (nI val))] := hl
  have F : fM σ σ := fM.rf
  refine lv_aload_n S.1 S.2.1 d_Mo_comes_0 rfl (lv_at hl 0 rfl) ?_
  refine lv_iload_n S.1 S.2.1 d_Mo_comes_1 rfl (lv_at hl 1 rfl) ?_
  refine mo_after F (cv_Mo_99_Mo S hB K E P hS M.1 (c_Mo_change l hB M 3 (by decide)) rfl (by decide) (Nat.le_refl _) (Nat.le_refl _) hl.1 rfl (Nat.le_of_ble_eq_true rfl) d_Mo_comes_2) hS (fun v R1 σ H locs hp P hS M F => ?_)
  obtain ⟨rfl, rfl⟩ := hp
  refine lv_iload_n S.1 S.2.1 d_Mo_comes_5 rfl (lv_at hl 1 rfl) ?_
  refine lv_tableIn (tgt := 84) S.1 S.2.1 d_Mo_comes_6 (by decide) (by decide) rfl rfl ?_
  refine lv_aload_n S.1 S.2.1 d_Mo_comes_84 rfl (lv_at hl 0 rfl) ?_
  refine lv_bipush (v := 96) S.1 S.2.1 d_Mo_comes_85 (by decide) ?_
  refine lv_aload_n S.1 S.2.1 d_Mo_comes_87 rfl (lv_at hl 0 rfl) ?_
  refine gf_Mo_7_Mo S K P M.1 rfl d_Mo_comes_88 ?_
  refine lv_iload_n S.1 S.2.1 d_Mo_comes_91 rfl (lv_at hl 2 rfl) ?_
  refine mo_iald S K P M 1 rfl key rfl (by show _ < 32; omega) d_Mo_comes_92 ?_
  rw [show (sbb R 16 3 true).2.1 1 key = nI va from hva]
  refine lv_iadd S.1 S.2.1 d_Mo_comes_93 ?_
  rw [show (96 : Int32) + nI va = nI (96 + va) from nI_add 96 va]
  refine lv_aload_n S.1 S.2.1 d_Mo_comes_94 rfl (lv_at hl 0 rfl) ?_
  refine gf_Mo_7_Mo S K P M.1 rfl d_Mo_comes_95 ?_
  refine lv_iload_n S.1 S.2.1 d_Mo_comes_98 rfl (lv_at hl 2 rfl) ?_
  refine mo_iald S K P M 1 rfl key rfl (by show _ < 32; omega) d_Mo_comes_99 ?_
  rw [show (sbb R 16 3 true).2.1 1 key = nI va from hva]
  refine lv_iload_n S.1 S.2.1 d_Mo_comes_100 rfl (lv_at hl 3 rfl) ?_
  refine mo_after F (cv_Mo_75_Mo S hB K E P hS M.1 (c_Mo_set l hB M (96 + va) (by omega) _ _) rfl (by decide) (Nat.le_refl _) (Nat.le_refl _) hl.1 rfl (Nat.le_of_ble_eq_true rfl) d_Mo_comes_101) hS (fun v R1 σ H locs hp P hS M F => ?_)
  obtain ⟨rfl, rfl⟩ := hp
  refine lv_aload_n S.1 S.2.1 d_Mo_comes_104 rfl (lv_at hl 0 rfl) ?_
  refine gf_Mo_38_Mo S K P M.1 rfl d_Mo_comes_105 ?_
  refine lv_iconst (v := 3) S.1 S.2.1 d_Mo_comes_108 (by decide) ?_
  refine lv_dup2_11 S.1 S.2.1 d_Mo_comes_109 rfl rfl ?_
  refine mo_iald S K P M 11 rfl 3 rfl (by show _ < 5; omega) d_Mo_comes_110 ?_
  refine lv_iconst (v := 1) S.1 S.2.1 d_Mo_comes_111 (by decide) ?_
  refine lv_iadd S.1 S.2.1 d_Mo_comes_112 ?_
  refine mo_iast S K P hS M F 11 rfl 3 rfl (by show _ < 5; omega) d_Mo_comes_113 (fun σ H locs P hS M F => ?_)
  refine lv_goto (tgt := 169) S.1 S.2.1 d_Mo_comes_114 rfl ?_
  refine so_vret S hr hlk P hS (Nat.le_refl _) (Nat.le_refl _) ⟨_, ?_, M, F⟩ d_Mo_comes_169
  exact ⟨rfl, rfl⟩
set_option maxHeartbeats 400000 in
set_option maxRecDepth 100000 in
theorem c_Mo_comes_1 (l : Launch) {s0 : State} {D : va_G} {ca : Nat → ClassId} (hB : so_B tbl s0 D vcl (tyl ca)) {σ : so_S} {mo : Nat} {ar : Nat → Nat} {R : Rf} (M : MoR ca σ mo ar R) {lx : List (Nat × Nat)} (key val : Nat) (hrow : rowR R 1 lx) (hlen : lx.length < 32) : mo_C l s0 D ca mo ar σ y_Mo_comes b_Mo_comes 4 none 4 [.int (nI 1), .int (nI key), .int (nI val)] (fun v R1 => v = none ∧ rowR R1 1 (lx ++ [(key, val)]) ∧ (∀ i, i < 32 + lx.length → R1.2.1 10 i = R.2.1 10 i) ∧ R1.2.1 10 (32 + lx.length) = R.1 14 ∧ agr 1 R R1 ∧ R1.1 = R.1 ∧ R1.2.2 = (sbb R 16 1 true).2.2) := by
  refine so_of hB (by decide) (Nat.le_of_ble_eq_true rfl) ?_
  intro p e s m below meth c ls S K E hr hlk hnm P hS hl
  have hl : lv_has ls 4 [(0, .ref mo), (1, .int (nI 1)), (2, .int (nI key)), (3, .int (nI val))] := hl
  have F : fM σ σ := fM.rf
  refine lv_aload_n S.1 S.2.1 d_Mo_comes_0 rfl (lv_at hl 0 rfl) ?_
  refine lv_iload_n S.1 S.2.1 d_Mo_comes_1 rfl (lv_at hl 1 rfl) ?_
  refine mo_after F (cv_Mo_99_Mo S hB K E P hS M.1 (c_Mo_change l hB M 1 (by decide)) rfl (by decide) (Nat.le_refl _) (Nat.le_refl _) hl.1 rfl (Nat.le_of_ble_eq_true rfl) d_Mo_comes_2) hS (fun v R1 σ H locs hp P hS M F => ?_)
  obtain ⟨rfl, rfl⟩ := hp
  refine lv_iload_n S.1 S.2.1 d_Mo_comes_5 rfl (lv_at hl 1 rfl) ?_
  refine lv_tableIn (tgt := 117) S.1 S.2.1 d_Mo_comes_6 (by decide) (by decide) rfl rfl ?_
  refine lv_aload_n S.1 S.2.1 d_Mo_comes_117 rfl (lv_at hl 0 rfl) ?_
  refine lv_iload_n S.1 S.2.1 d_Mo_comes_118 rfl (lv_at hl 1 rfl) ?_
  refine lv_aload_n S.1 S.2.1 d_Mo_comes_119 rfl (lv_at hl 0 rfl) ?_
  refine lv_iload_n S.1 S.2.1 d_Mo_comes_120 rfl (lv_at hl 1 rfl) ?_
  refine so_callR (cv_Mo_68_Mo S hB K E P hS M.1 (c_Mo_endd l hB M 1 lx.length (by decide) hrow.1) rfl (by decide) (Nat.le_refl _) (Nat.le_refl _) hl.1 rfl (Nat.le_of_ble_eq_true rfl) d_Mo_comes_121) (fun v hv => ?_)
  subst hv
  rw [show en_O 1 lx.length = 32 + lx.length from rfl]
  refine lv_iload_n S.1 S.2.1 d_Mo_comes_124 rfl (lv_at hl 2 rfl) ?_
  refine lv_iload_n S.1 S.2.1 d_Mo_comes_125 rfl (lv_at hl 3 rfl) ?_
  refine mo_after F (cv_Mo_82_Mo S hB K E P hS M.1 (c_Mo_openn l hB M 1 (32 + lx.length) lx.length (by decide) (by decide) (by decide) hrow.1 hlen (by omega) (by omega) _ _) rfl (by decide) (Nat.le_refl _) (Nat.le_refl _) hl.1 rfl (Nat.le_of_ble_eq_true rfl) d_Mo_comes_126) hS (fun v R1 σ H locs hp P hS M F => ?_)
  obtain ⟨rfl, rfl⟩ := hp
  have hl1 : (lx ++ [(key, val)]).length = lx.length + 1 := by simp
  have hrow9 : rowR (sbb R 16 1 true) 1 lx := hrow
  have hro : rowR (op_R (sbb R 16 1 true) 1 (32 + lx.length) lx.length (nI key) (nI val)) 1 (lx ++ [(key, val)]) := by
    have h9 := hrow9.op (j := lx.length) (a := key) (b := val) hlen (Nat.le_refl _)
    rw [List.insertIdx_length_self] at h9
    exact h9
  have heo : eqo 1 (sbb R 16 1 true) (op_R (sbb R 16 1 true) 1 (32 + lx.length) lx.length (nI key) (nI val)) := eqo.op (by omega) (by omega) hlen
  have hu : ∀ i, i < 32 + lx.length → (op_R (sbb R 16 1 true) 1 (32 + lx.length) lx.length (nI key) (nI val)).2.1 10 i = R.2.1 10 i := fun i hi => by
    show shf (R.2.1 10) (32 + lx.length) (32 + lx.length) i = _
    rw [shf_0]
  have hz14 : (op_R (sbb R 16 1 true) 1 (32 + lx.length) lx.length (nI key) (nI val)).1 14 = R.1 14 := rfl
  generalize op_R (sbb R 16 1 true) 1 (32 + lx.length) lx.length (nI key) (nI val) = Ra at M hro heo hu hz14
  refine lv_aload_n S.1 S.2.1 d_Mo_comes_129 rfl (lv_at hl 0 rfl) ?_
  refine gf_Mo_35_Mo S K P M.1 rfl d_Mo_comes_130 ?_
  refine lv_aload_n S.1 S.2.1 d_Mo_comes_133 rfl (lv_at hl 0 rfl) ?_
  refine lv_iload_n S.1 S.2.1 d_Mo_comes_134 rfl (lv_at hl 1 rfl) ?_
  refine so_callR (cv_Mo_68_Mo S hB K E P hS M.1 (c_Mo_endd l hB M 1 (lx ++ [(key, val)]).length (by decide) hro.1) rfl (by decide) (Nat.le_refl _) (Nat.le_refl _) hl.1 rfl (Nat.le_of_ble_eq_true rfl) d_Mo_comes_135) (fun v hv => ?_)
  subst hv
  rw [show en_O 1 (lx ++ [(key, val)]).length = 32 + (lx ++ [(key, val)]).length from rfl, hl1]
  refine lv_iconst (v := 1) S.1 S.2.1 d_Mo_comes_138 (by decide) ?_
  refine lv_isub S.1 S.2.1 d_Mo_comes_139 ?_
  refine lv_aload_n S.1 S.2.1 d_Mo_comes_140 rfl (lv_at hl 0 rfl) ?_
  refine gf_Mo_93_Mo S K P M.1 rfl d_Mo_comes_141 ?_
  rw [hz14]
  refine mo_iast S K P hS M F 10 rfl (32 + lx.length) (by rw [show nI (32 + (lx.length + 1)) - 1 = nI (32 + (lx.length + 1) - 1) from nI_p (by omega)]; rfl) (by show 32 + lx.length < 160; omega) d_Mo_comes_144 (fun σ H locs P hS M F => ?_)
  refine lv_iload_n S.1 S.2.1 d_Mo_comes_145 rfl (lv_at hl 1 rfl) ?_
  refine lv_iconst (v := 4) S.1 S.2.1 d_Mo_comes_146 (by decide) ?_
  refine lv_icmp_ne (tgt := 169) S.1 S.2.1 d_Mo_comes_147 rfl (fun h147 => ?_) (fun h147 => ?_)
  · refine so_vret S hr hlk P hS (Nat.le_refl _) (Nat.le_refl _) ⟨_, ?_, M, F⟩ d_Mo_comes_169
    refine ⟨rfl, hro, fun i hi => ?_, if_pos rfl, heo.agr.tr (eqo.sa10 (k := 1) (by omega) (by omega)).agr, heo.1, heo.2.1⟩
    show upd (Ra.2.1 10) (32 + lx.length) (R.1 14) i = _
    unfold upd
    rw [if_neg (by omega)]
    exact hu i hi
  · exact absurd h147 (by decide)
set_option maxHeartbeats 400000 in
set_option maxRecDepth 100000 in
theorem c_Mo_comes_4 (l : Launch) {s0 : State} {D : va_G} {ca : Nat → ClassId} (hB : so_B tbl s0 D vcl (tyl ca)) {σ : so_S} {mo : Nat} {ar : Nat → Nat} {R : Rf} (M : MoR ca σ mo ar R) {lx : List (Nat × Nat)} (key val : Nat) (hrow : rowR R 4 lx) (hlen : lx.length < 32) : mo_C l s0 D ca mo ar σ y_Mo_comes b_Mo_comes 4 none 4 [.int (nI 4), .int (nI key), .int (nI val)] (fun v R1 => v = none ∧ rowR R1 4 (if 6 < lx.length + 1 then (lx ++ [(key, val)]).tail else lx ++ [(key, val)]) ∧ agr 4 R R1 ∧ R1.1 = R.1 ∧ R1.2.2 = (sbb R 16 4 true).2.2) := by
  refine so_of hB (by decide) (Nat.le_of_ble_eq_true rfl) ?_
  intro p e s m below meth c ls S K E hr hlk hnm P hS hl
  have hl : lv_has ls 4 [(0, .ref mo), (1, .int (nI 4)), (2, .int (nI key)), (3, .int (nI val))] := hl
  have F : fM σ σ := fM.rf
  refine lv_aload_n S.1 S.2.1 d_Mo_comes_0 rfl (lv_at hl 0 rfl) ?_
  refine lv_iload_n S.1 S.2.1 d_Mo_comes_1 rfl (lv_at hl 1 rfl) ?_
  refine mo_after F (cv_Mo_99_Mo S hB K E P hS M.1 (c_Mo_change l hB M 4 (by decide)) rfl (by decide) (Nat.le_refl _) (Nat.le_refl _) hl.1 rfl (Nat.le_of_ble_eq_true rfl) d_Mo_comes_2) hS (fun v R1 σ H locs hp P hS M F => ?_)
  obtain ⟨rfl, rfl⟩ := hp
  refine lv_iload_n S.1 S.2.1 d_Mo_comes_5 rfl (lv_at hl 1 rfl) ?_
  refine lv_tableOut (tgt := 117) S.1 S.2.1 d_Mo_comes_6 (by decide) rfl ?_
  refine lv_aload_n S.1 S.2.1 d_Mo_comes_117 rfl (lv_at hl 0 rfl) ?_
  refine lv_iload_n S.1 S.2.1 d_Mo_comes_118 rfl (lv_at hl 1 rfl) ?_
  refine lv_aload_n S.1 S.2.1 d_Mo_comes_119 rfl (lv_at hl 0 rfl) ?_
  refine lv_iload_n S.1 S.2.1 d_Mo_comes_120 rfl (lv_at hl 1 rfl) ?_
  refine so_callR (cv_Mo_68_Mo S hB K E P hS M.1 (c_Mo_endd l hB M 4 lx.length (by decide) hrow.1) rfl (by decide) (Nat.le_refl _) (Nat.le_refl _) hl.1 rfl (Nat.le_of_ble_eq_true rfl) d_Mo_comes_121) (fun v hv => ?_)
  subst hv
  rw [show en_O 4 lx.length = 128 + lx.length from rfl]
  refine lv_iload_n S.1 S.2.1 d_Mo_comes_124 rfl (lv_at hl 2 rfl) ?_
  refine lv_iload_n S.1 S.2.1 d_Mo_comes_125 rfl (lv_at hl 3 rfl) ?_
  refine mo_after F (cv_Mo_82_Mo S hB K E P hS M.1 (c_Mo_openn l hB M 4 (128 + lx.length) lx.length (by decide) (by decide) (by decide) hrow.1 hlen (by omega) (by omega) _ _) rfl (by decide) (Nat.le_refl _) (Nat.le_refl _) hl.1 rfl (Nat.le_of_ble_eq_true rfl) d_Mo_comes_126) hS (fun v R1 σ H locs hp P hS M F => ?_)
  obtain ⟨rfl, rfl⟩ := hp
  have hl1 : (lx ++ [(key, val)]).length = lx.length + 1 := by simp
  have hrow9 : rowR (sbb R 16 4 true) 4 lx := hrow
  have hro : rowR (op_R (sbb R 16 4 true) 4 (128 + lx.length) lx.length (nI key) (nI val)) 4 (lx ++ [(key, val)]) := by
    have h9 := hrow9.op (j := lx.length) (a := key) (b := val) hlen (Nat.le_refl _)
    rw [List.insertIdx_length_self] at h9
    exact h9
  have heo : eqo 4 (sbb R 16 4 true) (op_R (sbb R 16 4 true) 4 (128 + lx.length) lx.length (nI key) (nI val)) := eqo.op (by omega) (by omega) hlen
  have hu : ∀ i, i < 128 + lx.length → (op_R (sbb R 16 4 true) 4 (128 + lx.length) lx.length (nI key) (nI val)).2.1 10 i = R.2.1 10 i := fun i hi => by
    show shf (R.2.1 10) (128 + lx.length) (128 + lx.length) i = _
    rw [shf_0]
  have hz14 : (op_R (sbb R 16 4 true) 4 (128 + lx.length) lx.length (nI key) (nI val)).1 14 = R.1 14 := rfl
  generalize op_R (sbb R 16 4 true) 4 (128 + lx.length) lx.length (nI key) (nI val) = Ra at M hro heo hu hz14
  refine lv_aload_n S.1 S.2.1 d_Mo_comes_129 rfl (lv_at hl 0 rfl) ?_
  refine gf_Mo_35_Mo S K P M.1 rfl d_Mo_comes_130 ?_
  refine lv_aload_n S.1 S.2.1 d_Mo_comes_133 rfl (lv_at hl 0 rfl) ?_
  refine lv_iload_n S.1 S.2.1 d_Mo_comes_134 rfl (lv_at hl 1 rfl) ?_
  refine so_callR (cv_Mo_68_Mo S hB K E P hS M.1 (c_Mo_endd l hB M 4 (lx ++ [(key, val)]).length (by decide) hro.1) rfl (by decide) (Nat.le_refl _) (Nat.le_refl _) hl.1 rfl (Nat.le_of_ble_eq_true rfl) d_Mo_comes_135) (fun v hv => ?_)
  subst hv
  rw [show en_O 4 (lx ++ [(key, val)]).length = 128 + (lx ++ [(key, val)]).length from rfl, hl1]
  refine lv_iconst (v := 1) S.1 S.2.1 d_Mo_comes_138 (by decide) ?_
  refine lv_isub S.1 S.2.1 d_Mo_comes_139 ?_
  refine lv_aload_n S.1 S.2.1 d_Mo_comes_140 rfl (lv_at hl 0 rfl) ?_
  refine gf_Mo_93_Mo S K P M.1 rfl d_Mo_comes_141 ?_
  rw [hz14]
  refine mo_iast S K P hS M F 10 rfl (128 + lx.length) (by rw [show nI (128 + (lx.length + 1)) - 1 = nI (128 + (lx.length + 1) - 1) from nI_p (by omega)]; rfl) (by show 128 + lx.length < 160; omega) d_Mo_comes_144 (fun σ H locs P hS M F => ?_)
  have hro1 : rowR (sa Ra 10 (128 + lx.length) (R.1 14)) 4 (lx ++ [(key, val)]) := hro
  have heo1 : eqo 4 (sbb R 16 4 true) (sa Ra 10 (128 + lx.length) (R.1 14)) := heo.tr (eqo.sa10 (k := 4) (by omega) (by omega))
  generalize sa Ra 10 (128 + lx.length) (R.1 14) = Rb at M hro1 heo1
  refine lv_iload_n S.1 S.2.1 d_Mo_comes_145 rfl (lv_at hl 1 rfl) ?_
  refine lv_iconst (v := 4) S.1 S.2.1 d_Mo_comes_146 (by decide) ?_
  refine lv_icmp_ne (tgt := 169) S.1 S.2.1 d_Mo_comes_147 rfl (fun h147 => ?_) (fun h147 => ?_)
  · refine so_vret S hr hlk P hS (Nat.le_refl _) (Nat.le_refl _) ⟨_, ?_, M, F⟩ d_Mo_comes_169
    refine ⟨rfl, ?_⟩
    first
      | (exact absurd rfl h147; done)
      | (have c1 : ¬ 6 < lx.length + 1 := fun q => by
           have := (nI_leI (b := 6) (by omega) (by decide)).mp h158
           omega
         rw [if_neg c1]
         exact ⟨hro1, heo1.agr, heo1.1, heo1.2.1⟩; done)
      | (have c1 : 6 < lx.length + 1 := Nat.not_le.mp fun q => h158 (nI_le (b := 6) q (by decide))
         rw [if_pos c1]
         have hec : eqo 4 Rb (cl_R Rb 4 128 (lx ++ [(key, val)]).length) := eqo.cl (by omega) (by omega) hro1.2.1
         have h0 : (lx ++ [(key, val)]).eraseIdx 0 = (lx ++ [(key, val)]).tail := List.eraseIdx_zero
         rw [← h0]
         exact ⟨hro1.cl (j := 0) (by omega), (heo1.tr hec).agr, (heo1.tr hec).1, (heo1.tr hec).2.1⟩)
  · refine lv_aload_n S.1 S.2.1 d_Mo_comes_150 rfl (lv_at hl 0 rfl) ?_
    refine gf_Mo_38_Mo S K P M.1 rfl d_Mo_comes_151 ?_
    refine lv_iconst (v := 4) S.1 S.2.1 d_Mo_comes_154 (by decide) ?_
    refine mo_iald S K P M 11 rfl 4 rfl (by show _ < 5; omega) d_Mo_comes_155 ?_
    rw [hro1.1, hl1]
    refine lv_bipush (v := 6) S.1 S.2.1 d_Mo_comes_156 (by decide) ?_
    refine lv_icmp_le (tgt := 169) S.1 S.2.1 d_Mo_comes_158 rfl (fun h158 => ?_) (fun h158 => ?_)
    · refine so_vret S hr hlk P hS (Nat.le_refl _) (Nat.le_refl _) ⟨_, ?_, M, F⟩ d_Mo_comes_169
      refine ⟨rfl, ?_⟩
      first
        | (exact absurd rfl h147; done)
        | (have c1 : ¬ 6 < lx.length + 1 := fun q => by
             have := (nI_leI (b := 6) (by omega) (by decide)).mp h158
             omega
           rw [if_neg c1]
           exact ⟨hro1, heo1.agr, heo1.1, heo1.2.1⟩; done)
        | (have c1 : 6 < lx.length + 1 := Nat.not_le.mp fun q => h158 (nI_le (b := 6) q (by decide))
           rw [if_pos c1]
           have hec : eqo 4 Rb (cl_R Rb 4 128 (lx ++ [(key, val)]).length) := eqo.cl (by omega) (by omega) hro1.2.1
           have h0 : (lx ++ [(key, val)]).eraseIdx 0 = (lx ++ [(key, val)]).tail := List.eraseIdx_zero
           rw [← h0]
           exact ⟨hro1.cl (j := 0) (by omega), (heo1.tr hec).agr, (heo1.tr hec).1, (heo1.tr hec).2.1⟩)
    · refine lv_aload_n S.1 S.2.1 d_Mo_comes_161 rfl (lv_at hl 0 rfl) ?_
      refine lv_iconst (v := 4) S.1 S.2.1 d_Mo_comes_162 (by decide) ?_
      refine lv_sipush (v := 128) S.1 S.2.1 d_Mo_comes_163 (by decide) ?_
      refine mo_after F (cv_Mo_96_Mo S hB K E P hS M.1 (c_Mo_close l hB M 4 128 (lx ++ [(key, val)]).length (by decide) (by decide) (by decide) hro1.1 (by omega) hro1.2.1 (by omega) (by omega)) rfl (by decide) (Nat.le_refl _) (Nat.le_refl _) hl.1 rfl (Nat.le_of_ble_eq_true rfl) d_Mo_comes_166) hS (fun v R1 σ H locs hp P hS M F => ?_)
      obtain ⟨rfl, rfl⟩ := hp
      refine so_vret S hr hlk P hS (Nat.le_refl _) (Nat.le_refl _) ⟨_, ?_, M, F⟩ d_Mo_comes_169
      refine ⟨rfl, ?_⟩
      first
        | (exact absurd rfl h147; done)
        | (have c1 : ¬ 6 < lx.length + 1 := fun q => by
             have := (nI_leI (b := 6) (by omega) (by decide)).mp h158
             omega
           rw [if_neg c1]
           exact ⟨hro1, heo1.agr, heo1.1, heo1.2.1⟩; done)
        | (have c1 : 6 < lx.length + 1 := Nat.not_le.mp fun q => h158 (nI_le (b := 6) q (by decide))
           rw [if_pos c1]
           have hec : eqo 4 Rb (cl_R Rb 4 128 (lx ++ [(key, val)]).length) := eqo.cl (by omega) (by omega) hro1.2.1
           have h0 : (lx ++ [(key, val)]).eraseIdx 0 = (lx ++ [(key, val)]).tail := List.eraseIdx_zero
           rw [← h0]
           exact ⟨hro1.cl (j := 0) (by omega), (heo1.tr hec).agr, (heo1.tr hec).1, (heo1.tr hec).2.1⟩)

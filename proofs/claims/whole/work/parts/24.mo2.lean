/-! The reference's reads that call; find, open, close. -/
def sm_O (R : Rf) (mp : Nat) (st : Int32) (key : Nat) : Bool := if mp = 2 then decide (st = nI key) else if mp = 3 then decide (st = R.2.1 1 key) else decide (R.2.1 1 st.toNatClampNeg = R.2.1 1 key)
set_option maxHeartbeats 4000000 in
set_option maxRecDepth 100000 in
theorem c_Mo_isSame (l : Launch) {s0 : State} {D : va_G} {ca : Nat → ClassId} (hB : so_B tbl s0 D vcl (tyl ca)) {σ : so_S} {mo : Nat} {ar : Nat → Nat} {R : Rf} (M : MoR ca σ mo ar R) (mp key : Nat) (hm : mp < 5) (hk : key < 32) (sx : Int32) (hs : mp ≠ 2 → mp ≠ 3 → ∃ st : Nat, st < 32 ∧ sx = nI st) : mo_D l s0 D mo σ y_Mo_isSame b_Mo_isSame 4 (some .boolean) 0 [.int (nI mp), .int sx, .int (nI key)] (fun v => v = some (.int (bI (sm_O R mp sx key)))) := by
  refine so_ofR hB (by decide) (Nat.le_of_ble_eq_true rfl) ?_
  intro p e s m below meth c ls S K E hr hlk P hS hl
  have hl : lv_has ls 4 [(0, .ref mo), (1, .int (nI mp)), (2, .int sx), (3, .int (nI key))] := hl
  have k2 : nI mp = 2 ↔ mp = 2 := nI_eq (b := 2) (by omega) (by decide)
  have k3 : nI mp = 3 ↔ mp = 3 := nI_eq (b := 3) (by omega) (by decide)
  refine lv_iload_n S.1 S.2.1 d_Mo_isSame_0 rfl (lv_at hl 1 rfl) ?_
  refine lv_iconst (v := 2) S.1 S.2.1 d_Mo_isSame_1 (by decide) ?_
  refine lv_icmp_ne (tgt := 16) S.1 S.2.1 d_Mo_isSame_2 rfl (fun h2 => ?_) (fun h2 => ?_)
  · refine lv_iload_n S.1 S.2.1 d_Mo_isSame_16 rfl (lv_at hl 1 rfl) ?_
    refine lv_iconst (v := 3) S.1 S.2.1 d_Mo_isSame_17 (by decide) ?_
    refine lv_icmp_ne (tgt := 39) S.1 S.2.1 d_Mo_isSame_18 rfl (fun h18 => ?_) (fun h18 => ?_)
    · have n2 : ¬ mp = 2 := fun z => h2 (k2.mpr z)
      have n3 : ¬ mp = 3 := fun z => h18 (k3.mpr z)
      obtain ⟨st, hst, rfl⟩ := hs n2 n3
      refine lv_aload_n S.1 S.2.1 d_Mo_isSame_39 rfl (lv_at hl 0 rfl) ?_
      refine gf_Mo_7_Mo S K P M.1 rfl d_Mo_isSame_40 ?_
      refine lv_iload_n S.1 S.2.1 d_Mo_isSame_43 rfl (lv_at hl 2 rfl) ?_
      refine mo_iald S K P M 1 rfl st rfl (by show _ < 32; omega) d_Mo_isSame_44 ?_
      refine lv_aload_n S.1 S.2.1 d_Mo_isSame_45 rfl (lv_at hl 0 rfl) ?_
      refine gf_Mo_7_Mo S K P M.1 rfl d_Mo_isSame_46 ?_
      refine lv_iload_n S.1 S.2.1 d_Mo_isSame_49 rfl (lv_at hl 3 rfl) ?_
      refine mo_iald S K P M 1 rfl key rfl (by show _ < 32; omega) d_Mo_isSame_50 ?_
      refine lv_icmp_ne (tgt := 58) S.1 S.2.1 d_Mo_isSame_51 rfl (fun h51 => ?_) (fun h51 => ?_)
      · refine lv_iconst (v := 0) S.1 S.2.1 d_Mo_isSame_58 (by decide) ?_
        refine so_zretR S hr rfl hlk ?_ d_Mo_isSame_59
        unfold sm_O
        first
          | (rw [if_pos (k2.mp h2), decide_eq_true h7]; rfl; done)
          | (rw [if_pos (k2.mp h2), decide_eq_false h7]; rfl; done)
          | (rw [if_neg (fun z => h2 (k2.mpr z)), if_pos (k3.mp h18), decide_eq_true h28]; rfl; done)
          | (rw [if_neg (fun z => h2 (k2.mpr z)), if_pos (k3.mp h18), decide_eq_false h28]; rfl; done)
          | (rw [if_neg n2, if_neg n3, nI_clamp (by omega), decide_eq_true h51]; rfl; done)
          | (rw [if_neg n2, if_neg n3, nI_clamp (by omega), decide_eq_false h51]; rfl; done)
      · refine lv_iconst (v := 1) S.1 S.2.1 d_Mo_isSame_54 (by decide) ?_
        refine lv_goto (tgt := 59) S.1 S.2.1 d_Mo_isSame_55 rfl ?_
        refine so_zretR S hr rfl hlk ?_ d_Mo_isSame_59
        unfold sm_O
        first
          | (rw [if_pos (k2.mp h2), decide_eq_true h7]; rfl; done)
          | (rw [if_pos (k2.mp h2), decide_eq_false h7]; rfl; done)
          | (rw [if_neg (fun z => h2 (k2.mpr z)), if_pos (k3.mp h18), decide_eq_true h28]; rfl; done)
          | (rw [if_neg (fun z => h2 (k2.mpr z)), if_pos (k3.mp h18), decide_eq_false h28]; rfl; done)
          | (rw [if_neg n2, if_neg n3, nI_clamp (by omega), decide_eq_true h51]; rfl; done)
          | (rw [if_neg n2, if_neg n3, nI_clamp (by omega), decide_eq_false h51]; rfl; done)
    · refine lv_iload_n S.1 S.2.1 d_Mo_isSame_21 rfl (lv_at hl 2 rfl) ?_
      refine lv_aload_n S.1 S.2.1 d_Mo_isSame_22 rfl (lv_at hl 0 rfl) ?_
      refine gf_Mo_7_Mo S K P M.1 rfl d_Mo_isSame_23 ?_
      refine lv_iload_n S.1 S.2.1 d_Mo_isSame_26 rfl (lv_at hl 3 rfl) ?_
      refine mo_iald S K P M 1 rfl key rfl (by show _ < 32; omega) d_Mo_isSame_27 ?_
      refine lv_icmp_ne (tgt := 35) S.1 S.2.1 d_Mo_isSame_28 rfl (fun h28 => ?_) (fun h28 => ?_)
      · refine lv_iconst (v := 0) S.1 S.2.1 d_Mo_isSame_35 (by decide) ?_
        refine lv_goto (tgt := 59) S.1 S.2.1 d_Mo_isSame_36 rfl ?_
        refine so_zretR S hr rfl hlk ?_ d_Mo_isSame_59
        unfold sm_O
        first
          | (rw [if_pos (k2.mp h2), decide_eq_true h7]; rfl; done)
          | (rw [if_pos (k2.mp h2), decide_eq_false h7]; rfl; done)
          | (rw [if_neg (fun z => h2 (k2.mpr z)), if_pos (k3.mp h18), decide_eq_true h28]; rfl; done)
          | (rw [if_neg (fun z => h2 (k2.mpr z)), if_pos (k3.mp h18), decide_eq_false h28]; rfl; done)
          | (rw [if_neg n2, if_neg n3, nI_clamp (by omega), decide_eq_true h51]; rfl; done)
          | (rw [if_neg n2, if_neg n3, nI_clamp (by omega), decide_eq_false h51]; rfl; done)
      · refine lv_iconst (v := 1) S.1 S.2.1 d_Mo_isSame_31 (by decide) ?_
        refine lv_goto (tgt := 59) S.1 S.2.1 d_Mo_isSame_32 rfl ?_
        refine so_zretR S hr rfl hlk ?_ d_Mo_isSame_59
        unfold sm_O
        first
          | (rw [if_pos (k2.mp h2), decide_eq_true h7]; rfl; done)
          | (rw [if_pos (k2.mp h2), decide_eq_false h7]; rfl; done)
          | (rw [if_neg (fun z => h2 (k2.mpr z)), if_pos (k3.mp h18), decide_eq_true h28]; rfl; done)
          | (rw [if_neg (fun z => h2 (k2.mpr z)), if_pos (k3.mp h18), decide_eq_false h28]; rfl; done)
          | (rw [if_neg n2, if_neg n3, nI_clamp (by omega), decide_eq_true h51]; rfl; done)
          | (rw [if_neg n2, if_neg n3, nI_clamp (by omega), decide_eq_false h51]; rfl; done)
  · refine lv_iload_n S.1 S.2.1 d_Mo_isSame_5 rfl (lv_at hl 2 rfl) ?_
    refine lv_iload_n S.1 S.2.1 d_Mo_isSame_6 rfl (lv_at hl 3 rfl) ?_
    refine lv_icmp_ne (tgt := 14) S.1 S.2.1 d_Mo_isSame_7 rfl (fun h7 => ?_) (fun h7 => ?_)
    · refine lv_iconst (v := 0) S.1 S.2.1 d_Mo_isSame_14 (by decide) ?_
      refine so_zretR S hr rfl hlk ?_ d_Mo_isSame_15
      unfold sm_O
      first
        | (rw [if_pos (k2.mp h2), decide_eq_true h7]; rfl; done)
        | (rw [if_pos (k2.mp h2), decide_eq_false h7]; rfl; done)
        | (rw [if_neg (fun z => h2 (k2.mpr z)), if_pos (k3.mp h18), decide_eq_true h28]; rfl; done)
        | (rw [if_neg (fun z => h2 (k2.mpr z)), if_pos (k3.mp h18), decide_eq_false h28]; rfl; done)
        | (rw [if_neg n2, if_neg n3, nI_clamp (by omega), decide_eq_true h51]; rfl; done)
        | (rw [if_neg n2, if_neg n3, nI_clamp (by omega), decide_eq_false h51]; rfl; done)
    · refine lv_iconst (v := 1) S.1 S.2.1 d_Mo_isSame_10 (by decide) ?_
      refine lv_goto (tgt := 15) S.1 S.2.1 d_Mo_isSame_11 rfl ?_
      refine so_zretR S hr rfl hlk ?_ d_Mo_isSame_15
      unfold sm_O
      first
        | (rw [if_pos (k2.mp h2), decide_eq_true h7]; rfl; done)
        | (rw [if_pos (k2.mp h2), decide_eq_false h7]; rfl; done)
        | (rw [if_neg (fun z => h2 (k2.mpr z)), if_pos (k3.mp h18), decide_eq_true h28]; rfl; done)
        | (rw [if_neg (fun z => h2 (k2.mpr z)), if_pos (k3.mp h18), decide_eq_false h28]; rfl; done)
        | (rw [if_neg n2, if_neg n3, nI_clamp (by omega), decide_eq_true h51]; rfl; done)
        | (rw [if_neg n2, if_neg n3, nI_clamp (by omega), decide_eq_false h51]; rfl; done)
def ky_O (R : Rf) (mp : Nat) (x : Int32) : Bool := is_O R x && (decide (mp ≠ 3) || decide (R.2.1 1 x.toNatClampNeg ≤ 7))
set_option maxHeartbeats 4000000 in
set_option maxRecDepth 100000 in
theorem c_Mo_isKey (l : Launch) {s0 : State} {D : va_G} {ca : Nat → ClassId} (hB : so_B tbl s0 D vcl (tyl ca)) {σ : so_S} {mo : Nat} {ar : Nat → Nat} {R : Rf} (M : MoR ca σ mo ar R) (mp : Nat) (hm : mp < 5) (x : Int32) : mo_D l s0 D mo σ y_Mo_isKey b_Mo_isKey 3 (some .boolean) 1 [.int (nI mp), .int x] (fun v => v = some (.int (bI (ky_O R mp x)))) := by
  refine so_ofR hB (by decide) (Nat.le_of_ble_eq_true rfl) ?_
  intro p e s m below meth c ls S K E hr hlk P hS hl
  have hl : lv_has ls 3 [(0, .ref mo), (1, .int (nI mp)), (2, .int x)] := hl
  have k2 : nI mp = 2 ↔ mp = 2 := nI_eq (b := 2) (by omega) (by decide)
  have k3 : nI mp = 3 ↔ mp = 3 := nI_eq (b := 3) (by omega) (by decide)
  refine lv_aload_n S.1 S.2.1 d_Mo_isKey_0 rfl (lv_at hl 0 rfl) ?_
  refine lv_iload_n S.1 S.2.1 d_Mo_isKey_1 rfl (lv_at hl 2 rfl) ?_
  refine so_callR (cv_Mo_64_Mo S hB K E P hS M.1 (c_Mo_isObject l hB M x) rfl (by decide) (Nat.le_refl _) (Nat.le_refl _) hl.1 rfl (Nat.le_of_ble_eq_true rfl) d_Mo_isKey_2) (fun v hv => ?_)
  subst hv
  refine lv_if_eq (tgt := 28) S.1 S.2.1 d_Mo_isKey_5 rfl (fun h5 => ?_) (fun h5 => ?_)
  · refine lv_iconst (v := 0) S.1 S.2.1 d_Mo_isKey_28 (by decide) ?_
    refine so_zretR S hr rfl hlk ?_ d_Mo_isKey_29
    unfold ky_O
    first
      | (rw [(bI_0 _).mp h5]; rfl; done)
      | (rw [hx5, decide_eq_true (show mp ≠ 3 from fun z => h10 (k3.mpr z))]; rfl; done)
      | (rw [hx5, nI_clamp (by omega), decide_eq_false (show ¬ mp ≠ 3 from fun z => z (k3.mp h10)), decide_eq_true (i_nlt h21)]; rfl; done)
      | (rw [hx5, nI_clamp (by omega), decide_eq_false (show ¬ mp ≠ 3 from fun z => z (k3.mp h10)), decide_eq_false (i_lt_nle h21)]; rfl; done)
  · have hx5 := bI_1 h5
    obtain ⟨j, hj, rfl, -⟩ := is_cases hx5
    refine lv_iload_n S.1 S.2.1 d_Mo_isKey_8 rfl (lv_at hl 1 rfl) ?_
    refine lv_iconst (v := 3) S.1 S.2.1 d_Mo_isKey_9 (by decide) ?_
    refine lv_icmp_ne (tgt := 24) S.1 S.2.1 d_Mo_isKey_10 rfl (fun h10 => ?_) (fun h10 => ?_)
    · refine lv_iconst (v := 1) S.1 S.2.1 d_Mo_isKey_24 (by decide) ?_
      refine lv_goto (tgt := 29) S.1 S.2.1 d_Mo_isKey_25 rfl ?_
      refine so_zretR S hr rfl hlk ?_ d_Mo_isKey_29
      unfold ky_O
      first
        | (rw [(bI_0 _).mp h5]; rfl; done)
        | (rw [hx5, decide_eq_true (show mp ≠ 3 from fun z => h10 (k3.mpr z))]; rfl; done)
        | (rw [hx5, nI_clamp (by omega), decide_eq_false (show ¬ mp ≠ 3 from fun z => z (k3.mp h10)), decide_eq_true (i_nlt h21)]; rfl; done)
        | (rw [hx5, nI_clamp (by omega), decide_eq_false (show ¬ mp ≠ 3 from fun z => z (k3.mp h10)), decide_eq_false (i_lt_nle h21)]; rfl; done)
    · refine lv_aload_n S.1 S.2.1 d_Mo_isKey_13 rfl (lv_at hl 0 rfl) ?_
      refine gf_Mo_7_Mo S K P M.1 rfl d_Mo_isKey_14 ?_
      refine lv_iload_n S.1 S.2.1 d_Mo_isKey_17 rfl (lv_at hl 2 rfl) ?_
      refine mo_iald S K P M 1 rfl j rfl (by show _ < 32; omega) d_Mo_isKey_18 ?_
      refine lv_bipush (v := 7) S.1 S.2.1 d_Mo_isKey_19 (by decide) ?_
      refine lv_icmp_gt (tgt := 28) S.1 S.2.1 d_Mo_isKey_21 rfl (fun h21 => ?_) (fun h21 => ?_)
      · refine lv_iconst (v := 0) S.1 S.2.1 d_Mo_isKey_28 (by decide) ?_
        refine so_zretR S hr rfl hlk ?_ d_Mo_isKey_29
        unfold ky_O
        first
          | (rw [(bI_0 _).mp h5]; rfl; done)
          | (rw [hx5, decide_eq_true (show mp ≠ 3 from fun z => h10 (k3.mpr z))]; rfl; done)
          | (rw [hx5, nI_clamp (by omega), decide_eq_false (show ¬ mp ≠ 3 from fun z => z (k3.mp h10)), decide_eq_true (i_nlt h21)]; rfl; done)
          | (rw [hx5, nI_clamp (by omega), decide_eq_false (show ¬ mp ≠ 3 from fun z => z (k3.mp h10)), decide_eq_false (i_lt_nle h21)]; rfl; done)
      · refine lv_iconst (v := 1) S.1 S.2.1 d_Mo_isKey_24 (by decide) ?_
        refine lv_goto (tgt := 29) S.1 S.2.1 d_Mo_isKey_25 rfl ?_
        refine so_zretR S hr rfl hlk ?_ d_Mo_isKey_29
        unfold ky_O
        first
          | (rw [(bI_0 _).mp h5]; rfl; done)
          | (rw [hx5, decide_eq_true (show mp ≠ 3 from fun z => h10 (k3.mpr z))]; rfl; done)
          | (rw [hx5, nI_clamp (by omega), decide_eq_false (show ¬ mp ≠ 3 from fun z => z (k3.mp h10)), decide_eq_true (i_nlt h21)]; rfl; done)
          | (rw [hx5, nI_clamp (by omega), decide_eq_false (show ¬ mp ≠ 3 from fun z => z (k3.mp h10)), decide_eq_false (i_lt_nle h21)]; rfl; done)
set_option maxHeartbeats 4000000 in
set_option maxRecDepth 100000 in
theorem c_Mo_size (l : Launch) {s0 : State} {D : va_G} {ca : Nat → ClassId} (hB : so_B tbl s0 D vcl (tyl ca)) {σ : so_S} {mo : Nat} {ar : Nat → Nat} {R : Rf} (M : MoR ca σ mo ar R) (x : Int32) : mo_C l s0 D ca mo ar σ y_Mo_size b_Mo_size 2 (some .int) 1 [.int x] (fun v R1 => R1 = sz R 0 0 ∧ v = some (.int (if is_M x = true then R.2.1 11 x.toNatClampNeg else -1))) := by
  refine so_of hB (by decide) (Nat.le_of_ble_eq_true rfl) ?_
  intro p e s m below meth c ls S K E hr hlk hnm P hS hl
  have hl : lv_has ls 2 [(0, .ref mo), (1, .int x)] := hl
  have F : fM σ σ := fM.rf
  refine lv_aload_n S.1 S.2.1 d_Mo_size_0 rfl (lv_at hl 0 rfl) ?_
  refine lv_iconst (v := 0) S.1 S.2.1 d_Mo_size_1 (by decide) ?_
  refine mo_pz_57 S K P hS M F d_Mo_size_2 (fun σ H locs P hS M F => ?_)
  refine lv_aload_n S.1 S.2.1 d_Mo_size_5 rfl (lv_at hl 0 rfl) ?_
  refine lv_iload_n S.1 S.2.1 d_Mo_size_6 rfl (lv_at hl 1 rfl) ?_
  refine so_callR (cv_Mo_112_Mo S hB K E P hS M.1 (c_Mo_isMap l hB M x) rfl (by decide) (Nat.le_refl _) (Nat.le_refl _) hl.1 rfl (Nat.le_of_ble_eq_true rfl) d_Mo_size_7) (fun v hv => ?_)
  subst hv
  refine lv_if_eq (tgt := 22) S.1 S.2.1 d_Mo_size_10 rfl (fun h10 => ?_) (fun h10 => ?_)
  · refine lv_iconst (v := (-1)) S.1 S.2.1 d_Mo_size_22 (by decide) ?_
    refine so_iret S hr hlk P hS (Nat.le_refl _) (Nat.le_refl _) ⟨_, ?_, M, F⟩ d_Mo_size_23
    refine ⟨rfl, ?_⟩
    first
      | (rw [if_neg (by rw [(bI_0 _).mp h10]; decide)]; done)
      | (rw [if_pos hx, nI_clamp (by omega)]; rfl; done)
  · have hx := bI_1 h10
    obtain ⟨j, hj, rfl⟩ := is_M_cases hx
    refine lv_aload_n S.1 S.2.1 d_Mo_size_13 rfl (lv_at hl 0 rfl) ?_
    refine gf_Mo_38_Mo S K P M.1 rfl d_Mo_size_14 ?_
    refine lv_iload_n S.1 S.2.1 d_Mo_size_17 rfl (lv_at hl 1 rfl) ?_
    refine mo_iald S K P M 11 rfl j rfl (by show _ < 5; omega) d_Mo_size_18 ?_
    refine lv_goto (tgt := 23) S.1 S.2.1 d_Mo_size_19 rfl ?_
    refine so_iret S hr hlk P hS (Nat.le_refl _) (Nat.le_refl _) ⟨_, ?_, M, F⟩ d_Mo_size_23
    refine ⟨rfl, ?_⟩
    first
      | (rw [if_neg (by rw [(bI_0 _).mp h10]; decide)]; done)
      | (rw [if_pos hx, nI_clamp (by omega)]; rfl; done)
set_option maxHeartbeats 4000000 in
set_option maxRecDepth 100000 in
theorem c_Mo_value (l : Launch) {s0 : State} {D : va_G} {ca : Nat → ClassId} (hB : so_B tbl s0 D vcl (tyl ca)) {σ : so_S} {mo : Nat} {ar : Nat → Nat} {R : Rf} (M : MoR ca σ mo ar R) (x : Int32) : mo_C l s0 D ca mo ar σ y_Mo_value b_Mo_value 2 (some .int) 1 [.int x] (fun v R1 => R1 = sz R 0 0 ∧ v = some (.int (if is_O R x = true then R.2.1 1 x.toNatClampNeg else -1))) := by
  refine so_of hB (by decide) (Nat.le_of_ble_eq_true rfl) ?_
  intro p e s m below meth c ls S K E hr hlk hnm P hS hl
  have hl : lv_has ls 2 [(0, .ref mo), (1, .int x)] := hl
  have F : fM σ σ := fM.rf
  refine lv_aload_n S.1 S.2.1 d_Mo_value_0 rfl (lv_at hl 0 rfl) ?_
  refine lv_iconst (v := 0) S.1 S.2.1 d_Mo_value_1 (by decide) ?_
  refine mo_pz_57 S K P hS M F d_Mo_value_2 (fun σ H locs P hS M F => ?_)
  refine lv_aload_n S.1 S.2.1 d_Mo_value_5 rfl (lv_at hl 0 rfl) ?_
  refine lv_iload_n S.1 S.2.1 d_Mo_value_6 rfl (lv_at hl 1 rfl) ?_
  refine so_callR (cv_Mo_64_Mo S hB K E P hS M.1 (c_Mo_isObject l hB M x) rfl (by decide) (Nat.le_refl _) (Nat.le_refl _) hl.1 rfl (Nat.le_of_ble_eq_true rfl) d_Mo_value_7) (fun v hv => ?_)
  subst hv
  refine lv_if_eq (tgt := 22) S.1 S.2.1 d_Mo_value_10 rfl (fun h10 => ?_) (fun h10 => ?_)
  · refine lv_iconst (v := (-1)) S.1 S.2.1 d_Mo_value_22 (by decide) ?_
    refine so_iret S hr hlk P hS (Nat.le_refl _) (Nat.le_refl _) ⟨_, ?_, M, F⟩ d_Mo_value_23
    refine ⟨rfl, ?_⟩
    first
      | (rw [if_neg (show ¬ is_O R x = true by rw [show is_O R x = false from (bI_0 _).mp h10]; decide)]; done)
      | (rw [if_pos hx, nI_clamp (by omega)]; rfl; done)
  · have hx : is_O R x = true := bI_1 h10
    obtain ⟨j, hj, rfl, -⟩ := is_cases hx
    refine lv_aload_n S.1 S.2.1 d_Mo_value_13 rfl (lv_at hl 0 rfl) ?_
    refine gf_Mo_7_Mo S K P M.1 rfl d_Mo_value_14 ?_
    refine lv_iload_n S.1 S.2.1 d_Mo_value_17 rfl (lv_at hl 1 rfl) ?_
    refine mo_iald S K P M 1 rfl j rfl (by show _ < 32; omega) d_Mo_value_18 ?_
    refine lv_goto (tgt := 23) S.1 S.2.1 d_Mo_value_19 rfl ?_
    refine so_iret S hr hlk P hS (Nat.le_refl _) (Nat.le_refl _) ⟨_, ?_, M, F⟩ d_Mo_value_23
    refine ⟨rfl, ?_⟩
    first
      | (rw [if_neg (show ¬ is_O R x = true by rw [show is_O R x = false from (bI_0 _).mp h10]; decide)]; done)
      | (rw [if_pos hx, nI_clamp (by omega)]; rfl; done)
def mt_O (R : Rf) (mp key i : Nat) : Bool := decide (¬ R.2.1 8 i < 0) && sm_O R mp (R.2.1 8 i) key
def fn_O (mt : Nat → Bool) (lo : Nat) : Nat → Int32
  | 0 => -1
  | n + 1 => if mt (lo + n) = true then nI (lo + n) else fn_O mt lo n
set_option maxHeartbeats 4000000 in
set_option maxRecDepth 100000 in
theorem c_Mo_find (l : Launch) {s0 : State} {D : va_G} {ca : Nat → ClassId} (hB : so_B tbl s0 D vcl (tyl ca)) {σ : so_S} {mo : Nat} {ar : Nat → Nat} {R : Rf} (M : MoR ca σ mo ar R) (mp key n : Nat) (hm : mp < 5) (hkey : key < 32) (hz : R.2.1 11 mp = nI n) (hen : en_O mp n ≤ 160) (hok : ∀ i : Nat, 32 * mp ≤ i → i < en_O mp n → ¬ R.2.1 8 i < 0 → mp ≠ 2 → mp ≠ 3 → ∃ st : Nat, st < 32 ∧ R.2.1 8 i = nI st) : mo_D l s0 D mo σ y_Mo_find b_Mo_find 5 (some .int) 1 [.int (nI mp), .int (nI key)] (fun v => v = some (.int (fn_O (mt_O R mp key) (32 * mp) (en_O mp n - 32 * mp)))) := by
  refine so_ofR hB (by decide) (Nat.le_of_ble_eq_true rfl) ?_
  intro p e s m below meth c ls S K E hr hlk P hS hl
  have hl : lv_has ls 5 [(0, .ref mo), (1, .int (nI mp)), (2, .int (nI key))] := hl
  refine lv_iconst (v := (-1)) S.1 S.2.1 d_Mo_find_0 (by decide) ?_
  refine lv_istore_n S.1 S.2.1 d_Mo_find_1 rfl hl (by decide) rfl (fun ls hl => ?_)
  refine lv_bipush (v := 32) S.1 S.2.1 d_Mo_find_2 (by decide) ?_
  refine lv_iload_n S.1 S.2.1 d_Mo_find_4 rfl (lv_at hl 2 rfl) ?_
  refine lv_imul S.1 S.2.1 d_Mo_find_5 ?_
  refine lv_istore S.1 S.2.1 d_Mo_find_6 hl (by decide) rfl (fun ls hl => ?_)
  have e0 : (32 : Int32) * nI mp = nI (32 * mp) := pk_mul 32 mp
  rw [e0] at hl
  refine so_lpR (Wf := fun ls (_ : Nat) => W p l e _ s m _ below meth c _ _ _ _ _ (F0 m 8 ls [])) (fun n1 ls i => n1 = en_O mp n - i ∧ 32 * mp ≤ i ∧ i ≤ en_O mp n ∧ lv_has ls 5 [(4, .int (nI i)), (3, .int (fn_O (mt_O R mp key) (32 * mp) (i - 32 * mp))), (0, .ref mo), (1, .int (nI mp)), (2, .int (nI key))]) ?_ _ ls (32 * mp) ⟨rfl, Nat.le_refl _, by unfold en_O; omega, by rw [Nat.sub_self]; exact hl⟩
  clear hl
  intro n1 ls i ⟨hn1, hi1, hi2, hl⟩ ih
  refine lv_iload S.1 S.2.1 d_Mo_find_8 (lv_at hl 0 rfl) ?_
  refine lv_aload_n S.1 S.2.1 d_Mo_find_10 rfl (lv_at hl 2 rfl) ?_
  refine lv_iload_n S.1 S.2.1 d_Mo_find_11 rfl (lv_at hl 3 rfl) ?_
  refine so_callR (cv_Mo_68_Mo S hB K E P hS M.1 (c_Mo_endd l hB M mp n hm hz) rfl (by decide) (Nat.le_refl _) (Nat.le_refl _) hl.1 rfl (Nat.le_of_ble_eq_true rfl) d_Mo_find_12) (fun v hv => ?_)
  subst hv
  refine lv_icmp_ge (tgt := 57) S.1 S.2.1 d_Mo_find_15 rfl (fun h15 => ?_) (fun h15 => ?_)
  · refine lv_iload_n S.1 S.2.1 d_Mo_find_57 rfl (lv_at hl 1 rfl) ?_
    refine so_iretR S hr hlk ?_ d_Mo_find_58
    have hge : i = en_O mp n := by
      have := (nI_leI (by omega) (by omega)).mp h15
      omega
    subst hge
    rfl
  · have hlt : i < en_O mp n := Nat.not_le.mp fun q => h15 (nI_le q (by omega))
    have eiN : nI i + Int32.ofInt 1 = nI (i + 1) := nI_1 i
    refine lv_aload_n S.1 S.2.1 d_Mo_find_18 rfl (lv_at hl 2 rfl) ?_
    refine gf_Mo_29_Mo S K P M.1 rfl d_Mo_find_19 ?_
    refine lv_iload S.1 S.2.1 d_Mo_find_22 (lv_at hl 0 rfl) ?_
    refine mo_iald S K P M 8 rfl i rfl (by show i < 160; omega) d_Mo_find_24 ?_
    refine lv_if_lt (tgt := 49) S.1 S.2.1 d_Mo_find_25 rfl (fun h25 => ?_) (fun h25 => ?_)
    · refine lv_iload_n S.1 S.2.1 d_Mo_find_49 rfl (lv_at hl 1 rfl) ?_
      refine lv_istore_n S.1 S.2.1 d_Mo_find_50 rfl hl (by decide) rfl (fun ls hl => ?_)
      refine lv_iinc (k := 1) S.1 S.2.1 d_Mo_find_51 hl rfl rfl (by decide) rfl (fun ls hl => ?_)
      refine lv_goto (tgt := 8) S.1 S.2.1 d_Mo_find_54 rfl ?_
      rw [eiN] at hl
      refine ih _ ls (i + 1) ?_ ⟨rfl, by omega, by omega, ?_⟩
      · omega
      · have e1 : i + 1 - 32 * mp = (i - 32 * mp) + 1 := by omega
        have e2 : 32 * mp + (i - 32 * mp) = i := by omega
        rw [e1]
        simp only [fn_O, e2]
        rw [if_neg (show ¬ mt_O R mp key i = true from by unfold mt_O; rw [decide_eq_false (show ¬ ¬ R.2.1 8 i < 0 from fun z => z h25), Bool.false_and]; exact Bool.false_ne_true)]
        exact hl
    · refine lv_aload_n S.1 S.2.1 d_Mo_find_28 rfl (lv_at hl 2 rfl) ?_
      refine lv_iload_n S.1 S.2.1 d_Mo_find_29 rfl (lv_at hl 3 rfl) ?_
      refine lv_aload_n S.1 S.2.1 d_Mo_find_30 rfl (lv_at hl 2 rfl) ?_
      refine gf_Mo_29_Mo S K P M.1 rfl d_Mo_find_31 ?_
      refine lv_iload S.1 S.2.1 d_Mo_find_34 (lv_at hl 0 rfl) ?_
      refine mo_iald S K P M 8 rfl i rfl (by show i < 160; omega) d_Mo_find_36 ?_
      refine lv_iload_n S.1 S.2.1 d_Mo_find_37 rfl (lv_at hl 4 rfl) ?_
      refine so_callR (cv_Mo_71_Mo S hB K E P hS M.1 (c_Mo_isSame l hB M mp key hm hkey _ (hok i hi1 (by omega) h25)) rfl (by decide) (Nat.le_refl _) (Nat.le_refl _) hl.1 rfl (Nat.le_of_ble_eq_true rfl) d_Mo_find_38) (fun v hv => ?_)
      subst hv
      refine lv_if_eq (tgt := 49) S.1 S.2.1 d_Mo_find_41 rfl (fun h41 => ?_) (fun h41 => ?_)
      · refine lv_iload_n S.1 S.2.1 d_Mo_find_49 rfl (lv_at hl 1 rfl) ?_
        refine lv_istore_n S.1 S.2.1 d_Mo_find_50 rfl hl (by decide) rfl (fun ls hl => ?_)
        refine lv_iinc (k := 1) S.1 S.2.1 d_Mo_find_51 hl rfl rfl (by decide) rfl (fun ls hl => ?_)
        refine lv_goto (tgt := 8) S.1 S.2.1 d_Mo_find_54 rfl ?_
        rw [eiN] at hl
        refine ih _ ls (i + 1) ?_ ⟨rfl, by omega, by omega, ?_⟩
        · omega
        · have e1 : i + 1 - 32 * mp = (i - 32 * mp) + 1 := by omega
          have e2 : 32 * mp + (i - 32 * mp) = i := by omega
          rw [e1]
          simp only [fn_O, e2]
          rw [if_neg (show ¬ mt_O R mp key i = true from by unfold mt_O; rw [(bI_0 _).mp h41, Bool.and_false]; exact Bool.false_ne_true)]
          exact hl
      · refine lv_iload S.1 S.2.1 d_Mo_find_44 (lv_at hl 0 rfl) ?_
        refine lv_goto (tgt := 50) S.1 S.2.1 d_Mo_find_46 rfl ?_
        refine lv_istore_n S.1 S.2.1 d_Mo_find_50 rfl hl (by decide) rfl (fun ls hl => ?_)
        refine lv_iinc (k := 1) S.1 S.2.1 d_Mo_find_51 hl rfl rfl (by decide) rfl (fun ls hl => ?_)
        refine lv_goto (tgt := 8) S.1 S.2.1 d_Mo_find_54 rfl ?_
        rw [eiN] at hl
        refine ih _ ls (i + 1) ?_ ⟨rfl, by omega, by omega, ?_⟩
        · omega
        · have e1 : i + 1 - 32 * mp = (i - 32 * mp) + 1 := by omega
          have e2 : 32 * mp + (i - 32 * mp) = i := by omega
          rw [e1]
          simp only [fn_O, e2]
          rw [if_pos (show mt_O R mp key i = true from by unfold mt_O; rw [bI_1 h41, decide_eq_true h25]; rfl)]
          exact hl

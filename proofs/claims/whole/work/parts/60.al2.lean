/-! ArrayList: what writes. -/
theorem nI_sb {a b : Nat} (h : b ≤ a) : nI a - nI b = nI (a - b) := by
  have h1 := nI_add (a - b) b
  rw [Nat.sub_add_cancel h] at h1
  rw [← h1]
  exact Int32.add_sub_cancel _ _
set_option maxHeartbeats 400000 in
set_option maxRecDepth 100000 in
theorem c_Ma_max (l : Launch) {s0 : State} {D : va_G} {ca : Nat → ClassId} (hB : so_B tbl s0 D vcl (tyl ca)) {σ : so_S} (x y : Int32) : so_D l s0 D vcl y_Ma_max b_Ma_max 2 (some .int) 0 [.int x, .int y] σ (fun v => v = some (.int (if x < y then y else x))) := by
  refine so_ofRF hB (by decide +kernel) (Nat.le_of_ble_eq_true rfl) ?_
  intro p e s m below meth c ls S K E hr hlk P hS hl
  have hl : lv_has ls 2 [(0, .int x), (1, .int y)] := hl
  refine lv_iload_n S.1 S.2.1 d_Ma_max_0 rfl (lv_at hl 0 rfl) ?_
  refine lv_iload_n S.1 S.2.1 d_Ma_max_1 rfl (lv_at hl 1 rfl) ?_
  refine lv_icmp_lt (tgt := 9) S.1 S.2.1 d_Ma_max_2 rfl (fun h2 => ?_) (fun h2 => ?_)
  · refine lv_iload_n S.1 S.2.1 d_Ma_max_9 rfl (lv_at hl 1 rfl) ?_
    refine so_iretR S hr hlk ?_ d_Ma_max_10
    first
      | rw [if_pos h2]
      | rw [if_neg h2]
  · refine lv_iload_n S.1 S.2.1 d_Ma_max_5 rfl (lv_at hl 0 rfl) ?_
    refine lv_goto (tgt := 10) S.1 S.2.1 d_Ma_max_6 rfl ?_
    refine so_iretR S hr hlk ?_ d_Ma_max_10
    first
      | rw [if_pos h2]
      | rw [if_neg h2]
set_option maxHeartbeats 400000 in
set_option maxRecDepth 100000 in
theorem c_Ma_min (l : Launch) {s0 : State} {D : va_G} {ca : Nat → ClassId} (hB : so_B tbl s0 D vcl (tyl ca)) {σ : so_S} (x y : Int32) : so_D l s0 D vcl y_Ma_min b_Ma_min 2 (some .int) 0 [.int x, .int y] σ (fun v => v = some (.int (if x > y then y else x))) := by
  refine so_ofRF hB (by decide +kernel) (Nat.le_of_ble_eq_true rfl) ?_
  intro p e s m below meth c ls S K E hr hlk P hS hl
  have hl : lv_has ls 2 [(0, .int x), (1, .int y)] := hl
  refine lv_iload_n S.1 S.2.1 d_Ma_min_0 rfl (lv_at hl 0 rfl) ?_
  refine lv_iload_n S.1 S.2.1 d_Ma_min_1 rfl (lv_at hl 1 rfl) ?_
  refine lv_icmp_gt (tgt := 9) S.1 S.2.1 d_Ma_min_2 rfl (fun h2 => ?_) (fun h2 => ?_)
  · refine lv_iload_n S.1 S.2.1 d_Ma_min_9 rfl (lv_at hl 1 rfl) ?_
    refine so_iretR S hr hlk ?_ d_Ma_min_10
    first
      | rw [if_pos h2]
      | rw [if_neg h2]
  · refine lv_iload_n S.1 S.2.1 d_Ma_min_5 rfl (lv_at hl 0 rfl) ?_
    refine lv_goto (tgt := 10) S.1 S.2.1 d_Ma_min_6 rfl ?_
    refine so_iretR S hr hlk ?_ d_Ma_min_10
    first
      | rw [if_pos h2]
      | rw [if_neg h2]
theorem nl_max {a : Nat} (h : a < 2 ^ 31) : (if nI 1 < nI a then nI a else nI 1) = nI (max 1 a) := by
  rcases Nat.lt_or_ge 1 a with h1 | h1
  · rw [if_pos (nI_lt h1 h), Nat.max_eq_right (by omega)]
  · rw [if_neg (nI_nlt h1 (by decide)), Nat.max_eq_left h1]
set_option maxHeartbeats 400000 in
set_option maxRecDepth 100000 in
theorem c_As_newLength (l : Launch) {s0 : State} {D : va_G} {ca : Nat → ClassId} (hB : so_B tbl s0 D vcl (tyl ca)) {σ : so_S} (o g : Nat) (h1 : o < 1000) (h2 : g < 1000) : so_D l s0 D vcl y_As_newLength b_As_newLength 4 (some .int) 1 [.int (nI o), .int (nI 1), .int (nI g)] σ (fun v => v = some (.int (nI (o + max 1 g)))) := by
  refine so_ofR hB (by decide) (Nat.le_of_ble_eq_true rfl) ?_
  intro p e s m below meth c ls S K E hr hlk P hS hl
  have hl : lv_has ls 4 [(0, .int (nI o)), (1, .int (nI 1)), (2, .int (nI g))] := hl
  refine lv_iload_n S.1 S.2.1 d_As_newLength_0 rfl (lv_at hl 0 rfl) ?_
  refine lv_iload_n S.1 S.2.1 d_As_newLength_1 rfl (lv_at hl 1 rfl) ?_
  refine lv_iload_n S.1 S.2.1 d_As_newLength_2 rfl (lv_at hl 2 rfl) ?_
  refine so_callR (cs_As_194 S hB E P hS (c_Ma_max l hB (nI 1) (nI g)) rfl (by decide) (Nat.le_refl _) (Nat.le_refl _) hl.1 rfl (Nat.le_of_ble_eq_true rfl) d_As_newLength_3) (fun v hv => ?_)
  subst hv
  refine lv_iadd S.1 S.2.1 d_As_newLength_6 ?_
  refine lv_istore_n S.1 S.2.1 d_As_newLength_7 rfl hl (by decide) rfl (fun ls hl => ?_)
  rw [nl_max (by omega), nI_add] at hl
  refine lv_iconst (v := 0) S.1 S.2.1 d_As_newLength_8 (by decide) ?_
  refine lv_iload_n S.1 S.2.1 d_As_newLength_9 rfl (lv_at hl 0 rfl) ?_
  refine lv_icmp_ge (tgt := 21) S.1 S.2.1 d_As_newLength_10 rfl (fun h10 => ?_) (fun h10 => ?_)
  · first
      | exact absurd h10 (show ¬ nI (o + max 1 g) ≤ nI 0 from nI_ge (by omega) (by omega))
      | exact absurd h16 (show ¬ nI 2147483639 < nI (o + max 1 g) from nI_nlt (by omega) (by omega))
  · refine lv_iload_n S.1 S.2.1 d_As_newLength_13 rfl (lv_at hl 0 rfl) ?_
    refine lv_ldc (v := 2147483639) S.1 S.2.1 S.2.2.2.1 (S.2.2.2.2 _ wd_559) d_As_newLength_14 ?_
    refine lv_icmp_gt (tgt := 21) S.1 S.2.1 d_As_newLength_16 rfl (fun h16 => ?_) (fun h16 => ?_)
    · first
        | exact absurd h10 (show ¬ nI (o + max 1 g) ≤ nI 0 from nI_ge (by omega) (by omega))
        | exact absurd h16 (show ¬ nI 2147483639 < nI (o + max 1 g) from nI_nlt (by omega) (by omega))
    · refine lv_iload_n S.1 S.2.1 d_As_newLength_19 rfl (lv_at hl 0 rfl) ?_
      exact so_iretR S hr hlk rfl d_As_newLength_20
set_option maxHeartbeats 400000 in
set_option maxRecDepth 100000 in
theorem c_AL_fastRemove (l : Launch) {s0 : State} {D : va_G} {ca : Nat → ClassId} (hB : so_B tbl s0 D vcl (tyl ca)) {σ : so_S} {al tg ed tr : Nat} {md : Int32} {n cap : Nat} {f : Nat → Option Nat} (htg : tg ≠ tr) (htl : tg < 1000) (htr : tr < 1000) (h1 : σ al = some (tg, oAL md ed (nI n))) (h2 : σ ed = some (tr, aR ca 6 cap f)) (hcap : cap ≤ 64) (hnc : n ≤ cap) (hE : ∀ i y, i < n → f i = some y → isE σ y) (j : Nat) (hj : j < n) : so_C l s0 D vcl y_AL_fastRemove b_AL_fastRemove 4 none 1 0 0 [.ref al, .ref ed, .int (nI j)] σ (fun v σ1 => v = none ∧ (∃ f1, σ1 al = some (tg, oAL (md + 1) ed (nI (n - 1))) ∧ σ1 ed = some (tr, aR ca 6 cap f1) ∧ ∀ i, i < n - 1 → f1 i = if i < j then f i else f (i + 1)) ∧ fT (tL tg tr) σ σ1) := by
  refine so_of hB (by decide) (Nat.le_of_ble_eq_true rfl) ?_
  intro p e s m below meth c ls S K E hr hlk hnm P hS hl
  have hl : lv_has ls 4 [(0, .ref al), (1, .ref ed), (2, .int (nI j))] := hl
  have hne : al ≠ ed := so_ne h1 h2 htg
  have tail : ∀ (ls : Array Slot) (H : Heap) (locs : List Loc) (σ2 : so_S) (f2 : Nat → Option Nat), lv_has ls 4 [(3, .int (nI (n - 1))), (0, .ref al), (1, .ref ed), (2, .int (nI j))] → so_P D vcl s0.heap.size σ2 H → va_S (so_A s0.heap.size) s.heap H locs → σ2 al = some (tg, oAL (md + 1) ed (nI n)) → σ2 ed = some (tr, aR ca 6 cap f2) → (∀ i, i < n - 1 → f2 i = if i < j then f i else f (i + 1)) → fT (tL tg tr) σ σ2 → W p l e (so_rm 1 0 0) s m #[.ref al, .ref ed, .int (nI j)] below meth c H locs 0 0 (MQ below (so_Q s0 D vcl (fun v σ1 => v = none ∧ (∃ f1, σ1 al = some (tg, oAL (md + 1) ed (nI (n - 1))) ∧ σ1 ed = some (tr, aR ca 6 cap f1) ∧ ∀ i, i < n - 1 → f1 i = if i < j then f i else f (i + 1)) ∧ fT (tL tg tr) σ σ1)) #[.ref al, .ref ed, .int (nI j)] s 0 0 (so_A s0.heap.size)) (F0 m 34 ls []) := by
    intro ls H locs σ2 f2 hl P hS g1 g2 g3 Fr
    refine lv_aload_n S.1 S.2.1 d_AL_fastRemove_34 rfl (lv_at hl 2 rfl) ?_
    refine lv_aload_n S.1 S.2.1 d_AL_fastRemove_35 rfl (lv_at hl 1 rfl) ?_
    refine lv_iload_n S.1 S.2.1 d_AL_fastRemove_36 rfl (lv_at hl 0 rfl) ?_
    refine lv_dup_x1 S.1 S.2.1 d_AL_fastRemove_37 rfl rfl ?_
    refine pf_AL_48_AL S K P hS g1 (Nat.le_of_ble_eq_true rfl) rfl rfl d_AL_fastRemove_38 (fun H locs P hS => ?_)
    have g1' : so_up σ2 al (tg, oAL (md + 1) ed (nI (n - 1))) al = some (tg, oAL (md + 1) ed (nI (n - 1))) := so_us
    have g2' : so_up σ2 al (tg, oAL (md + 1) ed (nI (n - 1))) ed = some (tr, aR ca 6 cap f2) := by rw [so_un (Ne.symm hne)]; exact g2
    have Fr1 : fT (tL tg tr) σ (so_up σ2 al (tg, oAL (md + 1) ed (nI (n - 1)))) := Fr.up g1 (Or.inl rfl)
    refine lv_null S.1 S.2.1 d_AL_fastRemove_41 ?_
    refine so_aastN S K P hS g2' 6 rfl (r := none) (fun v h => by cases h) (show n - 1 < cap by omega) (by omega) d_AL_fastRemove_42 (fun H locs P hS => ?_)
    exact so_vret S hr hlk P hS (Nat.le_refl _) (Nat.le_refl _) ⟨rfl, ⟨va_up f2 (n - 1) none, by rw [so_un hne]; exact g1', so_us, fun i hi => by rw [va_up_ne _ _ (by omega)]; exact g3 i hi⟩, Fr1.up g2' (Or.inr rfl)⟩ d_AL_fastRemove_43
  refine lv_aload_n S.1 S.2.1 d_AL_fastRemove_0 rfl (lv_at hl 0 rfl) ?_
  refine lv_dup S.1 S.2.1 d_AL_fastRemove_1 rfl ?_
  refine gf_AL_63_AL S K P h1 rfl d_AL_fastRemove_2 ?_
  refine lv_iconst (v := 1) S.1 S.2.1 d_AL_fastRemove_5 (by decide) ?_
  refine lv_iadd S.1 S.2.1 d_AL_fastRemove_6 ?_
  refine pf_AL_63_AL S K P hS h1 (Nat.le_of_ble_eq_true rfl) rfl rfl d_AL_fastRemove_7 (fun H locs P hS => ?_)
  have g1 : so_up σ al (tg, oAL (md + 1) ed (nI n)) al = some (tg, oAL (md + 1) ed (nI n)) := so_us
  have g2 : so_up σ al (tg, oAL (md + 1) ed (nI n)) ed = some (tr, aR ca 6 cap f) := by rw [so_un (Ne.symm hne)]; exact h2
  have P : so_P D vcl s0.heap.size (so_up σ al (tg, oAL (md + 1) ed (nI n))) H := P
  have Fr : fT (tL tg tr) σ (so_up σ al (tg, oAL (md + 1) ed (nI n))) := fT.rf.up h1 (Or.inl rfl)
  refine lv_aload_n S.1 S.2.1 d_AL_fastRemove_10 rfl (lv_at hl 0 rfl) ?_
  refine gf_AL_48_AL S K P g1 rfl d_AL_fastRemove_11 ?_
  refine lv_iconst (v := 1) S.1 S.2.1 d_AL_fastRemove_14 (by decide) ?_
  refine lv_isub S.1 S.2.1 d_AL_fastRemove_15 ?_
  rw [nI_p (show 1 ≤ n by omega)]
  refine lv_dup S.1 S.2.1 d_AL_fastRemove_16 rfl ?_
  refine lv_istore_n S.1 S.2.1 d_AL_fastRemove_17 rfl hl (by decide) rfl (fun ls hl => ?_)
  refine lv_iload_n S.1 S.2.1 d_AL_fastRemove_18 rfl (lv_at hl 3 rfl) ?_
  refine lv_icmp_le (tgt := 34) S.1 S.2.1 d_AL_fastRemove_19 rfl (fun h19 => ?_) (fun h19 => ?_)
  · have hjn : ¬ j < n - 1 := fun z => absurd h19 (nI_ge z (by omega))
    exact tail ls H locs _ f hl P hS g1 g2 (fun i hi => by rw [if_pos (by omega)]) Fr
  · have hjn : j < n - 1 := Nat.not_le.mp fun z => h19 (nI_le z (by omega))
    refine lv_aload_n S.1 S.2.1 d_AL_fastRemove_22 rfl (lv_at hl 2 rfl) ?_
    refine lv_iload_n S.1 S.2.1 d_AL_fastRemove_23 rfl (lv_at hl 3 rfl) ?_
    refine lv_iconst (v := 1) S.1 S.2.1 d_AL_fastRemove_24 (by decide) ?_
    refine lv_iadd S.1 S.2.1 d_AL_fastRemove_25 ?_
    refine lv_aload_n S.1 S.2.1 d_AL_fastRemove_26 rfl (lv_at hl 2 rfl) ?_
    refine lv_iload_n S.1 S.2.1 d_AL_fastRemove_27 rfl (lv_at hl 3 rfl) ?_
    refine lv_iload_n S.1 S.2.1 d_AL_fastRemove_28 rfl (lv_at hl 0 rfl) ?_
    refine lv_iload_n S.1 S.2.1 d_AL_fastRemove_29 rfl (lv_at hl 3 rfl) ?_
    refine lv_isub S.1 S.2.1 d_AL_fastRemove_30 ?_
    rw [nI_1, nI_sb (show j ≤ n - 1 by omega)]
    refine so_copyq S hl.1 wd_613 wd_595 wd_594 wd_26 K P hS 6 6 (C := "HoldMaps$Entry") g2 g2 rfl rfl (show (j + 1) + (n - 1 - j) ≤ cap by omega) (show j + (n - 1 - j) ≤ cap by omega) (by omega) (by omega) (fun i hi y hy => ?_) (va_Nw.of rfl (S.2.2.2.2 _ wd_1084)) (Nat.le_refl _) (by decide) d_AL_fastRemove_31 (fun H locs P hS => ?_)
    · obtain ⟨te, k, mm, v, u, ht, h⟩ := hE (j + 1 + i) y (by omega) hy
      exact ⟨te, 3, _, _, _, by rw [so_un (so_ne h h1 (show te ≠ tg by omega))]; exact h, rfl⟩
    · refine tail ls H locs _ _ hl P hS (by rw [so_un hne]; exact g1) so_us (fun i hi => ?_) (Fr.up g2 (Or.inr rfl))
      show (if j ≤ i ∧ i < j + (n - 1 - j) then f (j + 1 + (i - j)) else f i) = _
      by_cases hij : i < j
      · rw [if_neg (by omega), if_pos hij]
      · rw [if_pos (by omega), if_neg hij, show j + 1 + (i - j) = i + 1 by omega]

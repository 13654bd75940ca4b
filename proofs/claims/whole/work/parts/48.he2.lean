/-! Heap: mark. -/
set_option maxHeartbeats 400000 in
set_option maxRecDepth 100000 in
theorem c_He_mark (l : Launch) {s0 : State} {D : va_G} {ca : Nat → ClassId} (hB : so_B tbl s0 D vcl (tyl ca)) {σ : so_S} {he th ho : Nat} {X : Hx} (M : HeR ca σ he th ho X) (c0 : Nat) (hc : X.hc = nI c0) (hc33 : c0 ≤ 32) (x : Int32) : he_C l s0 D ca he th ho σ y_He_mark b_He_mark 2 none 1 [.int x] (fun v X1 => v = none ∧ ((((∀ j, j < 32 → x = nI j → X.al j = false) ∨ (∃ j, j < 32 ∧ x = nI j ∧ X.hd j = true) ∨ 32 ≤ c0) ∧ X1 = X) ∨ ∃ j, j < 32 ∧ x = nI j ∧ X.al j = true ∧ X.hd j = false ∧ c0 < 32 ∧ X1 = mk_H X c0 j)) := by
  refine so_of hB (by decide) (Nat.le_of_ble_eq_true rfl) ?_
  intro p e s m below meth c ls S K E hr hlk hnm P hS hl
  have hl : lv_has ls 2 [(0, .ref he), (1, .int x)] := hl
  have F : fH σ σ := fH.rf
  refine lv_aload_n S.1 S.2.1 d_He_mark_0 rfl (lv_at hl 0 rfl) ?_
  refine lv_iload_n S.1 S.2.1 d_He_mark_1 rfl (lv_at hl 1 rfl) ?_
  refine so_callR (cv_He_21_He S hB K E P hS M.1 (c_He_has l hB M.1 M.2.1 x) rfl (by decide) (Nat.le_refl _) (Nat.le_refl _) hl.1 rfl (Nat.le_of_ble_eq_true rfl) d_He_mark_2) (fun v hv => ?_)
  subst hv
  refine lv_if_eq (tgt := 59) S.1 S.2.1 d_He_mark_5 rfl (fun h5 => ?_) (fun h5 => ?_)
  · refine so_vret S hr hlk P hS (Nat.le_refl _) (Nat.le_refl _) ⟨_, ?_, M, F⟩ d_He_mark_59
    exact ⟨rfl, Or.inl ⟨Or.inl (fun j hj h => by rw [h, has_nI hj, X.f_al] at h5; exact (bI_0 _).mp h5), rfl⟩⟩
  · have hx : has_O X.f x = true := bI_1 h5
    obtain ⟨j, hj, rfl, hsj⟩ := has_c hx
    rw [X.f_al] at hsj
    obtain ⟨a, ha⟩ := Hx.al_ad hsj
    have hta := M.2.2.2 j a hj ha
    refine lv_aload_n S.1 S.2.1 d_He_mark_8 rfl (lv_at hl 0 rfl) ?_
    refine gf_He_11_He S K P M.1 rfl d_He_mark_9 ?_
    refine lv_iload_n S.1 S.2.1 d_He_mark_12 rfl (lv_at hl 1 rfl) ?_
    refine so_aaldN S K P M.2.1 3 rfl hj (by decide) d_He_mark_13 ?_
    rw [show X.f j = some a.1 by unfold Hx.f; rw [ha]; rfl]
    refine gf_He_25_Th S K P hta.1 rfl d_He_mark_14 ?_
    refine lv_if_ne (tgt := 59) S.1 S.2.1 d_He_mark_17 rfl (fun h17 => ?_) (fun h17 => ?_)
    · refine so_vret S hr hlk P hS (Nat.le_refl _) (Nat.le_refl _) ⟨_, ?_, M, F⟩ d_He_mark_59
      exact ⟨rfl, Or.inl ⟨Or.inr (Or.inl ⟨j, hj, rfl, bI_1 h17⟩), rfl⟩⟩
    · refine lv_aload_n S.1 S.2.1 d_He_mark_20 rfl (lv_at hl 0 rfl) ?_
      refine gf_He_29_He S K P M.1 rfl d_He_mark_21 ?_
      refine lv_bipush (v := 32) S.1 S.2.1 d_He_mark_24 (by decide) ?_
      refine lv_icmp_ge (tgt := 59) S.1 S.2.1 d_He_mark_26 rfl (fun h26 => ?_) (fun h26 => ?_)
      · refine so_vret S hr hlk P hS (Nat.le_refl _) (Nat.le_refl _) ⟨_, ?_, M, F⟩ d_He_mark_59
        refine ⟨rfl, Or.inl ⟨Or.inr (Or.inr ?_), rfl⟩⟩
        rw [hc] at h26
        exact (nI_leI (a := 32) (by decide) (by omega)).mp h26
      · have hc32 : c0 < 32 := Nat.not_le.mp fun z => h26 (by rw [hc]; exact nI_le (a := 32) z (by omega))
        refine lv_aload_n S.1 S.2.1 d_He_mark_29 rfl (lv_at hl 0 rfl) ?_
        refine gf_He_11_He S K P M.1 rfl d_He_mark_30 ?_
        refine lv_iload_n S.1 S.2.1 d_He_mark_33 rfl (lv_at hl 1 rfl) ?_
        refine so_aaldN S K P M.2.1 3 rfl hj (by decide) d_He_mark_34 ?_
        rw [show X.f j = some a.1 by unfold Hx.f; rw [ha]; rfl]
        refine lv_iconst (v := 1) S.1 S.2.1 d_He_mark_35 (by decide) ?_
        refine he_p25 S K P hS M F j hj ha true rfl d_He_mark_36 (fun σ H locs P hS M F => ?_)
        refine lv_aload_n S.1 S.2.1 d_He_mark_39 rfl (lv_at hl 0 rfl) ?_
        refine gf_He_17_He S K P M.1 rfl d_He_mark_40 ?_
        refine lv_aload_n S.1 S.2.1 d_He_mark_43 rfl (lv_at hl 0 rfl) ?_
        refine gf_He_29_He S K P M.1 rfl d_He_mark_44 ?_
        refine lv_iload_n S.1 S.2.1 d_He_mark_47 rfl (lv_at hl 1 rfl) ?_
        refine he_iast S K P hS M F c0 hc hc32 d_He_mark_48 (fun σ H locs P hS M F => ?_)
        refine lv_aload_n S.1 S.2.1 d_He_mark_49 rfl (lv_at hl 0 rfl) ?_
        refine lv_dup S.1 S.2.1 d_He_mark_50 rfl ?_
        refine gf_He_29_He S K P M.1 rfl d_He_mark_51 ?_
        refine lv_iconst (v := 1) S.1 S.2.1 d_He_mark_54 (by decide) ?_
        refine lv_iadd S.1 S.2.1 d_He_mark_55 ?_
        refine he_p29 S K P hS M F d_He_mark_56 (fun σ H locs P hS M F => ?_)
        refine so_vret S hr hlk P hS (Nat.le_refl _) (Nat.le_refl _) ⟨_, ?_, M, F⟩ d_He_mark_59
        refine ⟨rfl, Or.inr ⟨j, hj, rfl, hsj, (bI_0 _).mp h17, hc32, ?_⟩⟩
        unfold mk_H
        rw [← nI_1, ← hc]
        rfl

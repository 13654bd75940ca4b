/-! The reference: entry, step. -/
def eo_O (q : Mps) (x k w : Int32) : Bool := is_M x && (decide (¬ k < 0) && (decide (¬ nI (sz_M q x.toNatClampNeg) ≤ k) && (decide (¬ w < 0) && decide (¬ 1 < w))))
set_option maxHeartbeats 400000 in
set_option maxRecDepth 100000 in
theorem c_Mo_entry (l : Launch) {s0 : State} {D : va_G} {ca : Nat → ClassId} (hB : so_B tbl s0 D vcl (tyl ca)) {σ : so_S} {mo : Nat} {ar : Nat → Nat} {R : Rf} (M : MoR ca σ mo ar R) {o : Obs} {q : Mps} {n : Nms} {k : Wks} (h0 : refR R o q n k) (hok : okK q) (x kx wx : Int32) : mo_C l s0 D ca mo ar σ y_Mo_entry b_Mo_entry 5 (some .int) 1 [.int x, .int kx, .int wx] (fun v R1 => (eo_O q x kx wx = false ∧ v = some (.int 0) ∧ R1.1 0 = 1 ∧ refR R1 o q n k) ∨ (∃ mp kk e, mp < 5 ∧ x = nI mp ∧ kx = nI kk ∧ eo_O q x kx wx = true ∧ en_M q mp kk e ∧ ((wx = 0 ∧ v = some (.int (nI e.1))) ∨ (wx = 1 ∧ v = some (.int (nI e.2)))) ∧ R1.1 0 = 0 ∧ refR R1 o q n k)) := by
  refine so_of hB (by decide) (Nat.le_of_ble_eq_true rfl) ?_
  intro p e s m below meth c ls S K E hr hlk hnm P hS hl
  have hl : lv_has ls 5 [(0, .ref mo), (1, .int x), (2, .int kx), (3, .int wx)] := hl
  have F : fM σ σ := fM.rf
  refine lv_aload_n S.1 S.2.1 d_Mo_entry_0 rfl (lv_at hl 0 rfl) ?_
  refine lv_iconst (v := 0) S.1 S.2.1 d_Mo_entry_1 (by decide) ?_
  refine mo_pz_57 S K P hS M F d_Mo_entry_2 (fun σ H locs P hS M F => ?_)
  refine lv_aload_n S.1 S.2.1 d_Mo_entry_5 rfl (lv_at hl 0 rfl) ?_
  refine lv_iload_n S.1 S.2.1 d_Mo_entry_6 rfl (lv_at hl 1 rfl) ?_
  refine so_callR (cv_Mo_112_Mo S hB K E P hS M.1 (c_Mo_isMap l hB M x) rfl (by decide) (Nat.le_refl _) (Nat.le_refl _) hl.1 rfl (Nat.le_of_ble_eq_true rfl) d_Mo_entry_7) (fun v hv => ?_)
  subst hv
  refine lv_if_eq (tgt := 36) S.1 S.2.1 d_Mo_entry_10 rfl (fun h10 => ?_) (fun h10 => ?_)
  · have hbad : eo_O q x kx wx = false := by
      unfold eo_O
      rw [(bI_0 _).mp h10]; rfl
    refine lv_aload_n S.1 S.2.1 d_Mo_entry_36 rfl (lv_at hl 0 rfl) ?_
    refine lv_iconst (v := 1) S.1 S.2.1 d_Mo_entry_37 (by decide) ?_
    refine mo_after F (cv_Mo_60_Mo S hB K E P hS M.1 (c_Mo_refuse l hB M 1) rfl (by decide) (Nat.le_refl _) (Nat.le_refl _) hl.1 rfl (Nat.le_of_ble_eq_true rfl) d_Mo_entry_38) hS (fun v R1 σ H locs hp P hS M F => ?_)
    obtain ⟨rfl, rfl⟩ := hp
    refine so_iret S hr hlk P hS (Nat.le_refl _) (Nat.le_refl _) ⟨_, ?_, M, F⟩ d_Mo_entry_41
    exact Or.inl ⟨hbad, rfl, rfl, ⟨h0.1, h0.2.1, h0.2.2.1, h0.2.2.2⟩⟩
  · have hx : is_M x = true := bI_1 h10
    obtain ⟨mp, hm, rfl⟩ := is_M_cases hx
    have hsz := sz_R h0.2.1 hm
    have ecl : (nI mp).toNatClampNeg = mp := nI_clamp (by omega)
    refine lv_iload_n S.1 S.2.1 d_Mo_entry_13 rfl (lv_at hl 2 rfl) ?_
    refine lv_if_lt (tgt := 36) S.1 S.2.1 d_Mo_entry_14 rfl (fun h14 => ?_) (fun h14 => ?_)
    · have hbad : eo_O q (nI mp) kx wx = false := by
        unfold eo_O
        rw [hx, decide_eq_false (show ¬ ¬ kx < 0 from fun z => z h14)]; rfl
      refine lv_aload_n S.1 S.2.1 d_Mo_entry_36 rfl (lv_at hl 0 rfl) ?_
      refine lv_iconst (v := 1) S.1 S.2.1 d_Mo_entry_37 (by decide) ?_
      refine mo_after F (cv_Mo_60_Mo S hB K E P hS M.1 (c_Mo_refuse l hB M 1) rfl (by decide) (Nat.le_refl _) (Nat.le_refl _) hl.1 rfl (Nat.le_of_ble_eq_true rfl) d_Mo_entry_38) hS (fun v R1 σ H locs hp P hS M F => ?_)
      obtain ⟨rfl, rfl⟩ := hp
      refine so_iret S hr hlk P hS (Nat.le_refl _) (Nat.le_refl _) ⟨_, ?_, M, F⟩ d_Mo_entry_41
      exact Or.inl ⟨hbad, rfl, rfl, ⟨h0.1, h0.2.1, h0.2.2.1, h0.2.2.2⟩⟩
    · refine lv_iload_n S.1 S.2.1 d_Mo_entry_17 rfl (lv_at hl 2 rfl) ?_
      refine lv_aload_n S.1 S.2.1 d_Mo_entry_18 rfl (lv_at hl 0 rfl) ?_
      refine gf_Mo_38_Mo S K P M.1 rfl d_Mo_entry_19 ?_
      refine lv_iload_n S.1 S.2.1 d_Mo_entry_22 rfl (lv_at hl 1 rfl) ?_
      refine mo_iald S K P M 11 rfl mp rfl (by show _ < 5; omega) d_Mo_entry_23 ?_
      refine lv_icmp_ge (tgt := 36) S.1 S.2.1 d_Mo_entry_24 rfl (fun h24 => ?_) (fun h24 => ?_)
      · have hbad : eo_O q (nI mp) kx wx = false := by
          unfold eo_O
          rw [hx, decide_eq_true h14, ecl, decide_eq_false (show ¬ ¬ nI (sz_M q mp) ≤ kx from fun z => z (by rw [← hsz.1]; exact h24))]; rfl
        refine lv_aload_n S.1 S.2.1 d_Mo_entry_36 rfl (lv_at hl 0 rfl) ?_
        refine lv_iconst (v := 1) S.1 S.2.1 d_Mo_entry_37 (by decide) ?_
        refine mo_after F (cv_Mo_60_Mo S hB K E P hS M.1 (c_Mo_refuse l hB M 1) rfl (by decide) (Nat.le_refl _) (Nat.le_refl _) hl.1 rfl (Nat.le_of_ble_eq_true rfl) d_Mo_entry_38) hS (fun v R1 σ H locs hp P hS M F => ?_)
        obtain ⟨rfl, rfl⟩ := hp
        refine so_iret S hr hlk P hS (Nat.le_refl _) (Nat.le_refl _) ⟨_, ?_, M, F⟩ d_Mo_entry_41
        exact Or.inl ⟨hbad, rfl, rfl, ⟨h0.1, h0.2.1, h0.2.2.1, h0.2.2.2⟩⟩
      · have h24b : ¬ nI (sz_M q mp) ≤ kx := fun z => h24 (by rw [← hsz.1] at z; exact z)
        refine lv_iload_n S.1 S.2.1 d_Mo_entry_27 rfl (lv_at hl 3 rfl) ?_
        refine lv_if_lt (tgt := 36) S.1 S.2.1 d_Mo_entry_28 rfl (fun h28 => ?_) (fun h28 => ?_)
        · have hbad : eo_O q (nI mp) kx wx = false := by
            unfold eo_O
            rw [hx, decide_eq_true h14, ecl, decide_eq_true h24b, decide_eq_false (show ¬ ¬ wx < 0 from fun z => z h28)]; rfl
          refine lv_aload_n S.1 S.2.1 d_Mo_entry_36 rfl (lv_at hl 0 rfl) ?_
          refine lv_iconst (v := 1) S.1 S.2.1 d_Mo_entry_37 (by decide) ?_
          refine mo_after F (cv_Mo_60_Mo S hB K E P hS M.1 (c_Mo_refuse l hB M 1) rfl (by decide) (Nat.le_refl _) (Nat.le_refl _) hl.1 rfl (Nat.le_of_ble_eq_true rfl) d_Mo_entry_38) hS (fun v R1 σ H locs hp P hS M F => ?_)
          obtain ⟨rfl, rfl⟩ := hp
          refine so_iret S hr hlk P hS (Nat.le_refl _) (Nat.le_refl _) ⟨_, ?_, M, F⟩ d_Mo_entry_41
          exact Or.inl ⟨hbad, rfl, rfl, ⟨h0.1, h0.2.1, h0.2.2.1, h0.2.2.2⟩⟩
        · refine lv_iload_n S.1 S.2.1 d_Mo_entry_31 rfl (lv_at hl 3 rfl) ?_
          refine lv_iconst (v := 1) S.1 S.2.1 d_Mo_entry_32 (by decide) ?_
          refine lv_icmp_le (tgt := 42) S.1 S.2.1 d_Mo_entry_33 rfl (fun h33 => ?_) (fun h33 => ?_)
          · obtain ⟨kk, hkk, rfl⟩ := ix_in (n := sz_M q mp) (by omega) rfl h14 h24b
            have hw := wh_cases h28 (i_le_nlt h33)
            have hgood : eo_O q (nI mp) (nI kk) wx = true := by
              unfold eo_O
              rw [hx, decide_eq_true h14, ecl, decide_eq_true h24b, decide_eq_true h28, decide_eq_true (i_le_nlt h33)]
              rfl
            refine lv_aload_n S.1 S.2.1 d_Mo_entry_42 rfl (lv_at hl 0 rfl) ?_
            refine lv_iload_n S.1 S.2.1 d_Mo_entry_43 rfl (lv_at hl 1 rfl) ?_
            refine lv_iload_n S.1 S.2.1 d_Mo_entry_44 rfl (lv_at hl 2 rfl) ?_
            refine so_callR (cv_Mo_132_Mo S hB K E P hS M.1 (c_Mo_placeOf l hB M mp kk hm (by omega) (pl_has h0.2.1 hok hm hkk)) rfl (by decide) (Nat.le_refl _) (Nat.le_refl _) hl.1 rfl (Nat.le_of_ble_eq_true rfl) d_Mo_entry_45) (fun v hv => ?_)
            obtain ⟨pp, hp1, hp2, hp3, hp4, hp5, rfl⟩ := hv
            refine lv_istore S.1 S.2.1 d_Mo_entry_48 hl (by decide) rfl (fun ls hl => ?_)
            obtain ⟨x, hx1, hx2, hx3⟩ := pl_is h0.2.1 hok hm hkk hp1 hp2 hp4 hp5
            refine lv_iload_n S.1 S.2.1 d_Mo_entry_50 rfl (lv_at hl 4 rfl) ?_
            refine lv_if_ne (tgt := 64) S.1 S.2.1 d_Mo_entry_51 rfl (fun h51 => ?_) (fun h51 => ?_)
            · refine lv_aload_n S.1 S.2.1 d_Mo_entry_64 rfl (lv_at hl 1 rfl) ?_
              refine gf_Mo_32_Mo S K P M.1 rfl d_Mo_entry_65 ?_
              refine lv_iload S.1 S.2.1 d_Mo_entry_68 (lv_at hl 0 rfl) ?_
              refine mo_iald S K P M 9 rfl pp rfl hp3 d_Mo_entry_70 ?_
              refine so_iret S hr hlk P hS (Nat.le_refl _) (Nat.le_refl _) ⟨_, ?_, M, F⟩ d_Mo_entry_71
              refine Or.inr ⟨mp, kk, x, hm, rfl, rfl, hgood, hx1, ?_, rfl, ⟨h0.1, h0.2.1, h0.2.2.1, h0.2.2.2⟩⟩
              exact Or.inr ⟨hw.resolve_left h51, by rw [← hx3]; rfl⟩
            · refine lv_aload_n S.1 S.2.1 d_Mo_entry_54 rfl (lv_at hl 1 rfl) ?_
              refine gf_Mo_29_Mo S K P M.1 rfl d_Mo_entry_55 ?_
              refine lv_iload S.1 S.2.1 d_Mo_entry_58 (lv_at hl 0 rfl) ?_
              refine mo_iald S K P M 8 rfl pp rfl hp3 d_Mo_entry_60 ?_
              refine lv_goto (tgt := 71) S.1 S.2.1 d_Mo_entry_61 rfl ?_
              refine so_iret S hr hlk P hS (Nat.le_refl _) (Nat.le_refl _) ⟨_, ?_, M, F⟩ d_Mo_entry_71
              refine Or.inr ⟨mp, kk, x, hm, rfl, rfl, hgood, hx1, ?_, rfl, ⟨h0.1, h0.2.1, h0.2.2.1, h0.2.2.2⟩⟩
              exact Or.inl ⟨h51, by rw [← hx2]; rfl⟩
          · have hbad : eo_O q (nI mp) kx wx = false := by
              unfold eo_O
              rw [hx, decide_eq_true h14, ecl, decide_eq_true h24b, decide_eq_true h28, decide_eq_false (show ¬ ¬ 1 < wx from fun z => z (i_nle h33))]; rfl
            refine lv_aload_n S.1 S.2.1 d_Mo_entry_36 rfl (lv_at hl 0 rfl) ?_
            refine lv_iconst (v := 1) S.1 S.2.1 d_Mo_entry_37 (by decide) ?_
            refine mo_after F (cv_Mo_60_Mo S hB K E P hS M.1 (c_Mo_refuse l hB M 1) rfl (by decide) (Nat.le_refl _) (Nat.le_refl _) hl.1 rfl (Nat.le_of_ble_eq_true rfl) d_Mo_entry_38) hS (fun v R1 σ H locs hp P hS M F => ?_)
            obtain ⟨rfl, rfl⟩ := hp
            refine so_iret S hr hlk P hS (Nat.le_refl _) (Nat.le_refl _) ⟨_, ?_, M, F⟩ d_Mo_entry_41
            exact Or.inl ⟨hbad, rfl, rfl, ⟨h0.1, h0.2.1, h0.2.2.1, h0.2.2.2⟩⟩
set_option maxHeartbeats 400000 in
set_option maxRecDepth 100000 in
theorem c_Mo_step (l : Launch) {s0 : State} {D : va_G} {ca : Nat → ClassId} (hB : so_B tbl s0 D vcl (tyl ca)) {σ : so_S} {mo : Nat} {ar : Nat → Nat} {R : Rf} (M : MoR ca σ mo ar R) {o : Obs} {q : Mps} {n : Nms} {k : Wks} (h0 : refR R o q n k) (hok : okK q) (hwa : ∀ i, i < 5 → k.2.2 i < 900) (x : Int32) : mo_C l s0 D ca mo ar σ y_Mo_step b_Mo_step 2 (some .int) 1 [.int x] (fun v R1 => ((is_M x = false ∨ ∃ mp, mp < 5 ∧ x = nI mp ∧ k.1 mp = false) ∧ v = some (.int 0) ∧ R1.1 0 = 1 ∧ refR R1 o q n k) ∨ (∃ mp, mp < 5 ∧ x = nI mp ∧ k.1 mp = true ∧ k.2.1 mp = true ∧ v = some (.int 0) ∧ R1.1 0 = 2 ∧ refR R1 o q n k) ∨ (∃ mp, mp < 5 ∧ x = nI mp ∧ k.1 mp = true ∧ k.2.1 mp = false ∧ sz_M q mp ≤ k.2.2 mp ∧ v = some (.int 0) ∧ R1.1 0 = 3 ∧ refR R1 o q n k) ∨ (∃ mp e, mp < 5 ∧ x = nI mp ∧ k.1 mp = true ∧ k.2.1 mp = false ∧ k.2.2 mp < sz_M q mp ∧ en_M q mp (k.2.2 mp) e ∧ v = some (.int (nI e.1)) ∧ R1.1 0 = 0 ∧ refR R1 o q n (k.1, k.2.1, va_up k.2.2 mp (k.2.2 mp + 1)))) := by
  refine so_of hB (by decide) (Nat.le_of_ble_eq_true rfl) ?_
  intro p e s m below meth c ls S K E hr hlk hnm P hS hl
  have hl : lv_has ls 2 [(0, .ref mo), (1, .int x)] := hl
  have F : fM σ σ := fM.rf
  refine lv_aload_n S.1 S.2.1 d_Mo_step_0 rfl (lv_at hl 0 rfl) ?_
  refine lv_iconst (v := 0) S.1 S.2.1 d_Mo_step_1 (by decide) ?_
  refine mo_pz_57 S K P hS M F d_Mo_step_2 (fun σ H locs P hS M F => ?_)
  refine lv_aload_n S.1 S.2.1 d_Mo_step_5 rfl (lv_at hl 0 rfl) ?_
  refine lv_iload_n S.1 S.2.1 d_Mo_step_6 rfl (lv_at hl 1 rfl) ?_
  refine so_callR (cv_Mo_112_Mo S hB K E P hS M.1 (c_Mo_isMap l hB M x) rfl (by decide) (Nat.le_refl _) (Nat.le_refl _) hl.1 rfl (Nat.le_of_ble_eq_true rfl) d_Mo_step_7) (fun v hv => ?_)
  subst hv
  refine lv_if_eq (tgt := 22) S.1 S.2.1 d_Mo_step_10 rfl (fun h10 => ?_) (fun h10 => ?_)
  · refine lv_aload_n S.1 S.2.1 d_Mo_step_22 rfl (lv_at hl 0 rfl) ?_
    refine lv_iconst (v := 1) S.1 S.2.1 d_Mo_step_23 (by decide) ?_
    refine mo_after F (cv_Mo_60_Mo S hB K E P hS M.1 (c_Mo_refuse l hB M 1) rfl (by decide) (Nat.le_refl _) (Nat.le_refl _) hl.1 rfl (Nat.le_of_ble_eq_true rfl) d_Mo_step_24) hS (fun v R1 σ H locs hp P hS M F => ?_)
    obtain ⟨rfl, rfl⟩ := hp
    refine so_iret S hr hlk P hS (Nat.le_refl _) (Nat.le_refl _) ⟨_, ?_, M, F⟩ d_Mo_step_27
    exact Or.inl ⟨Or.inl ((bI_0 _).mp h10), rfl, rfl, ⟨h0.1, h0.2.1, h0.2.2.1, h0.2.2.2⟩⟩
  · have hx : is_M x = true := bI_1 h10
    obtain ⟨mp, hm, rfl⟩ := is_M_cases hx
    have hsz := sz_R h0.2.1 hm
    have hwk := h0.2.2.2 mp hm
    have hw1 := hwa mp hm
    refine lv_aload_n S.1 S.2.1 d_Mo_step_13 rfl (lv_at hl 0 rfl) ?_
    refine gf_Mo_48_Mo S K P M.1 rfl d_Mo_step_14 ?_
    refine lv_iload_n S.1 S.2.1 d_Mo_step_17 rfl (lv_at hl 1 rfl) ?_
    refine mo_zald S K P M 15 rfl mp rfl (by show _ < 5; omega) d_Mo_step_18 ?_
    refine lv_if_ne (tgt := 28) S.1 S.2.1 d_Mo_step_19 rfl (fun h19 => ?_) (fun h19 => ?_)
    · refine lv_aload_n S.1 S.2.1 d_Mo_step_28 rfl (lv_at hl 0 rfl) ?_
      refine gf_Mo_51_Mo S K P M.1 rfl d_Mo_step_29 ?_
      refine lv_iload_n S.1 S.2.1 d_Mo_step_32 rfl (lv_at hl 1 rfl) ?_
      refine mo_zald S K P M 16 rfl mp rfl (by show _ < 5; omega) d_Mo_step_33 ?_
      refine lv_if_eq (tgt := 43) S.1 S.2.1 d_Mo_step_34 rfl (fun h34 => ?_) (fun h34 => ?_)
      · refine lv_aload_n S.1 S.2.1 d_Mo_step_43 rfl (lv_at hl 0 rfl) ?_
        refine gf_Mo_54_Mo S K P M.1 rfl d_Mo_step_44 ?_
        refine lv_iload_n S.1 S.2.1 d_Mo_step_47 rfl (lv_at hl 1 rfl) ?_
        refine mo_iald S K P M 17 rfl mp rfl (by show _ < 5; omega) d_Mo_step_48 ?_
        refine lv_aload_n S.1 S.2.1 d_Mo_step_49 rfl (lv_at hl 0 rfl) ?_
        refine gf_Mo_38_Mo S K P M.1 rfl d_Mo_step_50 ?_
        refine lv_iload_n S.1 S.2.1 d_Mo_step_53 rfl (lv_at hl 1 rfl) ?_
        refine mo_iald S K P M 11 rfl mp rfl (by show _ < 5; omega) d_Mo_step_54 ?_
        refine lv_icmp_lt (tgt := 64) S.1 S.2.1 d_Mo_step_55 rfl (fun h55 => ?_) (fun h55 => ?_)
        · have hlt : k.2.2 mp < sz_M q mp := by
            have h9 : nI (k.2.2 mp) < nI (sz_M q mp) := by rw [← hwk.2.2, ← hsz.1]; exact h55
            exact (nI_ltI (by omega) (by omega)).mp h9
          refine lv_aload_n S.1 S.2.1 d_Mo_step_64 rfl (lv_at hl 0 rfl) ?_
          refine gf_Mo_54_Mo S K P M.1 rfl d_Mo_step_65 ?_
          refine lv_iload_n S.1 S.2.1 d_Mo_step_68 rfl (lv_at hl 1 rfl) ?_
          refine lv_dup2_11 S.1 S.2.1 d_Mo_step_69 rfl rfl ?_
          refine mo_iald S K P M 17 rfl mp rfl (by show _ < 5; omega) d_Mo_step_70 ?_
          refine lv_iconst (v := 1) S.1 S.2.1 d_Mo_step_71 (by decide) ?_
          refine lv_iadd S.1 S.2.1 d_Mo_step_72 ?_
          refine mo_iast S K P hS M F 17 rfl mp rfl (by show _ < 5; omega) d_Mo_step_73 (fun σ H locs P hS M F => ?_)
          have e17 : (sz R 0 0).2.1 17 mp + 1 = nI (k.2.2 mp + 1) := by
            show R.2.1 17 mp + 1 = _
            rw [hwk.2.2, nI_1]
          rw [e17] at M
          have h1 : refR (sa (sz R 0 0) 17 mp (nI (k.2.2 mp + 1))) o q n (k.1, k.2.1, va_up k.2.2 mp (k.2.2 mp + 1)) := by
            refine ⟨h0.1, mpR.ext rfl rfl rfl rfl h0.2.1, h0.2.2.1, fun i hi => ?_⟩
            have hw := h0.2.2.2 i hi
            refine ⟨hw.1, hw.2.1, ?_⟩
            show upd (R.2.1 17) mp (nI (k.2.2 mp + 1)) i = nI (va_up k.2.2 mp (k.2.2 mp + 1) i)
            unfold upd va_up
            by_cases c : i = mp
            · rw [if_pos c, if_pos c]
            · rw [if_neg c, if_neg c]; exact hw.2.2
          have h117 : (sa (sz R 0 0) 17 mp (nI (k.2.2 mp + 1))).2.1 17 mp = nI (k.2.2 mp + 1) := if_pos rfl
          have h10z : (sa (sz R 0 0) 17 mp (nI (k.2.2 mp + 1))).1 0 = 0 := rfl
          generalize sa (sz R 0 0) 17 mp (nI (k.2.2 mp + 1)) = Ra at M h1 h117 h10z
          refine lv_aload_n S.1 S.2.1 d_Mo_step_74 rfl (lv_at hl 0 rfl) ?_
          refine gf_Mo_29_Mo S K P M.1 rfl d_Mo_step_75 ?_
          refine lv_aload_n S.1 S.2.1 d_Mo_step_78 rfl (lv_at hl 0 rfl) ?_
          refine lv_iload_n S.1 S.2.1 d_Mo_step_79 rfl (lv_at hl 1 rfl) ?_
          refine lv_aload_n S.1 S.2.1 d_Mo_step_80 rfl (lv_at hl 0 rfl) ?_
          refine gf_Mo_54_Mo S K P M.1 rfl d_Mo_step_81 ?_
          refine lv_iload_n S.1 S.2.1 d_Mo_step_84 rfl (lv_at hl 1 rfl) ?_
          refine mo_iald S K P M 17 rfl mp rfl (by show _ < 5; omega) d_Mo_step_85 ?_
          refine lv_iconst (v := 1) S.1 S.2.1 d_Mo_step_86 (by decide) ?_
          refine lv_isub S.1 S.2.1 d_Mo_step_87 ?_
          rw [h117, nI_pred]
          refine so_callR (cv_Mo_132_Mo S hB K E P hS M.1 (c_Mo_placeOf l hB M mp (k.2.2 mp) hm (by omega) (pl_has h1.2.1 hok hm hlt)) rfl (by decide) (Nat.le_refl _) (Nat.le_refl _) hl.1 rfl (Nat.le_of_ble_eq_true rfl) d_Mo_step_88) (fun v hv => ?_)
          obtain ⟨pp, hp1, hp2, hp3, hp4, hp5, rfl⟩ := hv
          obtain ⟨x, hx1, hx2, hx3⟩ := pl_is h1.2.1 hok hm hlt hp1 hp2 hp4 hp5
          refine mo_iald S K P M 8 rfl pp rfl hp3 d_Mo_step_91 ?_
          refine so_iret S hr hlk P hS (Nat.le_refl _) (Nat.le_refl _) ⟨_, ?_, M, F⟩ d_Mo_step_92
          exact Or.inr (Or.inr (Or.inr ⟨mp, x, hm, rfl, by rw [← hwk.1]; exact bI_1 h19, by rw [← hwk.2.1]; exact (bI_0 _).mp h34, hlt, hx1, by rw [hx2], h10z, h1⟩))
        · refine lv_aload_n S.1 S.2.1 d_Mo_step_58 rfl (lv_at hl 0 rfl) ?_
          refine lv_iconst (v := 3) S.1 S.2.1 d_Mo_step_59 (by decide) ?_
          refine mo_after F (cv_Mo_60_Mo S hB K E P hS M.1 (c_Mo_refuse l hB M 3) rfl (by decide) (Nat.le_refl _) (Nat.le_refl _) hl.1 rfl (Nat.le_of_ble_eq_true rfl) d_Mo_step_60) hS (fun v R1 σ H locs hp P hS M F => ?_)
          obtain ⟨rfl, rfl⟩ := hp
          refine so_iret S hr hlk P hS (Nat.le_refl _) (Nat.le_refl _) ⟨_, ?_, M, F⟩ d_Mo_step_63
          refine Or.inr (Or.inr (Or.inl ⟨mp, hm, rfl, by rw [← hwk.1]; exact bI_1 h19, by rw [← hwk.2.1]; exact (bI_0 _).mp h34, ?_, rfl, rfl, ⟨h0.1, h0.2.1, h0.2.2.1, h0.2.2.2⟩⟩))
          have h9 : ¬ nI (k.2.2 mp) < nI (sz_M q mp) := by rw [← hwk.2.2, ← hsz.1]; exact h55
          exact Nat.not_lt.mp fun z => h9 (nI_lt z (by omega))
      · refine lv_aload_n S.1 S.2.1 d_Mo_step_37 rfl (lv_at hl 0 rfl) ?_
        refine lv_iconst (v := 2) S.1 S.2.1 d_Mo_step_38 (by decide) ?_
        refine mo_after F (cv_Mo_60_Mo S hB K E P hS M.1 (c_Mo_refuse l hB M 2) rfl (by decide) (Nat.le_refl _) (Nat.le_refl _) hl.1 rfl (Nat.le_of_ble_eq_true rfl) d_Mo_step_39) hS (fun v R1 σ H locs hp P hS M F => ?_)
        obtain ⟨rfl, rfl⟩ := hp
        refine so_iret S hr hlk P hS (Nat.le_refl _) (Nat.le_refl _) ⟨_, ?_, M, F⟩ d_Mo_step_42
        exact Or.inr (Or.inl ⟨mp, hm, rfl, by rw [← hwk.1]; exact bI_1 h19, by rw [← hwk.2.1]; exact bI_1 h34, rfl, rfl, ⟨h0.1, h0.2.1, h0.2.2.1, h0.2.2.2⟩⟩)
    · refine lv_aload_n S.1 S.2.1 d_Mo_step_22 rfl (lv_at hl 0 rfl) ?_
      refine lv_iconst (v := 1) S.1 S.2.1 d_Mo_step_23 (by decide) ?_
      refine mo_after F (cv_Mo_60_Mo S hB K E P hS M.1 (c_Mo_refuse l hB M 1) rfl (by decide) (Nat.le_refl _) (Nat.le_refl _) hl.1 rfl (Nat.le_of_ble_eq_true rfl) d_Mo_step_24) hS (fun v R1 σ H locs hp P hS M F => ?_)
      obtain ⟨rfl, rfl⟩ := hp
      refine so_iret S hr hlk P hS (Nat.le_refl _) (Nat.le_refl _) ⟨_, ?_, M, F⟩ d_Mo_step_27
      exact Or.inl ⟨Or.inr ⟨mp, hm, rfl, by rw [← hwk.1]; exact (bI_0 _).mp h19⟩, rfl, rfl, ⟨h0.1, h0.2.1, h0.2.2.1, h0.2.2.2⟩⟩

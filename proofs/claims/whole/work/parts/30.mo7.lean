/-! The reference: use, goes. -/
/-- R1's rows of numbers are R's but for the row k (and the row of old ones) -/
def agr (k : Nat) (R R1 : Rf) : Prop := (∀ j, j ≠ 8 → j ≠ 9 → j ≠ 10 → j ≠ 11 → j ≠ 13 → R1.2.1 j = R.2.1 j) ∧ (∀ i, (i < 32 * k ∨ 32 * k + 32 ≤ i) → R1.2.1 8 i = R.2.1 8 i ∧ R1.2.1 9 i = R.2.1 9 i ∧ R1.2.1 10 i = R.2.1 10 i) ∧ ∀ i, i ≠ k → R1.2.1 11 i = R.2.1 11 i
theorem agr.rf {k : Nat} {R : Rf} : agr k R R := ⟨fun _ _ _ _ _ _ => rfl, fun _ _ => ⟨rfl, rfl, rfl⟩, fun _ _ => rfl⟩
theorem agr.tr {k : Nat} {A B C : Rf} (h : agr k A B) (h2 : agr k B C) : agr k A C :=
  ⟨fun j a b c d e => (h2.1 j a b c d e).trans (h.1 j a b c d e), fun i hi => ⟨(h2.2.1 i hi).1.trans (h.2.1 i hi).1, (h2.2.1 i hi).2.1.trans (h.2.1 i hi).2.1, (h2.2.1 i hi).2.2.trans (h.2.1 i hi).2.2⟩, fun i hi => (h2.2.2 i hi).trans (h.2.2 i hi)⟩
theorem eqo.agr {k : Nat} {R R1 : Rf} (h : eqo k R R1) : agr k R R1 := ⟨fun j a b c d _ => h.2.2.1 j a b c d, h.2.2.2.1, h.2.2.2.2⟩
theorem eqw.agr {R R1 : Rf} (h : eqw R R1) : agr 0 R R1 := ⟨h.2.2.1, fun i hi => h.2.2.2.1 i (by omega), h.2.2.2.2⟩
theorem agr.row {k k1 : Nat} {R R1 : Rf} {l : List (Nat × Nat)} (h : agr k R R1) (hk : k1 ≠ k) (hr : rowR R k1 l) : rowR R1 k1 l := by
  refine ⟨(h.2.2 k1 hk).trans hr.1, hr.2.1, fun j e he => ?_⟩
  have hj := (List.getElem?_eq_some_iff.mp he).1
  have hb : 32 * k1 + j < 32 * k ∨ 32 * k + 32 ≤ 32 * k1 + j := by
    have := hr.2.1
    omega
  have h1 := h.2.1 _ hb
  rw [h1.1, h1.2.1]
  exact hr.2.2 j e he
theorem nI_ne {a b : Nat} (ha : a < 2 ^ 31) (hb : b < 2 ^ 31) (h : a ≠ b) : ¬ nI a = nI b := fun q => h ((nI_eq ha hb).mp q)
set_option maxHeartbeats 400000 in
set_option maxRecDepth 100000 in
theorem c_Mo_use (l : Launch) {s0 : State} {D : va_G} {ca : Nat → ClassId} (hB : so_B tbl s0 D vcl (tyl ca)) {σ : so_S} {mo : Nat} {ar : Nat → Nat} {R : Rf} (M : MoR ca σ mo ar R) (mp : Nat) (k : Int32) (hm : mp < 5) (hm1 : mp ≠ 1) (hm4 : mp ≠ 4) : mo_C l s0 D ca mo ar σ y_Mo_use b_Mo_use 5 none 2 [.int (nI mp), .int k] (fun v R1 => v = none ∧ R1 = R) := by
  refine so_of hB (by decide) (Nat.le_of_ble_eq_true rfl) ?_
  intro p e s m below meth c ls S K E hr hlk hnm P hS hl
  have hl : lv_has ls 5 [(0, .ref mo), (1, .int (nI mp)), (2, .int k)] := hl
  have F : fM σ σ := fM.rf
  refine lv_iload_n S.1 S.2.1 d_Mo_use_0 rfl (lv_at hl 1 rfl) ?_
  refine lv_iconst (v := 1) S.1 S.2.1 d_Mo_use_1 (by decide) ?_
  refine lv_icmp_ne (tgt := 15) S.1 S.2.1 d_Mo_use_2 rfl (fun h2 => ?_) (fun h2 => ?_)
  · refine lv_iload_n S.1 S.2.1 d_Mo_use_15 rfl (lv_at hl 1 rfl) ?_
    refine lv_iconst (v := 4) S.1 S.2.1 d_Mo_use_16 (by decide) ?_
    refine lv_icmp_ne (tgt := 70) S.1 S.2.1 d_Mo_use_17 rfl (fun h17 => ?_) (fun h17 => ?_)
    · refine so_vret S hr hlk P hS (Nat.le_refl _) (Nat.le_refl _) ⟨_, ?_, M, F⟩ d_Mo_use_70
      exact ⟨rfl, rfl⟩
    · exact absurd h17 (nI_ne (b := 4) (by omega) (by decide) hm4)
  · exact absurd h2 (nI_ne (b := 1) (by omega) (by decide) hm1)
set_option maxHeartbeats 400000 in
set_option maxRecDepth 100000 in
theorem c_Mo_use_1 (l : Launch) {s0 : State} {D : va_G} {ca : Nat → ClassId} (hB : so_B tbl s0 D vcl (tyl ca)) {σ : so_S} {mo : Nat} {ar : Nat → Nat} {R : Rf} (M : MoR ca σ mo ar R) (k : Nat) (hk : k < 160) : mo_C l s0 D ca mo ar σ y_Mo_use b_Mo_use 5 none 2 [.int (nI 1), .int (nI k)] (fun v R1 => v = none ∧ R1 = sa R 10 k (R.1 14)) := by
  refine so_of hB (by decide) (Nat.le_of_ble_eq_true rfl) ?_
  intro p e s m below meth c ls S K E hr hlk hnm P hS hl
  have hl : lv_has ls 5 [(0, .ref mo), (1, .int (nI 1)), (2, .int (nI k))] := hl
  have F : fM σ σ := fM.rf
  refine lv_iload_n S.1 S.2.1 d_Mo_use_0 rfl (lv_at hl 1 rfl) ?_
  refine lv_iconst (v := 1) S.1 S.2.1 d_Mo_use_1 (by decide) ?_
  refine lv_icmp_ne (tgt := 15) S.1 S.2.1 d_Mo_use_2 rfl (fun h2 => ?_) (fun h2 => ?_)
  · refine lv_iload_n S.1 S.2.1 d_Mo_use_15 rfl (lv_at hl 1 rfl) ?_
    refine lv_iconst (v := 4) S.1 S.2.1 d_Mo_use_16 (by decide) ?_
    refine lv_icmp_ne (tgt := 70) S.1 S.2.1 d_Mo_use_17 rfl (fun h17 => ?_) (fun h17 => ?_)
    · refine so_vret S hr hlk P hS (Nat.le_refl _) (Nat.le_refl _) ⟨_, ?_, M, F⟩ d_Mo_use_70
      first | exact ⟨rfl, rfl⟩ | exact absurd rfl h2
    · exact absurd h17 (by decide)
  · refine lv_aload_n S.1 S.2.1 d_Mo_use_5 rfl (lv_at hl 0 rfl) ?_
    refine gf_Mo_35_Mo S K P M.1 rfl d_Mo_use_6 ?_
    refine lv_iload_n S.1 S.2.1 d_Mo_use_9 rfl (lv_at hl 2 rfl) ?_
    refine lv_aload_n S.1 S.2.1 d_Mo_use_10 rfl (lv_at hl 0 rfl) ?_
    refine gf_Mo_93_Mo S K P M.1 rfl d_Mo_use_11 ?_
    refine mo_iast S K P hS M F 10 rfl k rfl (by show _ < 160; omega) d_Mo_use_14 (fun σ H locs P hS M F => ?_)
    refine lv_iload_n S.1 S.2.1 d_Mo_use_15 rfl (lv_at hl 1 rfl) ?_
    refine lv_iconst (v := 4) S.1 S.2.1 d_Mo_use_16 (by decide) ?_
    refine lv_icmp_ne (tgt := 70) S.1 S.2.1 d_Mo_use_17 rfl (fun h17 => ?_) (fun h17 => ?_)
    · refine so_vret S hr hlk P hS (Nat.le_refl _) (Nat.le_refl _) ⟨_, ?_, M, F⟩ d_Mo_use_70
      first | exact ⟨rfl, rfl⟩ | exact absurd rfl h2
    · exact absurd h17 (by decide)
set_option maxHeartbeats 400000 in
set_option maxRecDepth 100000 in
theorem c_Mo_use_4 (l : Launch) {s0 : State} {D : va_G} {ca : Nat → ClassId} (hB : so_B tbl s0 D vcl (tyl ca)) {σ : so_S} {mo : Nat} {ar : Nat → Nat} {R : Rf} (M : MoR ca σ mo ar R) {la : List (Nat × Nat)} (j : Nat) (hrow : rowR R 4 la) (hj : j < la.length) : mo_C l s0 D ca mo ar σ y_Mo_use b_Mo_use 5 none 2 [.int (nI 4), .int (nI (128 + j))] (fun v R1 => v = none ∧ ((∃ x, j + 1 < la.length ∧ la[j]? = some x ∧ rowR R1 4 (la.eraseIdx j ++ [x]) ∧ agr 4 R R1 ∧ R1.1 = R.1 ∧ R1.2.2 = (sbb R 16 4 true).2.2) ∨ (j + 1 = la.length ∧ R1 = R))) := by
  refine so_of hB (by decide) (Nat.le_of_ble_eq_true rfl) ?_
  intro p e s m below meth c ls S K E hr hlk hnm P hS hl
  have hl : lv_has ls 5 [(0, .ref mo), (1, .int (nI 4)), (2, .int (nI (128 + j)))] := hl
  have F : fM σ σ := fM.rf
  have hla := hrow.2.1
  refine lv_iload_n S.1 S.2.1 d_Mo_use_0 rfl (lv_at hl 1 rfl) ?_
  refine lv_iconst (v := 1) S.1 S.2.1 d_Mo_use_1 (by decide) ?_
  refine lv_icmp_ne (tgt := 15) S.1 S.2.1 d_Mo_use_2 rfl (fun h2 => ?_) (fun h2 => ?_)
  · refine lv_iload_n S.1 S.2.1 d_Mo_use_15 rfl (lv_at hl 1 rfl) ?_
    refine lv_iconst (v := 4) S.1 S.2.1 d_Mo_use_16 (by decide) ?_
    refine lv_icmp_ne (tgt := 70) S.1 S.2.1 d_Mo_use_17 rfl (fun h17 => ?_) (fun h17 => ?_)
    · refine so_vret S hr hlk P hS (Nat.le_refl _) (Nat.le_refl _) ⟨_, ?_, M, F⟩ d_Mo_use_70
      first
        | (exact absurd rfl h17; done)
        | (refine ⟨rfl, Or.inr ⟨?_, rfl⟩⟩; rw [show en_O 4 la.length = 128 + la.length from rfl, nI_1] at h28; have := (nI_leI (by omega) (by omega)).mp h28; omega)
        | (refine ⟨rfl, Or.inl ⟨x, hjl, hx, hro, (hec.tr heo).agr, (hec.tr heo).1, ?_⟩⟩; unfold sbb; rw [(hec.tr heo).2.1])
    · refine lv_iload_n S.1 S.2.1 d_Mo_use_20 rfl (lv_at hl 2 rfl) ?_
      refine lv_iconst (v := 1) S.1 S.2.1 d_Mo_use_21 (by decide) ?_
      refine lv_iadd S.1 S.2.1 d_Mo_use_22 ?_
      refine lv_aload_n S.1 S.2.1 d_Mo_use_23 rfl (lv_at hl 0 rfl) ?_
      refine lv_iload_n S.1 S.2.1 d_Mo_use_24 rfl (lv_at hl 1 rfl) ?_
      refine so_callR (cv_Mo_68_Mo S hB K E P hS M.1 (c_Mo_endd l hB M 4 la.length (by decide) hrow.1) rfl (by decide) (Nat.le_refl _) (Nat.le_refl _) hl.1 rfl (Nat.le_of_ble_eq_true rfl) d_Mo_use_25) (fun v hv => ?_)
      subst hv
      refine lv_icmp_ge (tgt := 70) S.1 S.2.1 d_Mo_use_28 rfl (fun h28 => ?_) (fun h28 => ?_)
      · refine so_vret S hr hlk P hS (Nat.le_refl _) (Nat.le_refl _) ⟨_, ?_, M, F⟩ d_Mo_use_70
        first
          | (exact absurd rfl h17; done)
          | (refine ⟨rfl, Or.inr ⟨?_, rfl⟩⟩; rw [show en_O 4 la.length = 128 + la.length from rfl, nI_1] at h28; have := (nI_leI (by omega) (by omega)).mp h28; omega)
          | (refine ⟨rfl, Or.inl ⟨x, hjl, hx, hro, (hec.tr heo).agr, (hec.tr heo).1, ?_⟩⟩; unfold sbb; rw [(hec.tr heo).2.1])
      · have hjl : j + 1 < la.length := by
          rw [show en_O 4 la.length = 128 + la.length from rfl, nI_1] at h28
          exact Nat.not_le.mp fun q => h28 (nI_le (by omega) (by omega))
        obtain ⟨x, hx⟩ : ∃ x, la[j]? = some x := ⟨la[j], List.getElem?_eq_getElem (by omega)⟩
        have hx8 := hrow.2.2 j x hx
        refine lv_aload_n S.1 S.2.1 d_Mo_use_31 rfl (lv_at hl 0 rfl) ?_
        refine gf_Mo_29_Mo S K P M.1 rfl d_Mo_use_32 ?_
        refine lv_iload_n S.1 S.2.1 d_Mo_use_35 rfl (lv_at hl 2 rfl) ?_
        refine mo_iald S K P M 8 rfl (128 + j) rfl (by show 128 + j < 160; omega) d_Mo_use_36 ?_
        rw [hx8.1]
        refine lv_istore_n S.1 S.2.1 d_Mo_use_37 rfl hl (by decide) rfl (fun ls hl => ?_)
        refine lv_aload_n S.1 S.2.1 d_Mo_use_38 rfl (lv_at hl 1 rfl) ?_
        refine gf_Mo_32_Mo S K P M.1 rfl d_Mo_use_39 ?_
        refine lv_iload_n S.1 S.2.1 d_Mo_use_42 rfl (lv_at hl 3 rfl) ?_
        refine mo_iald S K P M 9 rfl (128 + j) rfl (by show 128 + j < 160; omega) d_Mo_use_43 ?_
        rw [hx8.2]
        refine lv_istore S.1 S.2.1 d_Mo_use_44 hl (by decide) rfl (fun ls hl => ?_)
        refine lv_aload_n S.1 S.2.1 d_Mo_use_46 rfl (lv_at hl 2 rfl) ?_
        refine lv_iload_n S.1 S.2.1 d_Mo_use_47 rfl (lv_at hl 3 rfl) ?_
        refine lv_iload_n S.1 S.2.1 d_Mo_use_48 rfl (lv_at hl 4 rfl) ?_
        refine mo_after F (cv_Mo_96_Mo S hB K E P hS M.1 (c_Mo_close l hB M 4 (128 + j) la.length (by decide) (by decide) (by decide) hrow.1 (by omega) hrow.2.1 (by omega) (by omega)) rfl (by decide) (Nat.le_refl _) (Nat.le_refl _) hl.1 rfl (Nat.le_of_ble_eq_true rfl) d_Mo_use_49) hS (fun v R1 σ H locs hp P hS M F => ?_)
        obtain ⟨rfl, rfl⟩ := hp
        have hrc : rowR (cl_R R 4 (128 + j) la.length) 4 (la.eraseIdx j) := hrow.cl (j := j) (by omega)
        have hec : eqo 4 R (cl_R R 4 (128 + j) la.length) := eqo.cl (by omega) (by omega) hrow.2.1
        have hle : (la.eraseIdx j).length = la.length - 1 := List.length_eraseIdx_of_lt (by omega)
        generalize cl_R R 4 (128 + j) la.length = Ra at M hrc hec
        refine lv_aload_n S.1 S.2.1 d_Mo_use_52 rfl (lv_at hl 2 rfl) ?_
        refine lv_iload_n S.1 S.2.1 d_Mo_use_53 rfl (lv_at hl 3 rfl) ?_
        refine lv_aload_n S.1 S.2.1 d_Mo_use_54 rfl (lv_at hl 2 rfl) ?_
        refine lv_iload_n S.1 S.2.1 d_Mo_use_55 rfl (lv_at hl 3 rfl) ?_
        refine so_callR (cv_Mo_68_Mo S hB K E P hS M.1 (c_Mo_endd l hB M 4 (la.eraseIdx j).length (by decide) hrc.1) rfl (by decide) (Nat.le_refl _) (Nat.le_refl _) hl.1 rfl (Nat.le_of_ble_eq_true rfl) d_Mo_use_56) (fun v hv => ?_)
        subst hv
        rw [show en_O 4 (la.eraseIdx j).length = 128 + (la.eraseIdx j).length from rfl]
        refine lv_iload_n S.1 S.2.1 d_Mo_use_59 rfl (lv_at hl 1 rfl) ?_
        refine lv_iload S.1 S.2.1 d_Mo_use_60 (lv_at hl 0 rfl) ?_
        refine mo_after F (cv_Mo_82_Mo S hB K E P hS M.1 (c_Mo_openn l hB M 4 (128 + (la.eraseIdx j).length) (la.eraseIdx j).length (by decide) (by decide) (by decide) hrc.1 (by omega) (by omega) (by omega) _ _) rfl (by decide) (Nat.le_refl _) (Nat.le_refl _) hl.1 rfl (Nat.le_of_ble_eq_true rfl) d_Mo_use_62) hS (fun v R1 σ H locs hp P hS M F => ?_)
        obtain ⟨rfl, rfl⟩ := hp
        have hro : rowR (op_R Ra 4 (128 + (la.eraseIdx j).length) (la.eraseIdx j).length (nI x.1) (nI x.2)) 4 (la.eraseIdx j ++ [x]) := by
          have h9 := hrc.op (j := (la.eraseIdx j).length) (a := x.1) (b := x.2) (by omega) (Nat.le_refl _)
          rw [List.insertIdx_length_self] at h9
          exact h9
        have heo : eqo 4 Ra (op_R Ra 4 (128 + (la.eraseIdx j).length) (la.eraseIdx j).length (nI x.1) (nI x.2)) := eqo.op (by omega) (by omega) (by omega)
        generalize op_R Ra 4 (128 + (la.eraseIdx j).length) (la.eraseIdx j).length (nI x.1) (nI x.2) = Rb at M hro heo
        refine lv_aload_n S.1 S.2.1 d_Mo_use_65 rfl (lv_at hl 2 rfl) ?_
        refine lv_iload_n S.1 S.2.1 d_Mo_use_66 rfl (lv_at hl 3 rfl) ?_
        refine mo_after F (cv_Mo_99_Mo S hB K E P hS M.1 (c_Mo_change l hB M 4 (by decide)) rfl (by decide) (Nat.le_refl _) (Nat.le_refl _) hl.1 rfl (Nat.le_of_ble_eq_true rfl) d_Mo_use_67) hS (fun v R1 σ H locs hp P hS M F => ?_)
        obtain ⟨rfl, rfl⟩ := hp
        refine so_vret S hr hlk P hS (Nat.le_refl _) (Nat.le_refl _) ⟨_, ?_, M, F⟩ d_Mo_use_70
        first
          | (exact absurd rfl h17; done)
          | (refine ⟨rfl, Or.inr ⟨?_, rfl⟩⟩; rw [show en_O 4 la.length = 128 + la.length from rfl, nI_1] at h28; have := (nI_leI (by omega) (by omega)).mp h28; omega)
          | (refine ⟨rfl, Or.inl ⟨x, hjl, hx, hro, (hec.tr heo).agr, (hec.tr heo).1, ?_⟩⟩; unfold sbb; rw [(hec.tr heo).2.1])
  · exact absurd h2 (by decide)

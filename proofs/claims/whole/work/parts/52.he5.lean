/-! Heap: only the roots are held. -/
theorem cb_z {f : Nat → Bool} : ∀ {n : Nat}, (∀ i, i < n → f i = false) → cb f n = 0
  | 0, _ => rfl
  | n + 1, h => by
    unfold cb
    rw [cb_z (fun i hi => h i (by omega)), h n (by omega)]
    rfl
/-- L is all that the roots below i reach -/
def roI (X : Hx) (i : Nat) (X1 : Hx) (L1 : List Nat) : Prop := HL X1 L1 ∧ sbM X X1 ∧ clT X (fun j => j ∈ L1) ∧ (∀ j, j < i → X.al j = true → X.rt j = true → j ∈ L1) ∧ ∀ T : Nat → Prop, clT X T → (∀ j, j < 32 → X.al j = true → X.rt j = true → T j) → ∀ j ∈ L1, T j
theorem roI.st {X X1 X2 : Hx} {L1 L2 : List Nat} {i : Nat} (h : roI X i X1 L1) (hi : i < 32) (ha : X.al i = true) (hr : X.rt i = true) (h2 : hoL X1 L1 (nI i) X2 L2) : roI X (i + 1) X2 L2 := by
  obtain ⟨a, b, c, d, e⟩ := h
  obtain ⟨a2, b2, c2, d2, e2, f2⟩ := h2
  have c3 := b.ct.mp c2
  refine ⟨a2, b.tr b2, c3, fun j hj h1 h3 => ?_, fun T hT h1 j hj => ?_⟩
  · rcases Nat.lt_succ_iff_lt_or_eq.mp hj with h | h
    · exact d2 j (d j h h1 h3)
    · subst h; exact e2 j hi rfl (by rw [b.al]; exact ha)
  · refine f2 T (b.ct.mpr hT) (fun k hk => e T hT h1 k hk) (fun k hk hx hal => ?_) j hj
    have : i = k := (nI_eq (by omega) (by omega)).mp hx
    rw [← this]; exact h1 i hi ha hr
theorem roI.sk {X X1 : Hx} {L1 : List Nat} {i : Nat} (h : roI X i X1 L1) (hn : ¬ (X.al i = true ∧ X.rt i = true)) : roI X (i + 1) X1 L1 := by
  obtain ⟨a, b, c, d, e⟩ := h
  refine ⟨a, b, c, fun j hj h1 h3 => ?_, e⟩
  rcases Nat.lt_succ_iff_lt_or_eq.mp hj with h | h
  · exact d j h h1 h3
  · subst h; exact absurd ⟨h1, h3⟩ hn
set_option maxHeartbeats 400000 in
set_option maxRecDepth 100000 in
theorem c_He_holdRootsOnly (l : Launch) {s0 : State} {D : va_G} {ca : Nat → ClassId} (hB : so_B tbl s0 D vcl (tyl ca)) {σ : so_S} {he th ho : Nat} {X : Hx} (M : HeR ca σ he th ho X)  : he_C l s0 D ca he th ho σ y_He_holdRootsOnly b_He_holdRootsOnly 2 none 4 [] (fun v X1 => v = none ∧ ∃ L1, roI X 32 X1 L1) := by
  refine so_of hB (by decide) (Nat.le_of_ble_eq_true rfl) ?_
  intro p e s m below meth c ls S K E hr hlk hnm P hS hl
  have hl : lv_has ls 2 [(0, .ref he)] := hl
  have F : fH σ σ := fH.rf
  obtain ⟨σ0, hσ0⟩ : ∃ q, q = σ := ⟨σ, rfl⟩
  rw [← hσ0]
  replace F : fH σ0 σ := by rw [hσ0]; exact fH.rf
  refine lv_aload_n S.1 S.2.1 d_He_holdRootsOnly_0 rfl (lv_at hl 0 rfl) ?_
  refine lv_iconst (v := 0) S.1 S.2.1 d_He_holdRootsOnly_1 (by decide) ?_
  refine he_p29 S K P hS M F d_He_holdRootsOnly_2 (fun σ H locs P hS M F => ?_)
  refine lv_iconst (v := 0) S.1 S.2.1 d_He_holdRootsOnly_5 (by decide) ?_
  refine lv_istore_n S.1 S.2.1 d_He_holdRootsOnly_6 rfl hl (by decide) rfl (fun ls hl => ?_)
  refine so_lp (Wf := fun ls H locs σ1 (_ : Nat × Hx) => W p l e _ s m _ below meth c H locs _ _ _ (F0 m 7 ls [])) (fun n1 ls H locs σ1 a => n1 = 32 - a.1 ∧ a.1 ≤ 32 ∧ (sbM X a.2 ∧ a.2.hc = 0 ∧ ∀ t, t < a.1 → X.al t = true → a.2.hd t = false) ∧ he_I ca D s0 s he th ho σ0 ls 2 [(1, .int (nI a.1)), (0, .ref he)] H locs σ1 a.2) ?_ _ ls H locs σ (0, X.wn 0 X.cd) ⟨rfl, Nat.zero_le _, ⟨⟨rfl, rfl, rfl, rfl, rfl⟩, rfl, fun t h => absurd h (Nat.not_lt_zero _)⟩, hl, P, hS, M, F⟩
  clear hl P hS M F
  rintro n1 ls H locs σ ⟨i, Y⟩ ⟨hn1, hi1, ⟨hsb, hhc, hz⟩, hl, P, hS, M, F⟩ ih
  simp only at hn1 hi1 hsb hhc hz hl M ih
  refine lv_iload_n S.1 S.2.1 d_He_holdRootsOnly_7 rfl (lv_at hl 0 rfl) ?_
  refine lv_bipush (v := 32) S.1 S.2.1 d_He_holdRootsOnly_8 (by decide) ?_
  refine lv_icmp_ge (tgt := 38) S.1 S.2.1 d_He_holdRootsOnly_10 rfl (fun h10 => ?_) (fun h10 => ?_)
  · refine lv_iconst (v := 0) S.1 S.2.1 d_He_holdRootsOnly_38 (by decide) ?_
    refine lv_istore_n S.1 S.2.1 d_He_holdRootsOnly_39 rfl hl (by decide) rfl (fun ls hl => ?_)
    have hi32 : i = 32 := by
      have := (nI_leI (a := 32) (by decide) (by omega)).mp h10
      omega
    subst hi32
    have hHL : HL Y [] := by
      refine ⟨hhc, (cb_z (fun t ht => ?_)).symm, fun t j h => (by cases h), fun j hj h1 h2 => ?_⟩
      · cases h1 : Y.al t with
        | false => rfl
        | true => rw [hz t ht (by rw [← hsb.al]; exact h1)]; rfl
      · rw [hz j hj (by rw [← hsb.al]; exact h1)] at h2
        cases h2
    refine so_lp (Wf := fun ls H locs σ1 (_ : Nat × Hx × List Nat) => W p l e _ s m _ below meth c H locs _ _ _ (F0 m 40 ls [])) (fun n1 ls H locs σ1 a => n1 = 32 - a.1 ∧ a.1 ≤ 32 ∧ roI X a.1 a.2.1 a.2.2 ∧ he_I ca D s0 s he th ho σ0 ls 2 [(1, .int (nI a.1)), (0, .ref he)] H locs σ1 a.2.1) ?_ _ ls H locs σ (0, Y, []) ⟨rfl, Nat.zero_le _, ⟨hHL, hsb, fun j _ _ h => (by cases h), fun j h => absurd h (Nat.not_lt_zero _), fun T _ _ j h => (by cases h)⟩, hl, P, hS, M, F⟩
    clear hl P hS M F
    rintro n1 ls H locs σ ⟨i, Z, L2⟩ ⟨hn1, hi1, hro, hl, P, hS, M, F⟩ ih
    simp only at hn1 hi1 hro hl M ih
    refine lv_iload_n S.1 S.2.1 d_He_holdRootsOnly_40 rfl (lv_at hl 0 rfl) ?_
    refine lv_bipush (v := 32) S.1 S.2.1 d_He_holdRootsOnly_41 (by decide) ?_
    refine lv_icmp_ge (tgt := 78) S.1 S.2.1 d_He_holdRootsOnly_43 rfl (fun h43 => ?_) (fun h43 => ?_)
    · refine so_vret S hr hlk P hS (Nat.le_refl _) (Nat.le_refl _) ⟨_, ?_, M, F⟩ d_He_holdRootsOnly_78
      have hi32 : i = 32 := by
        have := (nI_leI (a := 32) (by decide) (by omega)).mp h43
        omega
      subst hi32
      exact ⟨rfl, L2, hro⟩
    · have hlt : i < 32 := Nat.not_le.mp fun z => h43 (nI_le (a := 32) z (by omega))
      refine lv_aload_n S.1 S.2.1 d_He_holdRootsOnly_46 rfl (lv_at hl 1 rfl) ?_
      refine gf_He_11_He S K P M.1 rfl d_He_holdRootsOnly_47 ?_
      refine lv_iload_n S.1 S.2.1 d_He_holdRootsOnly_50 rfl (lv_at hl 0 rfl) ?_
      refine so_aaldN S K P M.2.1 3 rfl hlt (by decide) d_He_holdRootsOnly_51 ?_
      refine lv_ifnullQ (tgt := 72) S.1 S.2.1 d_He_holdRootsOnly_52 rfl (fun h52 => ?_) (fun q h52 => ?_)
      · refine lv_iinc (k := 0) S.1 S.2.1 d_He_holdRootsOnly_72 hl rfl rfl (by decide) rfl (fun ls hl => ?_)
        refine lv_goto (tgt := 40) S.1 S.2.1 d_He_holdRootsOnly_75 rfl ?_
        rw [nI_a] at hl
        refine ih (32 - (i + 1)) ls H locs σ (i + 1, Z, L2) (by omega) ⟨rfl, by show i + 1 ≤ 32; omega, hro.sk (fun z => ?_), hl, P, hS, M, F⟩
        rw [← hro.2.1.al, Hx.al_f h52] at z
        cases z.1
      · obtain ⟨a, ha, rfl, hta⟩ := M.thing hlt h52
        refine lv_aload_n S.1 S.2.1 d_He_holdRootsOnly_55 rfl (lv_at hl 1 rfl) ?_
        refine gf_He_11_He S K P M.1 rfl d_He_holdRootsOnly_56 ?_
        refine lv_iload_n S.1 S.2.1 d_He_holdRootsOnly_59 rfl (lv_at hl 0 rfl) ?_
        refine so_aaldN S K P M.2.1 3 rfl hlt (by decide) d_He_holdRootsOnly_60 ?_
        rw [h52]
        refine gf_He_33_Th S K P hta.1 rfl d_He_holdRootsOnly_61 ?_
        refine lv_if_eq (tgt := 72) S.1 S.2.1 d_He_holdRootsOnly_64 rfl (fun h64 => ?_) (fun h64 => ?_)
        · refine lv_iinc (k := 0) S.1 S.2.1 d_He_holdRootsOnly_72 hl rfl rfl (by decide) rfl (fun ls hl => ?_)
          refine lv_goto (tgt := 40) S.1 S.2.1 d_He_holdRootsOnly_75 rfl ?_
          rw [nI_a] at hl
          refine ih (32 - (i + 1)) ls H locs σ (i + 1, Z, L2) (by omega) ⟨rfl, by show i + 1 ≤ 32; omega, hro.sk (fun z => ?_), hl, P, hS, M, F⟩
          rw [← hro.2.1.2.2.1, show Z.rt i = false from (bI_0 _).mp h64] at z
          cases z.2
        · have hal : X.al i = true := by rw [← hro.2.1.al]; exact Hx.al_t h52
          have hrt : X.rt i = true := by rw [← hro.2.1.2.2.1]; exact bI_1 h64
          refine lv_aload_n S.1 S.2.1 d_He_holdRootsOnly_67 rfl (lv_at hl 1 rfl) ?_
          refine lv_iload_n S.1 S.2.1 d_He_holdRootsOnly_68 rfl (lv_at hl 0 rfl) ?_
          refine he_after F (cv_He_36_He S hB K E P hS M.1 (c_He_hold l hB M hro.1 (hro.2.1.ct.mpr hro.2.2.1) (nI i)) rfl (by decide) (Nat.le_refl _) (Nat.le_refl _) hl.1 rfl (Nat.le_of_ble_eq_true rfl) d_He_holdRootsOnly_69) hS (fun v X1 σ H locs hp P hS M F => ?_)
          obtain ⟨rfl, L3, hho⟩ := hp
          refine lv_iinc (k := 0) S.1 S.2.1 d_He_holdRootsOnly_72 hl rfl rfl (by decide) rfl (fun ls hl => ?_)
          refine lv_goto (tgt := 40) S.1 S.2.1 d_He_holdRootsOnly_75 rfl ?_
          rw [nI_a] at hl
          exact ih (32 - (i + 1)) ls H locs σ (i + 1, X1, L3) (by omega) ⟨rfl, by show i + 1 ≤ 32; omega, hro.st hlt hal hrt hho, hl, P, hS, M, F⟩
  · have hlt : i < 32 := Nat.not_le.mp fun z => h10 (nI_le (a := 32) z (by omega))
    refine lv_aload_n S.1 S.2.1 d_He_holdRootsOnly_13 rfl (lv_at hl 1 rfl) ?_
    refine gf_He_11_He S K P M.1 rfl d_He_holdRootsOnly_14 ?_
    refine lv_iload_n S.1 S.2.1 d_He_holdRootsOnly_17 rfl (lv_at hl 0 rfl) ?_
    refine so_aaldN S K P M.2.1 3 rfl hlt (by decide) d_He_holdRootsOnly_18 ?_
    refine lv_ifnullQ (tgt := 32) S.1 S.2.1 d_He_holdRootsOnly_19 rfl (fun h19 => ?_) (fun q h19 => ?_)
    · refine lv_iinc (k := 0) S.1 S.2.1 d_He_holdRootsOnly_32 hl rfl rfl (by decide) rfl (fun ls hl => ?_)
      refine lv_goto (tgt := 7) S.1 S.2.1 d_He_holdRootsOnly_35 rfl ?_
      rw [nI_a] at hl
      refine ih (32 - (i + 1)) ls H locs σ (i + 1, Y) (by omega) ⟨rfl, by show i + 1 ≤ 32; omega, ⟨hsb, hhc, fun t ht hal => ?_⟩, hl, P, hS, M, F⟩
      rcases Nat.lt_succ_iff_lt_or_eq.mp ht with h | h
      · exact hz t h hal
      · rw [h, ← hsb.al, Hx.al_f h19] at hal
        cases hal
    · obtain ⟨a, ha, rfl, hta⟩ := M.thing hlt h19
      refine lv_aload_n S.1 S.2.1 d_He_holdRootsOnly_22 rfl (lv_at hl 1 rfl) ?_
      refine gf_He_11_He S K P M.1 rfl d_He_holdRootsOnly_23 ?_
      refine lv_iload_n S.1 S.2.1 d_He_holdRootsOnly_26 rfl (lv_at hl 0 rfl) ?_
      refine so_aaldN S K P M.2.1 3 rfl hlt (by decide) d_He_holdRootsOnly_27 ?_
      rw [h19]
      refine lv_iconst (v := 0) S.1 S.2.1 d_He_holdRootsOnly_28 (by decide) ?_
      refine he_p25 S K P hS M F i hlt ha false rfl d_He_holdRootsOnly_29 (fun σ H locs P hS M F => ?_)
      refine lv_iinc (k := 0) S.1 S.2.1 d_He_holdRootsOnly_32 hl rfl rfl (by decide) rfl (fun ls hl => ?_)
      refine lv_goto (tgt := 7) S.1 S.2.1 d_He_holdRootsOnly_35 rfl ?_
      rw [nI_a] at hl
      refine ih (32 - (i + 1)) ls H locs σ (i + 1, Y.wt i (Y.rt i) false) (by omega) ⟨rfl, by show i + 1 ≤ 32; omega, ⟨hsb.tr ⟨rfl, rfl, up_id Y.rt i, rfl, rfl⟩, hhc, fun t ht hal => ?_⟩, hl, P, hS, M, F⟩
      show va_up Y.hd i false t = false
      unfold va_up
      split
      · rfl
      · exact hz t (by have : t < i + 1 := ht; omega) hal

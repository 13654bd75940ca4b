/-! HoldMaps: its picture; isMap, isKeyOf, size, value, count. -/
abbrev Bx : Type := Nat × Nat × Nat × Nat × Ax
abbrev Bx.tb (B : Bx) : Nat := B.1
abbrev Bx.he (B : Bx) : Nat := B.2.1
abbrev Bx.th (B : Bx) : Nat := B.2.2.1
abbrev Bx.ho (B : Bx) : Nat := B.2.2.2.1
abbrev Bx.A (B : Bx) : Ax := B.2.2.2.2
def HMR (ca : Nat → ClassId) (DE : Nat) (σ : so_S) (hm : Nat) (B : Bx) (X : Hx) (k : Wks) (bk tm : Nat) (L : Nat → List En) (sl : Nat → Option En) : Prop := σ hm = some (0, oHM B.he (B.A.1 0) (B.A.1 1) B.tb) ∧ (∃ f, σ B.tb = some (5, aR ca 4 5 f) ∧ ∀ i, i < 5 → f i = some (B.A.1 i)) ∧ HeR ca σ B.he B.th B.ho X ∧ CmR ca DE σ B.A k bk tm L sl
/-- the tags of the class's cells -/
def tC (t : Nat) : Prop := t = 0 ∨ t = 5 ∨ tH t ∨ ∃ i, i < 5 ∧ tM i t
def simO (X : Hx) (o : Obs) : Prop := ∀ i, i < 32 → X.al i = o.1 i ∧ (o.1 i = true → X.va i = nI (o.2.1 i) ∧ X.rt i = o.2.2.1 i ∧ ∀ w, w < 2 → X.rr i w = rI (o.2.2.2 i w))
def mkN : Nat → Nat → Nat → Nat
  | 2, key, _ => key
  | _, _, va => va
def kyN : Nat → Nat → Nat → Nat
  | 3, _, va => va
  | _, key, _ => key
theorem mkN_I {mp key va : Nat} (h : mp < 5) : mkI mp (nI key) (nI va) = nI (mkN mp key va) := lt5 (P := fun mp => mkI mp (nI key) (nI va) = nI (mkN mp key va)) h rfl rfl rfl rfl rfl
theorem kyN_I {mp key va : Nat} (h : mp < 5) : kyI mp (nI key) (nI va) = nI (kyN mp key va) := lt5 (P := fun mp => kyI mp (nI key) (nI va) = nI (kyN mp key va)) h rfl rfl rfl rfl rfl
theorem has_al {X : Hx} {o : Obs} (h : simO X o) (x : Int32) : has_O X.f x = al_O o x := by
  unfold has_O al_O
  split
  · rfl
  · rename_i h0
    split
    · rfl
    · rename_i h1
      obtain ⟨j, hj, rfl⟩ := ix_in (n := 32) (M := 32) (by decide) rfl h0 h1
      rw [nI_clamp (by omega)]
      have h2 := (h j hj).1
      unfold Hx.al at h2
      unfold Hx.f
      rw [← h2]
      cases X.ad j <;> rfl
theorem simO.thing {ca : Nat → ClassId} {σ : so_S} {he th ho : Nat} {X : Hx} {o : Obs} (h : simO X o) (M : HeR ca σ he th ho X) {i : Nat} (hi : i < 32) (ha : o.1 i = true) : ∃ a, X.ad i = some a ∧ X.f i = some a.1 ∧ σ a.1 = some (100 + i, oTh (nI (o.2.1 i)) a.2 (bI (o.2.2.1 i)) (bI (X.hd i))) ∧ σ a.2 = some (200 + i, aI ca 2 (X.rr i)) := by
  have h1 := (h i hi).1
  rw [ha] at h1
  unfold Hx.al at h1
  obtain ⟨a, h2⟩ := Option.isSome_iff_exists.mp h1
  obtain ⟨h3, h4⟩ := M.2.2.2 i a hi h2
  obtain ⟨h5, h6, -⟩ := (h i hi).2 ha
  refine ⟨a, h2, by unfold Hx.f; rw [h2]; rfl, ?_, h4⟩
  rw [← h5, ← h6]
  exact h3
theorem isM_c {x : Int32} (h : is_M x = true) : ∃ mp, mp < 5 ∧ x = nI mp := by
  unfold is_M at h
  split at h
  · cases h
  · rename_i h0
    split at h
    · cases h
    · rename_i h1
      obtain ⟨j, hj, e1⟩ := nI_of2 (M := 4) (n := 4) (by decide) h0 (Int32.not_lt.mp h1)
      exact ⟨j, by omega, e1⟩
theorem le45 {x : Int32} : (5 : Int32) ≤ x ↔ (4 : Int32) < x := by
  rw [Int32.le_iff_toInt_le, Int32.lt_iff_toInt_lt]
  have e4 : (4 : Int32).toInt = 4 := by decide
  have e5 : (5 : Int32).toInt = 5 := by decide
  rw [e4, e5]
  omega
theorem isM_n {mp : Nat} (h : mp < 5) : is_M (nI mp) = true := lt5 (P := fun mp => is_M (nI mp) = true) h (by decide) (by decide) (by decide) (by decide) (by decide)
theorem tk_c {mp va : Nat} (h : mp < 5) (hv : va < 100) : tkB mp (nI va) = (decide (nI mp ≠ 3) || decide (va ≤ 7)) := by
  have e8 : ∀ v, v < 100 → decide (¬ (8 : Int32) ≤ nI v) = decide (v ≤ 7) := fun v hv => by
    rcases Nat.lt_or_ge v 8 with h1 | h1
    · rw [decide_eq_true (show ¬ (8 : Int32) ≤ nI v from nI_ge (b := 8) h1 (by decide)), decide_eq_true (by omega)]
    · rw [decide_eq_false (fun z => z (nI_le (a := 8) h1 (by omega))), decide_eq_false (by omega)]
  rcases mp with _ | _ | _ | _ | _ | mp
  · rfl
  · rfl
  · rfl
  · exact e8 va hv
  · rfl
  · omega
theorem HMR.agT {ca : Nat → ClassId} {DE : Nat} {σ σ1 : so_S} {hm : Nat} {B : Bx} {X : Hx} {k : Wks} {bk tm : Nat} {L : Nat → List En} {sl : Nat → Option En} {k' : Wks} {bk' tm' : Nat} {L' : Nat → List En} {sl' : Nat → Option En} {mp : Nat} (h : HMR ca DE σ hm B X k bk tm L sl) (hmp : mp < 5) (Fr : fT (tM mp) σ σ1) (h2 : CmR ca DE σ1 B.A k' bk' tm' L' sl') : HMR ca DE σ1 hm B X k' bk' tm' L' sl' := by
  obtain ⟨h3, ⟨f, h4, h5⟩, h6, -⟩ := h
  have nt : ∀ t, t < 10 ∨ tH t → ¬ tM mp t := fun t ht => by unfold tM; unfold tH at ht; omega
  refine ⟨Fr _ _ h3 (nt 0 (Or.inl (by decide))), ⟨f, Fr _ _ h4 (nt 5 (Or.inl (by decide))), h5⟩, ⟨Fr _ _ h6.1 (nt 1 (Or.inl (by decide))), Fr _ _ h6.2.1 (nt 2 (Or.inl (by decide))), Fr _ _ h6.2.2.1 (nt 3 (Or.inl (by decide))), fun i a hi ha => ?_⟩, h2⟩
  obtain ⟨h7, h8⟩ := h6.2.2.2 i a hi ha
  exact ⟨Fr _ _ h7 (nt (100 + i) (Or.inr (by unfold tH; omega))), Fr _ _ h8 (nt (200 + i) (Or.inr (by unfold tH; omega)))⟩
theorem HMR.agH {ca : Nat → ClassId} {DE : Nat} {σ σ1 : so_S} {hm : Nat} {B : Bx} {X X1 : Hx} {k : Wks} {bk tm : Nat} {L : Nat → List En} {sl : Nat → Option En} (h : HMR ca DE σ hm B X k bk tm L sl) (Fr : fT tH σ σ1) (h2 : HeR ca σ1 B.he B.th B.ho X1) : HMR ca DE σ1 hm B X1 k bk tm L sl := by
  obtain ⟨h3, ⟨f, h4, h5⟩, -, h6⟩ := h
  exact ⟨Fr _ _ h3 (by unfold tH; simp only; omega), ⟨f, Fr _ _ h4 (by unfold tH; simp only; omega), h5⟩, h2, h6.ag (Fr.ag (fun t ⟨i, hi, ht⟩ => tM_tH hi ht))⟩
theorem tC_M {mp : Nat} (h : mp < 5) : ∀ t, tM mp t → tC t := fun t z => Or.inr (Or.inr (Or.inr ⟨mp, h, z⟩))
theorem tC_H : ∀ t, tH t → tC t := fun t z => Or.inr (Or.inr (Or.inl z))
set_option maxHeartbeats 400000 in
set_option maxRecDepth 100000 in
theorem c_HM_isMap (l : Launch) {s0 : State} {D : va_G} {ca : Nat → ClassId} (hB : so_B tbl s0 D vcl (tyl ca)) {σ : so_S} (x : Int32) : so_D l s0 D vcl y_HM_isMap b_HM_isMap 1 (some .boolean) 0 [.int x] σ (fun v => v = some (.int (bI (is_M x)))) := by
  refine so_ofR hB (by decide) (Nat.le_of_ble_eq_true rfl) ?_
  intro p e s m below meth c ls S K E hr hlk P hS hl
  have hl : lv_has ls 1 [(0, .int x)] := hl
  refine lv_iload_n S.1 S.2.1 d_HM_isMap_0 rfl (lv_at hl 0 rfl) ?_
  refine lv_if_lt (tgt := 13) S.1 S.2.1 d_HM_isMap_1 rfl (fun h1 => ?_) (fun h1 => ?_)
  · refine lv_iconst (v := 0) S.1 S.2.1 d_HM_isMap_13 (by decide) ?_
    refine so_zretR S hr rfl hlk ?_ d_HM_isMap_14
    unfold is_M
    rw [if_pos h1]; rfl
  · refine lv_iload_n S.1 S.2.1 d_HM_isMap_4 rfl (lv_at hl 0 rfl) ?_
    refine lv_iconst (v := 5) S.1 S.2.1 d_HM_isMap_5 (by decide) ?_
    refine lv_icmp_ge (tgt := 13) S.1 S.2.1 d_HM_isMap_6 rfl (fun h6 => ?_) (fun h6 => ?_)
    · refine lv_iconst (v := 0) S.1 S.2.1 d_HM_isMap_13 (by decide) ?_
      refine so_zretR S hr rfl hlk ?_ d_HM_isMap_14
      unfold is_M
      rw [if_neg h1, if_pos (le45.mp h6)]; rfl
    · refine lv_iconst (v := 1) S.1 S.2.1 d_HM_isMap_9 (by decide) ?_
      refine lv_goto (tgt := 14) S.1 S.2.1 d_HM_isMap_10 rfl ?_
      refine so_zretR S hr rfl hlk ?_ d_HM_isMap_14
      unfold is_M
      rw [if_neg h1, if_neg (fun z : (4 : Int32) < x => h6 (le45.mpr z))]; rfl
set_option maxHeartbeats 400000 in
set_option maxRecDepth 100000 in
theorem c_HM_isKeyOf (l : Launch) {s0 : State} {D : va_G} {ca : Nat → ClassId} (hB : so_B tbl s0 D vcl (tyl ca)) {σ : so_S} {DE hm : Nat} {B : Bx} {X : Hx} {k : Wks} {bk tm : Nat} {L : Nat → List En} {sl : Nat → Option En} {o : Obs} (M : HMR ca DE σ hm B X k bk tm L sl) (so1 : simO X o) (hv100 : ∀ i, i < 32 → o.1 i = true → o.2.1 i < 100) (x kx : Int32) : so_D l s0 D vcl y_HM_isKeyOf b_HM_isKeyOf 3 (some .boolean) 5 [.ref hm, .int x, .int kx] σ (fun v => v = some (.int (bI (gk_O o x kx)))) := by
  refine so_ofR hB (by decide) (Nat.le_of_ble_eq_true rfl) ?_
  intro p e s m below meth c ls S K E hr hlk P hS hl
  have hl : lv_has ls 3 [(0, .ref hm), (1, .int x), (2, .int kx)] := hl
  obtain ⟨f, hf1, hf2⟩ := M.2.1
  refine lv_iload_n S.1 S.2.1 d_HM_isKeyOf_0 rfl (lv_at hl 1 rfl) ?_
  refine so_callR (cs_HM_143 S hB E P hS (c_HM_isMap l hB x) rfl (by decide) (Nat.zero_le _) (Nat.zero_le _) hl.1 rfl (Nat.le_of_ble_eq_true rfl) d_HM_isKeyOf_1) (fun v hv => ?_)
  subst hv
  refine lv_if_eq (tgt := 46) S.1 S.2.1 d_HM_isKeyOf_4 rfl (fun h4 => ?_) (fun h4 => ?_)
  · refine lv_iconst (v := 0) S.1 S.2.1 d_HM_isKeyOf_46 (by decide) ?_
    refine so_zretR S hr rfl hlk ?_ d_HM_isKeyOf_47
    unfold gk_O
    rw [(bI_0 _).mp h4]; rfl
  · have hM : is_M x = true := by cases h : is_M x with
      | true => rfl
      | false => rw [h] at h4; exact absurd rfl h4
    obtain ⟨mp, hmp, rfl⟩ := isM_c hM
    refine lv_aload_n S.1 S.2.1 d_HM_isKeyOf_7 rfl (lv_at hl 0 rfl) ?_
    refine gf_HM_10_HM S K P M.1 rfl d_HM_isKeyOf_8 ?_
    refine lv_iload_n S.1 S.2.1 d_HM_isKeyOf_11 rfl (lv_at hl 2 rfl) ?_
    refine so_callR (cv_HM_70_He S hB K E P hS M.2.2.1.1 (c_He_has l hB M.2.2.1.1 M.2.2.1.2.1 kx) rfl (by decide) (Nat.zero_le _) (Nat.zero_le _) hl.1 rfl (Nat.le_of_ble_eq_true rfl) d_HM_isKeyOf_12) (fun v hv => ?_)
    subst hv
    rw [has_al so1]
    refine lv_if_eq (tgt := 46) S.1 S.2.1 d_HM_isKeyOf_15 rfl (fun h15 => ?_) (fun h15 => ?_)
    · refine lv_iconst (v := 0) S.1 S.2.1 d_HM_isKeyOf_46 (by decide) ?_
      refine so_zretR S hr rfl hlk ?_ d_HM_isKeyOf_47
      unfold gk_O
      rw [hM, (bI_0 _).mp h15]; rfl
    · have hA : al_O o kx = true := by cases h : al_O o kx with
        | true => rfl
        | false => rw [h] at h15; exact absurd rfl h15
      obtain ⟨key, hkey, rfl, hal⟩ := al_cases hA
      obtain ⟨a, -, af, a1, a2⟩ := so1.thing M.2.2.1 hkey hal
      have hv := hv100 key hkey hal
      refine lv_aload_n S.1 S.2.1 d_HM_isKeyOf_18 rfl (lv_at hl 0 rfl) ?_
      refine gf_HM_32_HM S K P M.1 rfl d_HM_isKeyOf_19 ?_
      refine lv_iload_n S.1 S.2.1 d_HM_isKeyOf_22 rfl (lv_at hl 1 rfl) ?_
      refine so_aaldN S K P hf1 4 rfl hmp (by decide) d_HM_isKeyOf_23 ?_
      rw [hf2 mp hmp]
      show W p l e _ s m _ below meth c _ _ _ _ _ (F0 m _ ls (.ref (B.A.1 mp) :: _))
      refine lv_aload_n S.1 S.2.1 d_HM_isKeyOf_24 rfl (lv_at hl 0 rfl) ?_
      refine gf_HM_10_HM S K P M.1 rfl d_HM_isKeyOf_25 ?_
      refine gf_HM_61_He S K P M.2.2.1.1 rfl d_HM_isKeyOf_28 ?_
      refine lv_iload_n S.1 S.2.1 d_HM_isKeyOf_31 rfl (lv_at hl 2 rfl) ?_
      refine so_aaldN S K P M.2.2.1.2.1 3 rfl hkey (by decide) d_HM_isKeyOf_32 ?_
      rw [af]
      show W p l e _ s m _ below meth c _ _ _ _ _ (F0 m _ ls (.ref a.1 :: _))
      refine gf_HM_94_Th S K P a1 rfl d_HM_isKeyOf_33 ?_
      refine so_callR (hm_takes S hB K E P hS M.2.2.2 hmp (nI (o.2.1 key)) (by decide) (Nat.zero_le _) (Nat.zero_le _) hl.1 (Nat.le_of_ble_eq_true rfl) d_HM_isKeyOf_36) (fun v hv2 => ?_)
      subst hv2
      rw [tk_c hmp hv]
      refine lv_if_eq (tgt := 46) S.1 S.2.1 d_HM_isKeyOf_39 rfl (fun h39 => ?_) (fun h39 => ?_)
      · refine lv_iconst (v := 0) S.1 S.2.1 d_HM_isKeyOf_46 (by decide) ?_
        refine so_zretR S hr rfl hlk ?_ d_HM_isKeyOf_47
        unfold gk_O
        have hT : (decide (nI mp ≠ 3) || decide (o.2.1 key ≤ 7)) = false := (bI_0 _).mp h39
        rw [hM, hA, nI_clamp (by omega), hT]; rfl
      · refine lv_iconst (v := 1) S.1 S.2.1 d_HM_isKeyOf_42 (by decide) ?_
        refine lv_goto (tgt := 47) S.1 S.2.1 d_HM_isKeyOf_43 rfl ?_
        refine so_zretR S hr rfl hlk ?_ d_HM_isKeyOf_47
        unfold gk_O
        have hT : (decide (nI mp ≠ 3) || decide (o.2.1 key ≤ 7)) = true := by cases h : (decide (nI mp ≠ 3) || decide (o.2.1 key ≤ 7)) with
          | true => rfl
          | false => rw [h] at h39; exact absurd rfl h39
        rw [hM, hA, nI_clamp (by omega), hT]; rfl
set_option maxHeartbeats 400000 in
set_option maxRecDepth 100000 in
theorem c_HM_size (l : Launch) {s0 : State} {D : va_G} {ca : Nat → ClassId} (hB : so_B tbl s0 D vcl (tyl ca)) {σ : so_S} {DE hm : Nat} {B : Bx} {X : Hx} {k : Wks} {bk tm : Nat} {L : Nat → List En} {sl : Nat → Option En} {o : Obs} (M : HMR ca DE σ hm B X k bk tm L sl) (so1 : simO X o) (x : Int32) : so_D l s0 D vcl y_HM_size b_HM_size 2 (some .int) 5 [.ref hm, .int x] σ (fun v => v = some (.int (if is_M x = true then nI (lsE L sl x.toNatClampNeg).length else -1))) := by
  refine so_ofR hB (by decide) (Nat.le_of_ble_eq_true rfl) ?_
  intro p e s m below meth c ls S K E hr hlk P hS hl
  have hl : lv_has ls 2 [(0, .ref hm), (1, .int x)] := hl
  obtain ⟨f, hf1, hf2⟩ := M.2.1
  refine lv_iload_n S.1 S.2.1 d_HM_size_0 rfl (lv_at hl 1 rfl) ?_
  refine so_callR (cs_HM_143 S hB E P hS (c_HM_isMap l hB x) rfl (by decide) (Nat.zero_le _) (Nat.zero_le _) hl.1 rfl (Nat.le_of_ble_eq_true rfl) d_HM_size_1) (fun v hv => ?_)
  subst hv
  refine lv_if_eq (tgt := 19) S.1 S.2.1 d_HM_size_4 rfl (fun h4 => ?_) (fun h4 => ?_)
  · refine lv_iconst (v := (-1)) S.1 S.2.1 d_HM_size_19 (by decide) ?_
    refine so_iretR S hr hlk ?_ d_HM_size_20
    rw [if_neg (fun z => by rw [(bI_0 _).mp h4] at z; cases z)]
  · have hM : is_M x = true := by cases h : is_M x with
      | true => rfl
      | false => rw [h] at h4; exact absurd rfl h4
    obtain ⟨mp, hmp, rfl⟩ := isM_c hM
    refine lv_aload_n S.1 S.2.1 d_HM_size_7 rfl (lv_at hl 0 rfl) ?_
    refine gf_HM_32_HM S K P M.1 rfl d_HM_size_8 ?_
    refine lv_iload_n S.1 S.2.1 d_HM_size_11 rfl (lv_at hl 1 rfl) ?_
    refine so_aaldN S K P hf1 4 rfl hmp (by decide) d_HM_size_12 ?_
    rw [hf2 mp hmp]
    show W p l e _ s m _ below meth c _ _ _ _ _ (F0 m _ ls (.ref (B.A.1 mp) :: _))
    refine so_callR (hm_len S hB K E P hS M.2.2.2 hmp (by decide) (Nat.zero_le _) (Nat.zero_le _) hl.1 (Nat.le_of_ble_eq_true rfl) d_HM_size_13) (fun v hv2 => ?_)
    subst hv2
    refine lv_goto (tgt := 20) S.1 S.2.1 d_HM_size_16 rfl ?_
    refine so_iretR S hr hlk ?_ d_HM_size_20
    rw [if_pos hM, nI_clamp (by omega)]
set_option maxHeartbeats 400000 in
set_option maxRecDepth 100000 in
theorem c_HM_value (l : Launch) {s0 : State} {D : va_G} {ca : Nat → ClassId} (hB : so_B tbl s0 D vcl (tyl ca)) {σ : so_S} {DE hm : Nat} {B : Bx} {X : Hx} {k : Wks} {bk tm : Nat} {L : Nat → List En} {sl : Nat → Option En} {o : Obs} (M : HMR ca DE σ hm B X k bk tm L sl) (so1 : simO X o) (x : Int32) : so_D l s0 D vcl y_HM_value b_HM_value 2 (some .int) 5 [.ref hm, .int x] σ (fun v => v = some (.int (if al_O o x = true then nI (o.2.1 x.toNatClampNeg) else -1))) := by
  refine so_ofR hB (by decide) (Nat.le_of_ble_eq_true rfl) ?_
  intro p e s m below meth c ls S K E hr hlk P hS hl
  have hl : lv_has ls 2 [(0, .ref hm), (1, .int x)] := hl
  refine lv_aload_n S.1 S.2.1 d_HM_value_0 rfl (lv_at hl 0 rfl) ?_
  refine gf_HM_10_HM S K P M.1 rfl d_HM_value_1 ?_
  refine lv_iload_n S.1 S.2.1 d_HM_value_4 rfl (lv_at hl 1 rfl) ?_
  refine so_callR (cv_HM_70_He S hB K E P hS M.2.2.1.1 (c_He_has l hB M.2.2.1.1 M.2.2.1.2.1 x) rfl (by decide) (Nat.zero_le _) (Nat.zero_le _) hl.1 rfl (Nat.le_of_ble_eq_true rfl) d_HM_value_5) (fun v hv => ?_)
  subst hv
  rw [has_al so1]
  refine lv_if_eq (tgt := 26) S.1 S.2.1 d_HM_value_8 rfl (fun h8 => ?_) (fun h8 => ?_)
  · refine lv_iconst (v := (-1)) S.1 S.2.1 d_HM_value_26 (by decide) ?_
    refine so_iretR S hr hlk ?_ d_HM_value_27
    rw [if_neg (fun z => by rw [(bI_0 _).mp h8] at z; cases z)]
  · have hA : al_O o x = true := by cases h : al_O o x with
      | true => rfl
      | false => rw [h] at h8; exact absurd rfl h8
    obtain ⟨key, hkey, rfl, hal⟩ := al_cases hA
    obtain ⟨a, -, af, a1, a2⟩ := so1.thing M.2.2.1 hkey hal
    refine lv_aload_n S.1 S.2.1 d_HM_value_11 rfl (lv_at hl 0 rfl) ?_
    refine gf_HM_10_HM S K P M.1 rfl d_HM_value_12 ?_
    refine gf_HM_61_He S K P M.2.2.1.1 rfl d_HM_value_15 ?_
    refine lv_iload_n S.1 S.2.1 d_HM_value_18 rfl (lv_at hl 1 rfl) ?_
    refine so_aaldN S K P M.2.2.1.2.1 3 rfl hkey (by decide) d_HM_value_19 ?_
    rw [af]
    show W p l e _ s m _ below meth c _ _ _ _ _ (F0 m _ ls (.ref a.1 :: _))
    refine gf_HM_94_Th S K P a1 rfl d_HM_value_20 ?_
    refine lv_goto (tgt := 27) S.1 S.2.1 d_HM_value_23 rfl ?_
    refine so_iretR S hr hlk ?_ d_HM_value_27
    rw [if_pos hA, nI_clamp (by omega)]

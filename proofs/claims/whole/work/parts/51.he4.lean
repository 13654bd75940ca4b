/-! Heap: hold. -/
def rfs (X : Hx) (j i : Nat) : Prop := ∃ w, w < 2 ∧ X.rr j w = nI i ∧ i < 32 ∧ X.al i = true
def clT (X : Hx) (T : Nat → Prop) : Prop := ∀ j, j < 32 → X.al j = true → T j → ∀ i, rfs X j i → T i
theorem sbM.rx {X Y : Hx} (h : sbM X Y) {j i : Nat} : rfs Y j i ↔ rfs X j i := by
  unfold rfs
  rw [h.2.2.2.1, h.al]
theorem sbM.ct {X Y : Hx} (h : sbM X Y) {T : Nat → Prop} : clT Y T ↔ clT X T := by
  unfold clT
  rw [h.al]
  simp only [h.rx]
/-- L1 is all that L and x reach -/
def hoL (X : Hx) (L : List Nat) (x : Int32) (X1 : Hx) (L1 : List Nat) : Prop := HL X1 L1 ∧ sbM X X1 ∧ clT X (fun j => j ∈ L1) ∧ (∀ j ∈ L, j ∈ L1) ∧ (∀ j, j < 32 → x = nI j → X.al j = true → j ∈ L1) ∧ ∀ T : Nat → Prop, clT X T → (∀ j ∈ L, T j) → (∀ j, j < 32 → x = nI j → X.al j = true → T j) → ∀ j ∈ L1, T j
/-- half way: the first i are done -/
def hoI (X : Hx) (L : List Nat) (x : Int32) (i : Nat) (X1 : Hx) (L1 : List Nat) : Prop := (HL X1 L1 ∧ sbM X X1 ∧ i ≤ L1.length) ∧ (∀ t j, t < i → L1[t]? = some j → ∀ k, rfs X j k → k ∈ L1) ∧ (∀ j ∈ L, j ∈ L1) ∧ (∀ j, j < 32 → x = nI j → X.al j = true → j ∈ L1) ∧ ∀ T : Nat → Prop, clT X T → (∀ j ∈ L, T j) → (∀ j, j < 32 → x = nI j → X.al j = true → T j) → ∀ j ∈ L1, T j
theorem hoI.go {X X1 : Hx} {L L1 : List Nat} {x : Int32} (h0 : HL X L) (h : clT X (fun j => j ∈ L)) (h2 : mkL X L x X1 L1) : hoI X L x L.length X1 L1 := by
  obtain ⟨a, b, c⟩ := h2
  have hcl : ∀ j ∈ L, ∀ k, rfs X j k → k ∈ L := fun j hj k hk => by
    obtain ⟨t, ht⟩ := List.getElem?_of_mem hj
    have h3 := h0.2.2.1 t j ht
    exact h j h3.2.1 h3.2.2.1 hj k hk
  rcases c with ⟨rfl, -, h3⟩ | ⟨j, hj, rfl, ha, -, rfl, -⟩
  · exact ⟨⟨a, b, Nat.le_refl _⟩, fun t i _ ht k hk => hcl i (List.mem_of_getElem? ht) k hk, fun _ h => h, h3, fun T _ h _ => h⟩
  · refine ⟨⟨a, b, by rw [List.length_append]; omega⟩, fun t i hti ht k hk => ?_, fun i hi => List.mem_append_left _ hi, fun i hi hx _ => ?_, fun T _ h1 h2 i hi => ?_⟩
    · rw [List.getElem?_append_left hti] at ht
      exact List.mem_append_left _ (hcl i (List.mem_of_getElem? ht) k hk)
    · have : j = i := (nI_eq (by omega) (by omega)).mp hx
      rw [this]; exact List.mem_append_right _ (List.mem_singleton.mpr rfl)
    · rcases List.mem_append.mp hi with h | h
      · exact h1 i h
      · cases List.mem_singleton.mp h
        exact h2 _ hj rfl ha
theorem hoI.st {X X1 X2 : Hx} {L L1 L2 : List Nat} {x : Int32} {i j : Nat} (h : hoI X L x i X1 L1) (hj : L1[i]? = some j) (h2 : mwL X1 L1 j 2 X2 L2) : hoI X L x (i + 1) X2 L2 := by
  obtain ⟨⟨a, b, c⟩, d, e, f, g⟩ := h
  obtain ⟨a2, b2, ⟨E, rfl, hE⟩, d2⟩ := h2
  have hil := (List.getElem?_eq_some_iff.mp hj).1
  have h3 := a.2.2.1 i j hj
  rw [b.al] at h3 hE
  refine ⟨⟨a2, b.tr b2, by rw [List.length_append]; omega⟩, fun t k ht hk q hq => ?_, fun k hk => List.mem_append_left _ (e k hk), fun k hk hx hal => List.mem_append_left _ (f k hk hx hal), fun T hT h4 h5 k hk => ?_⟩
  · rw [List.getElem?_append_left (by omega)] at hk
    rcases Nat.lt_succ_iff_lt_or_eq.mp ht with c1 | c1
    · exact List.mem_append_left _ (d t k c1 hk q hq)
    · subst c1
      cases hj.symm.trans hk
      obtain ⟨w, hw, h6, h7, h8⟩ := b.rx.mpr hq
      exact d2 w hw q h7 h6 h8
  · rcases List.mem_append.mp hk with h9 | h9
    · exact g T hT h4 h5 k h9
    · obtain ⟨⟨h10, h11⟩, w, hw, h12⟩ := hE k h9
      rw [b.2.2.2.1] at h12
      exact hT j h3.2.1 h3.2.2.1 (g T hT h4 h5 j (List.mem_of_getElem? hj)) k ⟨w, hw, h12, h10, h11⟩
theorem hoI.done {X X1 : Hx} {L L1 : List Nat} {x : Int32} {i : Nat} (h : hoI X L x i X1 L1) (hi : L1.length ≤ i) : hoL X L x X1 L1 := by
  obtain ⟨⟨a, b, c⟩, d, e, f, g⟩ := h
  refine ⟨a, b, fun j _ _ hj k hk => ?_, e, f, g⟩
  obtain ⟨t, ht⟩ := List.getElem?_of_mem hj
  exact d t j (by have := (List.getElem?_eq_some_iff.mp ht).1; omega) ht k hk
set_option maxHeartbeats 400000 in
set_option maxRecDepth 100000 in
theorem c_He_hold (l : Launch) {s0 : State} {D : va_G} {ca : Nat → ClassId} (hB : so_B tbl s0 D vcl (tyl ca)) {σ : so_S} {he th ho : Nat} {X : Hx} (M : HeR ca σ he th ho X) {L : List Nat} (hL : HL X L) (hcl : clT X (fun j => j ∈ L)) (x : Int32) : he_C l s0 D ca he th ho σ y_He_hold b_He_hold 4 none 3 [.int x] (fun v X1 => v = none ∧ ∃ L1, hoL X L x X1 L1) := by
  refine so_of hB (by decide) (Nat.le_of_ble_eq_true rfl) ?_
  intro p e s m below meth c ls S K E hr hlk hnm P hS hl
  have hl : lv_has ls 4 [(0, .ref he), (1, .int x)] := hl
  have F : fH σ σ := fH.rf
  obtain ⟨σ0, hσ0⟩ : ∃ q, q = σ := ⟨σ, rfl⟩
  rw [← hσ0]
  replace F : fH σ0 σ := by rw [hσ0]; exact fH.rf
  refine lv_aload_n S.1 S.2.1 d_He_hold_0 rfl (lv_at hl 0 rfl) ?_
  refine gf_He_29_He S K P M.1 rfl d_He_hold_1 ?_
  refine lv_istore_n S.1 S.2.1 d_He_hold_4 rfl hl (by decide) rfl (fun ls hl => ?_)
  refine lv_aload_n S.1 S.2.1 d_He_hold_5 rfl (lv_at hl 1 rfl) ?_
  refine lv_iload_n S.1 S.2.1 d_He_hold_6 rfl (lv_at hl 2 rfl) ?_
  refine he_after F (cv_He_40_He S hB K E P hS M.1 (c_He_markL l hB M hL x) rfl (by decide) (Nat.le_refl _) (Nat.le_refl _) hl.1 rfl (Nat.le_of_ble_eq_true rfl) d_He_hold_7) hS (fun v X1 σ H locs hp P hS M F => ?_)
  obtain ⟨rfl, L1, hmk⟩ := hp
  refine lv_iload_n S.1 S.2.1 d_He_hold_10 rfl (lv_at hl 0 rfl) ?_
  refine lv_istore_n S.1 S.2.1 d_He_hold_11 rfl hl (by decide) rfl (fun ls hl => ?_)
  rw [hL.1] at hl
  have hll := hL.le
  refine so_lp (Wf := fun ls H locs σ1 (_ : Nat × Hx × List Nat) => W p l e _ s m _ below meth c H locs _ _ _ (F0 m 12 ls [])) (fun n1 ls H locs σ1 a => n1 = 32 - a.1 ∧ hoI X L x a.1 a.2.1 a.2.2 ∧ he_I ca D s0 s he th ho σ0 ls 4 [(3, .int (nI a.1)), (0, .ref he)] H locs σ1 a.2.1) ?_ _ ls H locs σ (L.length, X1, L1) ⟨rfl, hoI.go hL hcl hmk, lv_sub hl [0, 2] rfl, P, hS, M, F⟩
  clear hl P hS M F
  rintro n1 ls H locs σ ⟨i, X2, L2⟩ ⟨hn1, hho, hl, P, hS, M, F⟩ ih
  simp only at hn1 hho hl M ih
  have hle2 := hho.1.1.le
  have hil2 := hho.1.2.2
  refine lv_iload_n S.1 S.2.1 d_He_hold_12 rfl (lv_at hl 0 rfl) ?_
  refine lv_bipush (v := 32) S.1 S.2.1 d_He_hold_13 (by decide) ?_
  refine lv_icmp_ge (tgt := 42) S.1 S.2.1 d_He_hold_15 rfl (fun h15 => ?_) (fun h15 => ?_)
  · refine so_vret S hr hlk P hS (Nat.le_refl _) (Nat.le_refl _) ⟨_, ?_, M, F⟩ d_He_hold_42
    refine ⟨rfl, L2, hho.done ?_⟩
    have := (nI_leI (a := 32) (by decide) (by omega)).mp h15
    omega
  · refine lv_iload_n S.1 S.2.1 d_He_hold_18 rfl (lv_at hl 0 rfl) ?_
    refine lv_aload_n S.1 S.2.1 d_He_hold_19 rfl (lv_at hl 1 rfl) ?_
    refine gf_He_29_He S K P M.1 rfl d_He_hold_20 ?_
    refine lv_icmp_ge (tgt := 42) S.1 S.2.1 d_He_hold_23 rfl (fun h23 => ?_) (fun h23 => ?_)
    · refine so_vret S hr hlk P hS (Nat.le_refl _) (Nat.le_refl _) ⟨_, ?_, M, F⟩ d_He_hold_42
      refine ⟨rfl, L2, hho.done ?_⟩
      rw [show X2.hc = nI L2.length from hho.1.1.1] at h23
      exact (nI_leI (by omega) (by omega)).mp h23
    · have hlt : i < L2.length := Nat.not_le.mp fun z => h23 (by rw [show X2.hc = nI L2.length from hho.1.1.1]; exact nI_le z (by omega))
      obtain ⟨j, hji⟩ : ∃ j, L2[i]? = some j := ⟨_, List.getElem?_eq_getElem hlt⟩
      have hji2 := hho.1.1.2.2.1 i j hji
      refine lv_aload_n S.1 S.2.1 d_He_hold_26 rfl (lv_at hl 1 rfl) ?_
      refine lv_aload_n S.1 S.2.1 d_He_hold_27 rfl (lv_at hl 1 rfl) ?_
      refine gf_He_17_He S K P M.1 rfl d_He_hold_28 ?_
      refine lv_iload_n S.1 S.2.1 d_He_hold_31 rfl (lv_at hl 0 rfl) ?_
      refine so_ialdN S K P M.2.2.1 0 rfl (by omega) (by decide) d_He_hold_32 ?_
      rw [hji2.1]
      refine he_after F (cv_He_43_He S hB K E P hS M.1 (c_He_markWhatItRefersTo l hB M hho.1.1 j hji2.2.1 hji2.2.2.1) rfl (by decide) (Nat.le_refl _) (Nat.le_refl _) hl.1 rfl (Nat.le_of_ble_eq_true rfl) d_He_hold_33) hS (fun v X1 σ H locs hp P hS M F => ?_)
      obtain ⟨rfl, L3, hmw⟩ := hp
      refine lv_iinc (k := 0) S.1 S.2.1 d_He_hold_36 hl rfl rfl (by decide) rfl (fun ls hl => ?_)
      refine lv_goto (tgt := 12) S.1 S.2.1 d_He_hold_39 rfl ?_
      rw [nI_a] at hl
      exact ih (32 - (i + 1)) ls H locs σ (i + 1, X1, L3) (by omega) ⟨rfl, hho.st hji hmw, hl, P, hS, M, F⟩

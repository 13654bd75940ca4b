/-! HoldMaps: what the maps hold. -/
/-- G is the least closed set over what S says of the living -/
def csS (X : Hx) (S : Nat → Prop) (X1 : Hx) (G : List Nat) : Prop := HL X1 G ∧ sbM X X1 ∧ clT X (fun j => j ∈ G) ∧ (∀ j, j < 32 → X.al j = true → S j → j ∈ G) ∧ ∀ T : Nat → Prop, clT X T → (∀ j, j < 32 → X.al j = true → S j → T j) → ∀ j ∈ G, T j
theorem csS.hold {X X1 X2 : Hx} {S : Nat → Prop} {G G2 : List Nat} {x : Int32} (h : csS X S X1 G) (h2 : hoL X1 G x X2 G2) : csS X (fun j => S j ∨ x = nI j) X2 G2 := by
  obtain ⟨a1, a2, a3, a4, a5⟩ := h
  obtain ⟨b1, b2, b3, b4, b5, b6⟩ := h2
  have hal := a2.al
  refine ⟨b1, a2.tr b2, a2.ct.mp b3, fun j hj ha hs => ?_, fun T hT hs => b6 T (a2.ct.mpr hT) (a5 T hT (fun j hj ha h3 => hs j hj ha (Or.inl h3))) (fun j hj hx ha => hs j hj (by rw [← hal]; exact ha) (Or.inr hx))⟩
  rcases hs with hs | hs
  · exact b4 j (a4 j hj ha hs)
  · exact b5 j hj hs (by rw [hal]; exact ha)
theorem csS.sub {X X1 : Hx} {S S2 : Nat → Prop} {G : List Nat} (h : csS X S X1 G) (h2 : ∀ j, j < 32 → X.al j = true → (S j ↔ S2 j)) : csS X S2 X1 G :=
  ⟨h.1, h.2.1, h.2.2.1, fun j hj ha hs => h.2.2.2.1 j hj ha ((h2 j hj ha).mpr hs), fun T hT hs => h.2.2.2.2 T hT (fun j hj ha h3 => hs j hj ha ((h2 j hj ha).mp h3))⟩
theorem csS.cl {X X1 : Hx} {S : Nat → Prop} {G : List Nat} (h : csS X S X1 G) : clT X1 (fun j => j ∈ G) := h.2.1.ct.mpr h.2.2.1
theorem simO.sb {X X1 : Hx} {o : Obs} (h : simO X o) (h2 : sbM X X1) : simO X1 o := by
  intro i hi
  obtain ⟨h3, h4⟩ := h i hi
  refine ⟨by rw [h2.al]; exact h3, fun ha => ?_⟩
  rw [h2.2.1, h2.2.2.1, h2.2.2.2.1]
  exact h4 ha
/-- the entries' keys, the entries' values -/
def kyS (L : List En) (j : Nat) : Prop := ∃ en ∈ L, en.2.1 = j
def vlS (L : List En) (j : Nat) : Prop := ∃ en ∈ L, en.2.2.2.1 = j
set_option maxHeartbeats 400000 in
set_option maxRecDepth 100000 in
theorem c_HM_holdKeys (l : Launch) {s0 : State} {D : va_G} {ca : Nat → ClassId} (hB : so_B tbl s0 D vcl (tyl ca)) {σ : so_S} {DE hm : Nat} {B : Bx} {X : Hx} {k : Wks} {bk tm : Nat} {L : Nat → List En} {sl : Nat → Option En} (M : HMR ca DE σ hm B X k bk tm L sl) (hLn : ∀ i, (L i).length ≤ 32) (hbd : ∀ mp x, mp < 5 → x ∈ lsE L sl mp → x.2.1 < 2 ^ 31 ∧ x.2.2.2.1 < 2 ^ 31) {X0 : Hx} {S0 : Nat → Prop} {G : List Nat} (hC : csS X0 S0 X G) {mp : Nat} (hmp : mp < 5) : so_C l s0 D vcl y_HM_holdKeys b_HM_holdKeys 3 none 5 0 0 [.ref hm, .ref (B.A.1 mp)] σ (fun v σ1 => v = none ∧ (∃ X1 G1, csS X0 (fun j => S0 j ∨ kyS (lsE L sl mp) j) X1 G1 ∧ HMR ca DE σ1 hm B X1 k bk tm L sl) ∧ fT tH σ σ1) := by
  refine so_of hB (by decide) (Nat.le_of_ble_eq_true rfl) ?_
  intro p e s m below meth c ls S K E hr hlk hnm P hS hl
  have hl : lv_has ls 3 [(0, .ref hm), (1, .ref (B.A.1 mp))] := hl
  have hln := lsE_len (sl := sl) hLn mp
  refine lv_iconst (v := 0) S.1 S.2.1 d_HM_holdKeys_0 (by decide) ?_
  refine lv_istore_n S.1 S.2.1 d_HM_holdKeys_1 rfl hl (by decide) rfl (fun ls hl => ?_)
  refine so_lp (Wf := fun ls H locs σ3 (_ : Nat × Hx × List Nat) => W p l e _ s m _ below meth c H locs _ _ _ (F0 m 2 ls [])) (fun n1 ls H locs σ3 a => n1 = (lsE L sl mp).length - a.1 ∧ a.1 ≤ (lsE L sl mp).length ∧ lv_has ls 3 [(2, .int (nI a.1)), (0, .ref hm), (1, .ref (B.A.1 mp))] ∧ so_P D vcl s0.heap.size σ3 H ∧ va_S (so_A s0.heap.size) s.heap H locs ∧ csS X0 (fun j => S0 j ∨ kyS ((lsE L sl mp).take a.1) j) a.2.1 a.2.2 ∧ HMR ca DE σ3 hm B a.2.1 k bk tm L sl ∧ fT tH σ σ3) ?_ _ ls _ _ σ (0, X, G) ⟨rfl, Nat.zero_le _, hl, P, hS, hC.sub (fun j _ _ => ⟨fun h => Or.inl h, fun h => h.elim id (fun z => by obtain ⟨x, hx, _⟩ := z; cases hx)⟩), M, fT.rf⟩
  clear hl P hS hC M
  rintro n1 ls H locs σ3 ⟨i, X, G⟩ ⟨hn1, hi1, hl, P, hS, hC, M, Fr⟩ ih
  simp only at hn1 hi1 hl M hC ih
  refine lv_iload_n S.1 S.2.1 d_HM_holdKeys_2 rfl (lv_at hl 0 rfl) ?_
  refine lv_aload_n S.1 S.2.1 d_HM_holdKeys_3 rfl (lv_at hl 2 rfl) ?_
  refine so_callR (hm_len S hB K E P hS M.2.2.2 hmp (by decide) (Nat.zero_le _) (Nat.zero_le _) hl.1 (Nat.le_of_ble_eq_true rfl) d_HM_holdKeys_4) (fun v hv2 => ?_)
  subst hv2
  refine lv_icmp_ge (tgt := 28) S.1 S.2.1 d_HM_holdKeys_7 rfl (fun h7 => ?_) (fun h7 => ?_)
  · have hi : (lsE L sl mp).length ≤ i := Nat.not_lt.mp fun z => absurd h7 (nI_ge z (by omega))
    rw [List.take_of_length_le hi] at hC
    exact so_vret S hr hlk P hS (Nat.le_refl _) (Nat.le_refl _) ⟨rfl, ⟨X, G, hC, M⟩, Fr⟩ d_HM_holdKeys_28
  · have hlt : i < (lsE L sl mp).length := Nat.not_le.mp fun z => h7 (nI_le z (by omega))
    refine lv_aload_n S.1 S.2.1 d_HM_holdKeys_10 rfl (lv_at hl 1 rfl) ?_
    refine gf_HM_10_HM S K P M.1 rfl d_HM_holdKeys_11 ?_
    refine lv_aload_n S.1 S.2.1 d_HM_holdKeys_14 rfl (lv_at hl 2 rfl) ?_
    refine lv_iload_n S.1 S.2.1 d_HM_holdKeys_15 rfl (lv_at hl 0 rfl) ?_
    refine so_callR (hm_key S hB K E P hS M.2.2.2 hmp hLn (nI i) (by decide) (Nat.zero_le _) (Nat.zero_le _) hl.1 (Nat.le_of_ble_eq_true rfl) d_HM_holdKeys_16) (fun v hv2 => ?_)
    subst hv2
    rw [atI_nI hlt (by omega)]
    refine so_call (cv_HM_215_He S hB K E P hS M.2.2.1.1 (c_He_hold l hB M.2.2.1 hC.1 hC.cl (nI ((lsE L sl mp)[i].2.1))) rfl (by decide) (Nat.le_refl _) (Nat.le_refl _) hl.1 rfl (Nat.le_of_ble_eq_true rfl) d_HM_holdKeys_19) hS (fun v σ4 H locs hv P hS => ?_)
    obtain ⟨X4, ⟨rfl, G4, h4⟩, M4, F4⟩ := hv
    refine lv_iinc (k := 0) S.1 S.2.1 d_HM_holdKeys_22 hl rfl rfl (by decide) rfl (fun ls hl => ?_)
    refine lv_goto (tgt := 2) S.1 S.2.1 d_HM_holdKeys_25 rfl ?_
    rw [nI_a] at hl
    refine ih ((lsE L sl mp).length - (i + 1)) ls H locs σ4 (i + 1, X4, G4) (by omega) ⟨rfl, by show i + 1 ≤ _; omega, hl, P, hS, (hC.hold h4).sub (fun j hj _ => ?_), M.agH F4 M4, Fr.tr F4⟩
    show (S0 j ∨ kyS ((lsE L sl mp).take i) j) ∨ nI ((lsE L sl mp)[i].2.1) = nI j ↔ S0 j ∨ kyS ((lsE L sl mp).take (i + 1)) j
    have hb := hbd mp _ hmp (List.getElem_mem hlt)
    rw [List.take_succ_eq_append_getElem hlt]
    constructor
    · rintro ((h | ⟨x, hx, hx2⟩) | h)
      · exact Or.inl h
      · exact Or.inr ⟨x, List.mem_append_left _ hx, hx2⟩
      · exact Or.inr ⟨_, List.mem_append_right _ (List.mem_singleton.mpr rfl), (nI_eq (by omega) (by omega)).mp h⟩
    · rintro (h | ⟨x, hx, hx2⟩)
      · exact Or.inl (Or.inl h)
      · rcases List.mem_append.mp hx with h | h
        · exact Or.inl (Or.inr ⟨x, h, hx2⟩)
        · rw [List.mem_singleton.mp h] at hx2
          exact Or.inr (congrArg nI hx2)
set_option maxHeartbeats 400000 in
set_option maxRecDepth 100000 in
theorem c_HM_holdValues (l : Launch) {s0 : State} {D : va_G} {ca : Nat → ClassId} (hB : so_B tbl s0 D vcl (tyl ca)) {σ : so_S} {DE hm : Nat} {B : Bx} {X : Hx} {k : Wks} {bk tm : Nat} {L : Nat → List En} {sl : Nat → Option En} (M : HMR ca DE σ hm B X k bk tm L sl) (hLn : ∀ i, (L i).length ≤ 32) (hbd : ∀ mp x, mp < 5 → x ∈ lsE L sl mp → x.2.1 < 2 ^ 31 ∧ x.2.2.2.1 < 2 ^ 31) {X0 : Hx} {S0 : Nat → Prop} {G : List Nat} (hC : csS X0 S0 X G) {mp : Nat} (hmp : mp < 5) : so_C l s0 D vcl y_HM_holdValues b_HM_holdValues 3 none 5 0 0 [.ref hm, .ref (B.A.1 mp)] σ (fun v σ1 => v = none ∧ (∃ X1 G1, csS X0 (fun j => S0 j ∨ vlS (lsE L sl mp) j) X1 G1 ∧ HMR ca DE σ1 hm B X1 k bk tm L sl) ∧ fT tH σ σ1) := by
  refine so_of hB (by decide) (Nat.le_of_ble_eq_true rfl) ?_
  intro p e s m below meth c ls S K E hr hlk hnm P hS hl
  have hl : lv_has ls 3 [(0, .ref hm), (1, .ref (B.A.1 mp))] := hl
  have hln := lsE_len (sl := sl) hLn mp
  refine lv_iconst (v := 0) S.1 S.2.1 d_HM_holdValues_0 (by decide) ?_
  refine lv_istore_n S.1 S.2.1 d_HM_holdValues_1 rfl hl (by decide) rfl (fun ls hl => ?_)
  refine so_lp (Wf := fun ls H locs σ3 (_ : Nat × Hx × List Nat) => W p l e _ s m _ below meth c H locs _ _ _ (F0 m 2 ls [])) (fun n1 ls H locs σ3 a => n1 = (lsE L sl mp).length - a.1 ∧ a.1 ≤ (lsE L sl mp).length ∧ lv_has ls 3 [(2, .int (nI a.1)), (0, .ref hm), (1, .ref (B.A.1 mp))] ∧ so_P D vcl s0.heap.size σ3 H ∧ va_S (so_A s0.heap.size) s.heap H locs ∧ csS X0 (fun j => S0 j ∨ vlS ((lsE L sl mp).take a.1) j) a.2.1 a.2.2 ∧ HMR ca DE σ3 hm B a.2.1 k bk tm L sl ∧ fT tH σ σ3) ?_ _ ls _ _ σ (0, X, G) ⟨rfl, Nat.zero_le _, hl, P, hS, hC.sub (fun j _ _ => ⟨fun h => Or.inl h, fun h => h.elim id (fun z => by obtain ⟨x, hx, _⟩ := z; cases hx)⟩), M, fT.rf⟩
  clear hl P hS hC M
  rintro n1 ls H locs σ3 ⟨i, X, G⟩ ⟨hn1, hi1, hl, P, hS, hC, M, Fr⟩ ih
  simp only at hn1 hi1 hl M hC ih
  refine lv_iload_n S.1 S.2.1 d_HM_holdValues_2 rfl (lv_at hl 0 rfl) ?_
  refine lv_aload_n S.1 S.2.1 d_HM_holdValues_3 rfl (lv_at hl 2 rfl) ?_
  refine so_callR (hm_len S hB K E P hS M.2.2.2 hmp (by decide) (Nat.zero_le _) (Nat.zero_le _) hl.1 (Nat.le_of_ble_eq_true rfl) d_HM_holdValues_4) (fun v hv2 => ?_)
  subst hv2
  refine lv_icmp_ge (tgt := 28) S.1 S.2.1 d_HM_holdValues_7 rfl (fun h7 => ?_) (fun h7 => ?_)
  · have hi : (lsE L sl mp).length ≤ i := Nat.not_lt.mp fun z => absurd h7 (nI_ge z (by omega))
    rw [List.take_of_length_le hi] at hC
    exact so_vret S hr hlk P hS (Nat.le_refl _) (Nat.le_refl _) ⟨rfl, ⟨X, G, hC, M⟩, Fr⟩ d_HM_holdValues_28
  · have hlt : i < (lsE L sl mp).length := Nat.not_le.mp fun z => h7 (nI_le z (by omega))
    refine lv_aload_n S.1 S.2.1 d_HM_holdValues_10 rfl (lv_at hl 1 rfl) ?_
    refine gf_HM_10_HM S K P M.1 rfl d_HM_holdValues_11 ?_
    refine lv_aload_n S.1 S.2.1 d_HM_holdValues_14 rfl (lv_at hl 2 rfl) ?_
    refine lv_iload_n S.1 S.2.1 d_HM_holdValues_15 rfl (lv_at hl 0 rfl) ?_
    refine so_callR (hm_val S hB K E P hS M.2.2.2 hmp hLn (nI i) (by decide) (Nat.zero_le _) (Nat.zero_le _) hl.1 (Nat.le_of_ble_eq_true rfl) d_HM_holdValues_16) (fun v hv2 => ?_)
    subst hv2
    rw [atI_nI hlt (by omega)]
    refine so_call (cv_HM_215_He S hB K E P hS M.2.2.1.1 (c_He_hold l hB M.2.2.1 hC.1 hC.cl (nI ((lsE L sl mp)[i].2.2.2.1))) rfl (by decide) (Nat.le_refl _) (Nat.le_refl _) hl.1 rfl (Nat.le_of_ble_eq_true rfl) d_HM_holdValues_19) hS (fun v σ4 H locs hv P hS => ?_)
    obtain ⟨X4, ⟨rfl, G4, h4⟩, M4, F4⟩ := hv
    refine lv_iinc (k := 0) S.1 S.2.1 d_HM_holdValues_22 hl rfl rfl (by decide) rfl (fun ls hl => ?_)
    refine lv_goto (tgt := 2) S.1 S.2.1 d_HM_holdValues_25 rfl ?_
    rw [nI_a] at hl
    refine ih ((lsE L sl mp).length - (i + 1)) ls H locs σ4 (i + 1, X4, G4) (by omega) ⟨rfl, by show i + 1 ≤ _; omega, hl, P, hS, (hC.hold h4).sub (fun j hj _ => ?_), M.agH F4 M4, Fr.tr F4⟩
    show (S0 j ∨ vlS ((lsE L sl mp).take i) j) ∨ nI ((lsE L sl mp)[i].2.2.2.1) = nI j ↔ S0 j ∨ vlS ((lsE L sl mp).take (i + 1)) j
    have hb := hbd mp _ hmp (List.getElem_mem hlt)
    rw [List.take_succ_eq_append_getElem hlt]
    constructor
    · rintro ((h | ⟨x, hx, hx2⟩) | h)
      · exact Or.inl h
      · exact Or.inr ⟨x, List.mem_append_left _ hx, hx2⟩
      · exact Or.inr ⟨_, List.mem_append_right _ (List.mem_singleton.mpr rfl), (nI_eq (by omega) (by omega)).mp h⟩
    · rintro (h | ⟨x, hx, hx2⟩)
      · exact Or.inl (Or.inl h)
      · rcases List.mem_append.mp hx with h | h
        · exact Or.inl (Or.inr ⟨x, h, hx2⟩)
        · rw [List.mem_singleton.mp h] at hx2
          exact Or.inr (congrArg nI hx2)
set_option maxHeartbeats 400000 in
set_option maxRecDepth 100000 in
theorem c_HM_holdWhatMapsHold (l : Launch) {s0 : State} {D : va_G} {ca : Nat → ClassId} (hB : so_B tbl s0 D vcl (tyl ca)) {σ : so_S} {DE hm : Nat} {B : Bx} {X : Hx} {k : Wks} {bk tm : Nat} {L : Nat → List En} {sl : Nat → Option En} (M : HMR ca DE σ hm B X k bk tm L sl) (hLn : ∀ i, (L i).length ≤ 32) (hbd : ∀ mp x, mp < 5 → x ∈ lsE L sl mp → x.2.1 < 2 ^ 31 ∧ x.2.2.2.1 < 2 ^ 31) {X0 : Hx} {S0 : Nat → Prop} {G : List Nat} (hC : csS X0 S0 X G) : so_C l s0 D vcl y_HM_holdWhatMapsHold b_HM_holdWhatMapsHold 1 none 6 0 0 [.ref hm] σ (fun v σ1 => v = none ∧ (∃ X1 G1, csS X0 (fun j => (((((((S0 j ∨ kyS (lsE L sl 2) j) ∨ vlS (lsE L sl 2) j) ∨ kyS (lsE L sl 4) j) ∨ vlS (lsE L sl 4) j) ∨ vlS (lsE L sl 3) j) ∨ vlS (lsE L sl 0) j) ∨ kyS (lsE L sl 1) j)) X1 G1 ∧ HMR ca DE σ1 hm B X1 k bk tm L sl) ∧ fT tH σ σ1) := by
  refine so_of hB (by decide) (Nat.le_of_ble_eq_true rfl) ?_
  intro p e s m below meth c ls S K E hr hlk hnm P hS hl
  have hl : lv_has ls 1 [(0, .ref hm)] := hl
  have Fr : fT tH σ σ := fT.rf
  refine lv_aload_n S.1 S.2.1 d_HM_holdWhatMapsHold_0 rfl (lv_at hl 0 rfl) ?_
  refine lv_aload_n S.1 S.2.1 d_HM_holdWhatMapsHold_1 rfl (lv_at hl 0 rfl) ?_
  refine gf_HM_32_HM S K P M.1 rfl d_HM_holdWhatMapsHold_2 ?_
  refine lv_iconst (v := 2) S.1 S.2.1 d_HM_holdWhatMapsHold_5 (by decide) ?_
  obtain ⟨f, hf1, hf2⟩ := M.2.1
  refine so_aaldN S K P hf1 4 rfl (j := 2) (by decide) (by decide) d_HM_holdWhatMapsHold_6 ?_
  rw [hf2 2 (by decide)]
  show W p l e _ s m _ below meth c _ _ _ _ _ (F0 m _ ls (.ref (B.A.1 2) :: _))
  refine so_call (cv_HM_208_HM S hB K E P hS M.1 (c_HM_holdKeys l hB M hLn hbd hC (mp := 2) (by decide)) rfl (by decide) (Nat.le_refl _) (Nat.le_refl _) hl.1 rfl (Nat.le_of_ble_eq_true rfl) d_HM_holdWhatMapsHold_7) hS (fun v σ4 H locs hv P hS => ?_)
  obtain ⟨rfl, ⟨X4, G4, hC4, M4⟩, F4⟩ := hv
  replace hC := hC4
  replace M := M4
  have Fr := Fr.tr F4
  clear hC4 M4 F4
  refine lv_aload_n S.1 S.2.1 d_HM_holdWhatMapsHold_10 rfl (lv_at hl 0 rfl) ?_
  refine lv_aload_n S.1 S.2.1 d_HM_holdWhatMapsHold_11 rfl (lv_at hl 0 rfl) ?_
  refine gf_HM_32_HM S K P M.1 rfl d_HM_holdWhatMapsHold_12 ?_
  refine lv_iconst (v := 2) S.1 S.2.1 d_HM_holdWhatMapsHold_15 (by decide) ?_
  obtain ⟨f, hf1, hf2⟩ := M.2.1
  refine so_aaldN S K P hf1 4 rfl (j := 2) (by decide) (by decide) d_HM_holdWhatMapsHold_16 ?_
  rw [hf2 2 (by decide)]
  show W p l e _ s m _ below meth c _ _ _ _ _ (F0 m _ ls (.ref (B.A.1 2) :: _))
  refine so_call (cv_HM_212_HM S hB K E P hS M.1 (c_HM_holdValues l hB M hLn hbd hC (mp := 2) (by decide)) rfl (by decide) (Nat.le_refl _) (Nat.le_refl _) hl.1 rfl (Nat.le_of_ble_eq_true rfl) d_HM_holdWhatMapsHold_17) hS (fun v σ4 H locs hv P hS => ?_)
  obtain ⟨rfl, ⟨X4, G4, hC4, M4⟩, F4⟩ := hv
  replace hC := hC4
  replace M := M4
  have Fr := Fr.tr F4
  clear hC4 M4 F4
  refine lv_aload_n S.1 S.2.1 d_HM_holdWhatMapsHold_20 rfl (lv_at hl 0 rfl) ?_
  refine lv_aload_n S.1 S.2.1 d_HM_holdWhatMapsHold_21 rfl (lv_at hl 0 rfl) ?_
  refine gf_HM_32_HM S K P M.1 rfl d_HM_holdWhatMapsHold_22 ?_
  refine lv_iconst (v := 4) S.1 S.2.1 d_HM_holdWhatMapsHold_25 (by decide) ?_
  obtain ⟨f, hf1, hf2⟩ := M.2.1
  refine so_aaldN S K P hf1 4 rfl (j := 4) (by decide) (by decide) d_HM_holdWhatMapsHold_26 ?_
  rw [hf2 4 (by decide)]
  show W p l e _ s m _ below meth c _ _ _ _ _ (F0 m _ ls (.ref (B.A.1 4) :: _))
  refine so_call (cv_HM_208_HM S hB K E P hS M.1 (c_HM_holdKeys l hB M hLn hbd hC (mp := 4) (by decide)) rfl (by decide) (Nat.le_refl _) (Nat.le_refl _) hl.1 rfl (Nat.le_of_ble_eq_true rfl) d_HM_holdWhatMapsHold_27) hS (fun v σ4 H locs hv P hS => ?_)
  obtain ⟨rfl, ⟨X4, G4, hC4, M4⟩, F4⟩ := hv
  replace hC := hC4
  replace M := M4
  have Fr := Fr.tr F4
  clear hC4 M4 F4
  refine lv_aload_n S.1 S.2.1 d_HM_holdWhatMapsHold_30 rfl (lv_at hl 0 rfl) ?_
  refine lv_aload_n S.1 S.2.1 d_HM_holdWhatMapsHold_31 rfl (lv_at hl 0 rfl) ?_
  refine gf_HM_32_HM S K P M.1 rfl d_HM_holdWhatMapsHold_32 ?_
  refine lv_iconst (v := 4) S.1 S.2.1 d_HM_holdWhatMapsHold_35 (by decide) ?_
  obtain ⟨f, hf1, hf2⟩ := M.2.1
  refine so_aaldN S K P hf1 4 rfl (j := 4) (by decide) (by decide) d_HM_holdWhatMapsHold_36 ?_
  rw [hf2 4 (by decide)]
  show W p l e _ s m _ below meth c _ _ _ _ _ (F0 m _ ls (.ref (B.A.1 4) :: _))
  refine so_call (cv_HM_212_HM S hB K E P hS M.1 (c_HM_holdValues l hB M hLn hbd hC (mp := 4) (by decide)) rfl (by decide) (Nat.le_refl _) (Nat.le_refl _) hl.1 rfl (Nat.le_of_ble_eq_true rfl) d_HM_holdWhatMapsHold_37) hS (fun v σ4 H locs hv P hS => ?_)
  obtain ⟨rfl, ⟨X4, G4, hC4, M4⟩, F4⟩ := hv
  replace hC := hC4
  replace M := M4
  have Fr := Fr.tr F4
  clear hC4 M4 F4
  refine lv_aload_n S.1 S.2.1 d_HM_holdWhatMapsHold_40 rfl (lv_at hl 0 rfl) ?_
  refine lv_aload_n S.1 S.2.1 d_HM_holdWhatMapsHold_41 rfl (lv_at hl 0 rfl) ?_
  refine gf_HM_32_HM S K P M.1 rfl d_HM_holdWhatMapsHold_42 ?_
  refine lv_iconst (v := 3) S.1 S.2.1 d_HM_holdWhatMapsHold_45 (by decide) ?_
  obtain ⟨f, hf1, hf2⟩ := M.2.1
  refine so_aaldN S K P hf1 4 rfl (j := 3) (by decide) (by decide) d_HM_holdWhatMapsHold_46 ?_
  rw [hf2 3 (by decide)]
  show W p l e _ s m _ below meth c _ _ _ _ _ (F0 m _ ls (.ref (B.A.1 3) :: _))
  refine so_call (cv_HM_212_HM S hB K E P hS M.1 (c_HM_holdValues l hB M hLn hbd hC (mp := 3) (by decide)) rfl (by decide) (Nat.le_refl _) (Nat.le_refl _) hl.1 rfl (Nat.le_of_ble_eq_true rfl) d_HM_holdWhatMapsHold_47) hS (fun v σ4 H locs hv P hS => ?_)
  obtain ⟨rfl, ⟨X4, G4, hC4, M4⟩, F4⟩ := hv
  replace hC := hC4
  replace M := M4
  have Fr := Fr.tr F4
  clear hC4 M4 F4
  refine lv_aload_n S.1 S.2.1 d_HM_holdWhatMapsHold_50 rfl (lv_at hl 0 rfl) ?_
  refine lv_aload_n S.1 S.2.1 d_HM_holdWhatMapsHold_51 rfl (lv_at hl 0 rfl) ?_
  refine gf_HM_19_HM S K P M.1 rfl d_HM_holdWhatMapsHold_52 ?_
  refine so_call (cv_HM_212_HM S hB K E P hS M.1 (c_HM_holdValues l hB M hLn hbd hC (mp := 0) (by decide)) rfl (by decide) (Nat.le_refl _) (Nat.le_refl _) hl.1 rfl (Nat.le_of_ble_eq_true rfl) d_HM_holdWhatMapsHold_55) hS (fun v σ4 H locs hv P hS => ?_)
  obtain ⟨rfl, ⟨X4, G4, hC4, M4⟩, F4⟩ := hv
  replace hC := hC4
  replace M := M4
  have Fr := Fr.tr F4
  clear hC4 M4 F4
  refine lv_aload_n S.1 S.2.1 d_HM_holdWhatMapsHold_58 rfl (lv_at hl 0 rfl) ?_
  refine lv_aload_n S.1 S.2.1 d_HM_holdWhatMapsHold_59 rfl (lv_at hl 0 rfl) ?_
  refine gf_HM_26_HM S K P M.1 rfl d_HM_holdWhatMapsHold_60 ?_
  refine so_call (cv_HM_208_HM S hB K E P hS M.1 (c_HM_holdKeys l hB M hLn hbd hC (mp := 1) (by decide)) rfl (by decide) (Nat.le_refl _) (Nat.le_refl _) hl.1 rfl (Nat.le_of_ble_eq_true rfl) d_HM_holdWhatMapsHold_63) hS (fun v σ4 H locs hv P hS => ?_)
  obtain ⟨rfl, ⟨X4, G4, hC4, M4⟩, F4⟩ := hv
  replace hC := hC4
  replace M := M4
  have Fr := Fr.tr F4
  clear hC4 M4 F4
  exact so_vret S hr hlk P hS (Nat.le_refl _) (Nat.le_refl _) ⟨rfl, ⟨_, _, hC, M⟩, Fr⟩ d_HM_holdWhatMapsHold_66

/-! HoldMaps: dropSoftEntries. -/
/-- of the living those are held of whom S says so; S says so of the living alone -/
def hdR (X : Hx) (o : Obs) (S : Nat → Bool) : Prop := (∀ j, j < 32 → o.1 j = true → X.hd j = S j) ∧ ∀ j, j < 32 → S j = true → o.1 j = true
theorem HL.iff {X : Hx} {G : List Nat} (h : HL X G) {j : Nat} (hj : j < 32) (ha : X.al j = true) : X.hd j = true ↔ j ∈ G := by
  constructor
  · exact h.2.2.2 j hj ha
  · intro h1
    obtain ⟨t, ht⟩ := List.mem_iff_getElem?.mp h1
    exact (h.2.2.1 t j ht).2.2.2
theorem HL.mem {X : Hx} {G : List Nat} (h : HL X G) {j : Nat} (hj : j ∈ G) : j < 32 ∧ X.al j = true := by
  obtain ⟨t, ht⟩ := List.mem_iff_getElem?.mp hj
  exact ⟨(h.2.2.1 t j ht).2.1, (h.2.2.1 t j ht).2.2.1⟩
theorem rI_some {x : Option Nat} {i : Nat} (hx : ∀ j, x = some j → j < 32) (hi : i < 32) (h : rI x = nI i) : x = some i := by
  cases x with
  | none => exact absurd (show nI i < 0 by rw [← h]; decide) (nI_pos (by omega))
  | some j => rw [(nI_eq (by have := hx j rfl; omega) (by omega)).mp h]
theorem csS.toF {X X1 : Hx} {o : Obs} {S : Nat → Prop} {G : List Nat} {Sb : Nat → Bool} (so1 : simO X o) (hO : okO o) (h : csS X S X1 G) (hSb : ∀ j, j < 32 → (Sb j = true ↔ (o.1 j = true ∧ S j))) : hdR X1 o (clF o.2.2.2 Sb) := by
  obtain ⟨h1, h2, h3, h4, h5⟩ := h
  have hal : ∀ j, j < 32 → X.al j = o.1 j := fun j hj => (so1 j hj).1
  have hrf : ∀ j i, j < 32 → o.1 j = true → (rfs X j i ↔ ∃ w, w < 2 ∧ o.2.2.2 j w = some i) := by
    intro j i hj ha
    constructor
    · rintro ⟨w, hw, e1, hi, _⟩
      rw [((so1 j hj).2 ha).2.2 w hw] at e1
      exact ⟨w, hw, rI_some (fun z hz => (hO j hj ha w hw z hz).1) hi e1⟩
    · rintro ⟨w, hw, e1⟩
      obtain ⟨hi, hai⟩ := hO j hj ha w hw i e1
      exact ⟨w, hw, by rw [((so1 j hj).2 ha).2.2 w hw, e1]; rfl, hi, by rw [hal i hi]; exact hai⟩
  refine ⟨fun j hj ha => ?_, fun j hj hc => ?_⟩
  · have hal1 : X1.al j = true := by rw [h2.al, hal j hj]; exact ha
    have key : X1.hd j = true ↔ clF o.2.2.2 Sb j = true := by
      rw [h1.iff hj hal1]
      unfold clF
      rw [@decide_eq_true_iff _ (Classical.propDecidable _)]
      constructor
      · intro hm
        refine h5 (fun i => ∀ T : Nat → Prop, clP o.2.2.2 T → (∀ i, i < 32 → Sb i = true → T i) → T i) (fun a ha1 ha2 hT i hri T hc hs => ?_) (fun i hi hai hs T _ h7 => h7 i hi ((hSb i hi).mpr ⟨by rw [← hal i hi]; exact hai, hs⟩)) j hm
        rw [hal a ha1] at ha2
        obtain ⟨w, hw, e1⟩ := (hrf a i ha1 ha2).mp hri
        exact hc a ha1 (hT T hc hs) w hw i e1
      · intro hT
        refine hT (fun i => i ∈ G) (fun i hi hm w hw z e1 => ?_) (fun i hi hs => ?_)
        · have hai : o.1 i = true := by
            have := (h1.mem hm).2
            rw [h2.al, hal i hi] at this
            exact this
          exact h3 i hi (by rw [hal i hi]; exact hai) hm z ((hrf i z hi hai).mpr ⟨w, hw, e1⟩)
        · obtain ⟨a1, a2⟩ := (hSb i hi).mp hs
          exact h4 i hi (by rw [hal i hi]; exact a1) a2
    cases hb : X1.hd j with
    | true => exact (key.mp hb).symm
    | false =>
      cases hc : clF o.2.2.2 Sb j with
      | false => rfl
      | true => rw [key.mpr hc] at hb; cases hb
  · unfold clF at hc
    rw [@decide_eq_true_iff _ (Classical.propDecidable _)] at hc
    exact (hc (fun i => i < 32 ∧ o.1 i = true) (fun i hi hm w hw z e1 => hO i hi hm.2 w hw z e1) (fun i hi hs => ⟨hi, ((hSb i hi).mp hs).1⟩)).2
theorem hdR.hold {X X2 : Hx} {o : Obs} {S : Nat → Bool} {G G2 : List Nat} {v : Nat} (so1 : simO X o) (hO : okO o) (h : hdR X o S) (hG : HL X G) (hcl : clT X (fun j => j ∈ G)) (h2 : hoL X G (nI v) X2 G2) (hv : v < 32) (hva : o.1 v = true) : hdR X2 o (clF o.2.2.2 (sH S (some v))) := by
  have h0 : csS X (fun j => j ∈ G) X G := ⟨hG, sbM.rf, hcl, fun j _ _ hj => hj, fun T _ hs j hj => hs j (hG.mem hj).1 (hG.mem hj).2 hj⟩
  refine (h0.hold h2).toF so1 hO (fun j hj => ?_)
  show va_up S v true j = true ↔ _
  by_cases e1 : j = v
  · subst e1
    rw [va_up_self]
    exact ⟨fun _ => ⟨hva, Or.inr rfl⟩, fun _ => rfl⟩
  · rw [va_up_ne _ _ e1]
    constructor
    · intro hs
      have ha := h.2 j hj hs
      refine ⟨ha, Or.inl ((hG.iff hj (by rw [(so1 j hj).1]; exact ha)).mp ?_)⟩
      rw [h.1 j hj ha]
      exact hs
    · rintro ⟨ha, hs | hs⟩
      · rw [← h.1 j hj ha]
        exact (hG.iff hj (by rw [(so1 j hj).1]; exact ha)).mpr hs
      · exact absurd ((nI_eq (by omega) (by omega)).mp hs).symm e1
theorem map_er {α β : Type} {f : α → β} : ∀ {L : List α} {j : Nat}, (L.eraseIdx j).map f = (L.map f).eraseIdx j
  | [], _ => rfl
  | _ :: _, 0 => rfl
  | x :: L, j + 1 => by
    show f x :: (L.eraseIdx j).map f = f x :: (L.map f).eraseIdx j
    rw [map_er]
theorem hI_hd {X : Hx} {o : Obs} {S : Nat → Bool} (so1 : simO X o) (h : hdR X o S) {v : Nat} (hv : v < 32) (hva : o.1 v = true) : hI X (nI v) = S v := by
  unfold hI
  rw [has_al so1, al_nI hv, hva, nI_clamp (by omega), h.1 v hv hva]
  rfl
set_option maxHeartbeats 400000 in
set_option maxRecDepth 100000 in
theorem c_HM_dropSoftEntries (l : Launch) {s0 : State} {D : va_G} {ca : Nat → ClassId} (hB : so_B tbl s0 D vcl (tyl ca)) {σ : so_S} {DE hm : Nat} {B : Bx} {X : Hx} {k : Wks} {bk tm : Nat} {L : Nat → List En} {sl : Nat → Option En} {o : Obs} (M : HMR ca DE σ hm B X k bk tm L sl) (so1 : simO X o) (hO : okO o) (hLn : ∀ i, (L i).length ≤ 32) {Sf : Nat → Bool} {G : List Nat} (hh : hdR X o Sf) (hG : HL X G) (hcl : clT X (fun j => j ∈ G)) (hus : ∀ x ∈ L 1, x.2.2.2.2 ≤ tm) (htm : tm < 2 ^ 29) (hvl : ∀ x ∈ L 1, x.2.2.2.1 < 32 ∧ o.1 x.2.2.2.1 = true) (pat : Nat) (hpat : pat ≤ 12) : so_C l s0 D vcl y_HM_dropSoftEntries b_HM_dropSoftEntries 7 none 5 0 0 [.ref hm, .int (nI pat)] σ (fun v σ1 => v = none ∧ (∃ X1 L1 st, st = sfM o.2.2.2 tm pat (L 1).length 1 ((L 1).map (fun x => (x.2.1, x.2.2.2.1)), (L 1).map (fun x => x.2.2.2.2), Sf, k.2.1 1) ∧ HMR ca DE σ1 hm B X1 (k.1, va_up k.2.1 1 st.2.2.2, k.2.2) bk tm (va_up L 1 L1) sl ∧ L1.map (fun x => (x.2.1, x.2.2.2.1)) = st.1 ∧ L1.map (fun x => x.2.2.2.2) = st.2.1 ∧ hdR X1 o st.2.2.1 ∧ sbM X X1 ∧ L1.length ≤ 32 ∧ ∀ x ∈ L1, x ∈ L 1) ∧ fT tC σ σ1) := by
  refine so_of hB (by decide) (Nat.le_of_ble_eq_true rfl) ?_
  intro p e s m below meth c ls S K E hr hlk hnm P hS hl
  have hl : lv_has ls 7 [(0, .ref hm), (1, .int (nI pat))] := hl
  refine lv_aload_n S.1 S.2.1 d_HM_dropSoftEntries_0 rfl (lv_at hl 0 rfl) ?_
  refine gf_HM_26_HM S K P M.1 rfl d_HM_dropSoftEntries_1 ?_
  refine so_callR (cv_HM_218_So S hB K E P hS M.2.2.2.2.1.1 (c_Ro_length_So l hB M.2.2.2.2.1.1 M.2.2.2.2.1.2) rfl (by decide) (Nat.zero_le _) (Nat.zero_le _) hl.1 rfl (Nat.le_of_ble_eq_true rfl) d_HM_dropSoftEntries_4) (fun v hv => ?_)
  subst hv
  refine lv_istore_n S.1 S.2.1 d_HM_dropSoftEntries_7 rfl hl (by decide) rfl (fun ls hl => ?_)
  refine lv_iconst (v := 0) S.1 S.2.1 d_HM_dropSoftEntries_8 (by decide) ?_
  refine lv_istore_n S.1 S.2.1 d_HM_dropSoftEntries_9 rfl hl (by decide) rfl (fun ls hl => ?_)
  refine lv_iconst (v := 0) S.1 S.2.1 d_HM_dropSoftEntries_10 (by decide) ?_
  refine lv_istore S.1 S.2.1 d_HM_dropSoftEntries_11 hl (by decide) rfl (fun ls hl => ?_)
  obtain ⟨n, hn⟩ : ∃ n, n = (L 1).length := ⟨_, rfl⟩
  have hn32 := hLn 1
  rw [← hn] at hl hn32
  obtain ⟨ST, hST⟩ : ∃ q, q = sfM o.2.2.2 tm pat (L 1).length 1 ((L 1).map (fun x => (x.2.1, x.2.2.2.1)), (L 1).map (fun x => x.2.2.2.2), Sf, k.2.1 1) := ⟨_, rfl⟩
  rw [← hST]
  have hup : va_up L 1 (L 1) = L := by
    funext z
    unfold va_up
    split
    · rename_i e1; rw [e1]
    · rfl
  have hupk : (k.1, va_up k.2.1 1 (k.2.1 1), k.2.2) = k := by
    have e1 : va_up k.2.1 1 (k.2.1 1) = k.2.1 := by
      funext z
      unfold va_up
      split
      · rename_i e1; rw [e1]
      · rfl
    rw [e1]
  refine so_lp (Wf := fun ls H locs σ3 (_ : Nat × Nat × Hx × List En × (Nat → Bool) × Bool × List Nat) => W p l e _ s m _ below meth c H locs _ _ _ (F0 m 13 ls [])) (fun n1 ls H locs σ3 a => n1 = n - a.1 ∧ a.1 ≤ n ∧ a.2.1 ≤ tm ∧ lv_has ls 7 [(4, .int (nI a.1)), (3, .int (nI a.2.1)), (2, .int (nI n)), (0, .ref hm), (1, .int (nI pat))] ∧ so_P D vcl s0.heap.size σ3 H ∧ va_S (so_A s0.heap.size) s.heap H locs ∧ HMR ca DE σ3 hm B a.2.2.1 (k.1, va_up k.2.1 1 a.2.2.2.2.2.1, k.2.2) bk tm (va_up L 1 a.2.2.2.1) sl ∧ hdR a.2.2.1 o a.2.2.2.2.1 ∧ (HL a.2.2.1 a.2.2.2.2.2.2 ∧ clT a.2.2.1 (fun j => j ∈ a.2.2.2.2.2.2)) ∧ sbM X a.2.2.1 ∧ (∀ x ∈ a.2.2.2.1, x ∈ L 1) ∧ a.2.2.2.1.length ≤ 32 ∧ ST = sfM o.2.2.2 tm pat (n - a.1) (a.2.1 + 1) (a.2.2.2.1.map (fun x => (x.2.1, x.2.2.2.1)), a.2.2.2.1.map (fun x => x.2.2.2.2), a.2.2.2.2.1, a.2.2.2.2.2.1) ∧ fT tC σ σ3) ?_ _ ls _ _ σ (0, 0, X, L 1, Sf, k.2.1 1, G) ⟨rfl, Nat.zero_le _, Nat.zero_le _, hl, P, hS, by show HMR ca DE σ hm B X (k.1, va_up k.2.1 1 (k.2.1 1), k.2.2) bk tm (va_up L 1 (L 1)) sl; rw [hup, hupk]; exact M, hh, ⟨hG, hcl⟩, sbM.rf, fun x hx => hx, hLn 1, by rw [hST, hn]; rfl, fT.rf⟩
  clear hl P hS M hh hG hcl hup hupk
  rintro n1 ls H locs σ3 ⟨i, last, Y, L1, Sc, br, G⟩ ⟨hn1, hi1, hla, hl, P, hS, M, hh, ⟨hG, hcl⟩, hsb, hsub, hL1, hst, Fr⟩ ih
  simp only at hn1 hi1 hla hl M hh hG hcl hsb hsub hL1 hst ih
  have soY := so1.sb hsb
  have Ms : σ3 (B.A.1 1) = some (11, oSo (bI (k.1 1)) (bI br) (nI (k.2.2 1)) (B.A.2.1 1) (nI tm)) := M.2.2.2.2.1.1
  have Mr : RwR ca DE σ3 1 (B.A.2.1 1) L1 := M.2.2.2.2.1.2
  refine lv_iload S.1 S.2.1 d_HM_dropSoftEntries_13 (lv_at hl 0 rfl) ?_
  refine lv_iload_n S.1 S.2.1 d_HM_dropSoftEntries_15 rfl (lv_at hl 2 rfl) ?_
  refine lv_icmp_ge (tgt := 114) S.1 S.2.1 d_HM_dropSoftEntries_16 rfl (fun h16 => ?_) (fun h16 => ?_)
  · have hi : n - i = 0 := by
      have : ¬ i < n := fun z => absurd h16 (nI_ge z (by omega))
      omega
    rw [hi] at hst
    exact so_vret S hr hlk P hS (Nat.le_refl _) (Nat.le_refl _) ⟨rfl, ⟨Y, L1, ST, rfl, by rw [hst]; exact M, by rw [hst]; rfl, by rw [hst]; rfl, by rw [hst]; exact hh, hsb, hL1, hsub⟩, Fr⟩ d_HM_dropSoftEntries_114
  have hlt : i < n := Nat.not_le.mp fun z => h16 (nI_le z (by omega))
  have hfu : n - i = (n - (i + 1)) + 1 := by omega
  rw [hfu] at hst
  have hul : (L1.map (fun x : En => x.2.2.2.2)).length = L1.length := List.length_map _
  have hugl : ∀ (z : Nat) (hz : z < L1.length), ug (L1.map (fun x : En => x.2.2.2.2)) z = L1[z].2.2.2.2 := fun z hz => by
    unfold ug
    rw [List.getElem?_map, List.getElem?_eq_getElem hz]
    rfl
  refine lv_aload_n S.1 S.2.1 d_HM_dropSoftEntries_19 rfl (lv_at hl 3 rfl) ?_
  refine gf_HM_26_HM S K P M.1 rfl d_HM_dropSoftEntries_20 ?_
  refine lv_iload_n S.1 S.2.1 d_HM_dropSoftEntries_23 rfl (lv_at hl 1 rfl) ?_
  refine so_callR (cv_HM_219_So S hB K E P hS Ms (c_So_usedFirstAfter l hB Ms Mr (by omega) (fun x hx => by have := hus x (hsub x hx); omega) last (by omega)) rfl (by decide) (Nat.zero_le _) (Nat.zero_le _) hl.1 rfl (Nat.le_of_ble_eq_true rfl) d_HM_dropSoftEntries_24) (fun v hv => ?_)
  subst hv
  cases hmn : mnI (ug (L1.map (fun x : En => x.2.2.2.2))) (last + 1) L1.length with
  | none =>
    refine lv_istore S.1 S.2.1 d_HM_dropSoftEntries_27 hl (by decide) rfl (fun ls hl => ?_)
    refine lv_aload_n S.1 S.2.1 d_HM_dropSoftEntries_29 rfl (lv_at hl 4 rfl) ?_
    refine gf_HM_26_HM S K P M.1 rfl d_HM_dropSoftEntries_30 ?_
    refine lv_iload S.1 S.2.1 d_HM_dropSoftEntries_33 (lv_at hl 0 rfl) ?_
    refine so_callR (cv_HM_222_So S hB K E P hS Ms (c_Ro_entryAt_So l hB Ms Mr (by omega) (-1)) rfl (by decide) (Nat.zero_le _) (Nat.zero_le _) hl.1 rfl (Nat.le_of_ble_eq_true rfl) d_HM_dropSoftEntries_35) (fun v hv => ?_)
    subst hv
    rw [atI_neg (by decide)]
    refine lv_astoreQ (r := none) S.1 S.2.1 d_HM_dropSoftEntries_38 hl (by decide) rfl (fun ls hl => ?_)
    refine lv_aloadQ (r := none) S.1 S.2.1 d_HM_dropSoftEntries_40 (lv_at hl 0 rfl) ?_
    refine lv_ifnonnullQ (r := none) (tgt := 46) S.1 S.2.1 d_HM_dropSoftEntries_42 rfl (fun q h => by cases h) (fun _ => ?_)
    rw [sf_none (show mnI _ _ _ = none by rw [hul]; exact hmn)] at hst
    exact so_vret S hr hlk P hS (Nat.le_refl _) (Nat.le_refl _) ⟨rfl, ⟨Y, L1, ST, rfl, by rw [hst]; exact M, by rw [hst], by rw [hst], by rw [hst]; exact hh, hsb, hL1, hsub⟩, Fr⟩ d_HM_dropSoftEntries_45
  | some b =>
    have hb := mn_some hmn
    obtain ⟨en, hen⟩ : ∃ en, L1[b]? = some en := ⟨_, List.getElem?_eq_getElem hb.1⟩
    have heg : L1[b] = en := Option.some.inj ((List.getElem?_eq_getElem hb.1).symm.trans hen)
    have hem := List.mem_of_getElem? hen
    have heu : ug (L1.map (fun x : En => x.2.2.2.2)) b = en.2.2.2.2 := by rw [hugl b hb.1, heg]
    have hee := Mr.2 en hem
    have hu1 := hus en (hsub en hem)
    obtain ⟨hv1, hv2⟩ := hvl en (hsub en hem)
    have hmn2 : mnI (ug (L1.map (fun x : En => x.2.2.2.2))) (last + 1) (L1.map (fun x : En => x.2.2.2.2)).length = some b := by rw [hul]; exact hmn
    have hkv : (L1.map (fun x : En => (x.2.1, x.2.2.2.1)))[b]? = some (en.2.1, en.2.2.2.1) := by rw [List.getElem?_map, hen]; rfl
    refine lv_istore S.1 S.2.1 d_HM_dropSoftEntries_27 hl (by decide) rfl (fun ls hl => ?_)
    refine lv_aload_n S.1 S.2.1 d_HM_dropSoftEntries_29 rfl (lv_at hl 4 rfl) ?_
    refine gf_HM_26_HM S K P M.1 rfl d_HM_dropSoftEntries_30 ?_
    refine lv_iload S.1 S.2.1 d_HM_dropSoftEntries_33 (lv_at hl 0 rfl) ?_
    refine so_callR (cv_HM_222_So S hB K E P hS Ms (c_Ro_entryAt_So l hB Ms Mr (by omega) (nI b)) rfl (by decide) (Nat.zero_le _) (Nat.zero_le _) hl.1 rfl (Nat.le_of_ble_eq_true rfl) d_HM_dropSoftEntries_35) (fun v hv => ?_)
    subst hv
    rw [atI_o (by omega) (by omega), hen]
    refine lv_astoreQ (r := some en.1) S.1 S.2.1 d_HM_dropSoftEntries_38 hl (by decide) rfl (fun ls hl => ?_)
    refine lv_aloadQ (r := some en.1) S.1 S.2.1 d_HM_dropSoftEntries_40 (lv_at hl 0 rfl) ?_
    refine lv_ifnonnullQ (r := some en.1) (tgt := 46) S.1 S.2.1 d_HM_dropSoftEntries_42 rfl (fun q h => ?_) (fun h => by cases h)
    cases h
    refine lv_aloadQ (r := some en.1) S.1 S.2.1 d_HM_dropSoftEntries_46 (lv_at hl 0 rfl) ?_
    refine gf_HM_223_En S K P hee.2 rfl d_HM_dropSoftEntries_48 ?_
    refine lv_istore_n S.1 S.2.1 d_HM_dropSoftEntries_51 rfl hl (by decide) rfl (fun ls hl => ?_)
    have hl : lv_has ls 7 [(3, .int (nI en.2.2.2.2)), (6, va_rf (some en.1)), (5, .int (nI b)), (4, .int (nI i)), (2, .int (nI n)), (0, .ref hm), (1, .int (nI pat))] := hl
    have hold : ¬ (Sc en.2.2.2.1 = false ∧ pat ≤ tm - en.2.2.2.2) → W p l e (so_rm 5 0 0) s m #[.ref hm, .int (nI pat)] below meth c H locs 0 0 (MQ below (so_Q s0 D vcl (fun v σ1 => v = none ∧ (∃ X1 L1 st, st = ST ∧ HMR ca DE σ1 hm B X1 (k.1, va_up k.2.1 1 st.2.2.2, k.2.2) bk tm (va_up L 1 L1) sl ∧ L1.map (fun x => (x.2.1, x.2.2.2.1)) = st.1 ∧ L1.map (fun x => x.2.2.2.2) = st.2.1 ∧ hdR X1 o st.2.2.1 ∧ sbM X X1 ∧ L1.length ≤ 32 ∧ ∀ x ∈ L1, x ∈ L 1) ∧ fT tC σ σ1)) #[.ref hm, .int (nI pat)] s 0 0 (so_A s0.heap.size)) (F0 m 96 ls []) := by
      intro hno
      refine lv_aload_n S.1 S.2.1 d_HM_dropSoftEntries_96 rfl (lv_at hl 5 rfl) ?_
      refine gf_HM_10_HM S K P M.1 rfl d_HM_dropSoftEntries_97 ?_
      refine lv_aloadQ (r := some en.1) S.1 S.2.1 d_HM_dropSoftEntries_100 (lv_at hl 1 rfl) ?_
      refine gf_HM_131_En S K P hee.2 rfl d_HM_dropSoftEntries_102 ?_
      refine so_call (cv_HM_215_He S hB K E P hS M.2.2.1.1 (c_He_hold l hB M.2.2.1 hG hcl (nI en.2.2.2.1)) rfl (by decide) (Nat.le_refl _) (Nat.le_refl _) hl.1 rfl (Nat.le_of_ble_eq_true rfl) d_HM_dropSoftEntries_105) hS (fun v σ4 H locs hv P hS => ?_)
      obtain ⟨X4, ⟨rfl, G4, h4⟩, M4, F4⟩ := hv
      refine lv_iinc (k := 3) S.1 S.2.1 d_HM_dropSoftEntries_108 hl rfl rfl (by decide) rfl (fun ls hl => ?_)
      refine lv_goto (tgt := 13) S.1 S.2.1 d_HM_dropSoftEntries_111 rfl ?_
      rw [nI_a] at hl
      rw [sf_hold hmn2 hkv (by show ¬ (Sc en.2.2.2.1 = false ∧ pat ≤ tm - ug _ b); rw [heu]; exact hno)] at hst
      simp only [heu] at hst
      exact ih (n - (i + 1)) ls H locs σ4 (i + 1, en.2.2.2.2, X4, L1, clF o.2.2.2 (sH Sc (some en.2.2.2.1)), br, G4) (by omega) ⟨rfl, by show i + 1 ≤ n; omega, hu1, lv_sub hl [0, 1, 4, 5, 6] rfl, P, hS, M.agH F4 M4, hh.hold soY hO hG hcl h4 hv1 hv2, ⟨h4.1, h4.2.1.ct.mpr h4.2.2.1⟩, hsb.tr h4.2.1, hsub, hL1, hst, Fr.tr ((show fT tH σ3 σ4 from F4).mono tC_H)⟩
    refine lv_aload_n S.1 S.2.1 d_HM_dropSoftEntries_52 rfl (lv_at hl 5 rfl) ?_
    refine gf_HM_10_HM S K P M.1 rfl d_HM_dropSoftEntries_53 ?_
    refine lv_aloadQ (r := some en.1) S.1 S.2.1 d_HM_dropSoftEntries_56 (lv_at hl 1 rfl) ?_
    refine gf_HM_131_En S K P hee.2 rfl d_HM_dropSoftEntries_58 ?_
    refine so_callR (cv_HM_225_He S hB K E P hS M.2.2.1.1 (c_He_isHeld l hB M.2.2.1 (nI en.2.2.2.1)) rfl (by decide) (Nat.zero_le _) (Nat.zero_le _) hl.1 rfl (Nat.le_of_ble_eq_true rfl) d_HM_dropSoftEntries_61) (fun v hv => ?_)
    subst hv
    rw [hI_hd soY hh hv1 hv2]
    refine lv_if_ne (tgt := 96) S.1 S.2.1 d_HM_dropSoftEntries_64 rfl (fun h64 => ?_) (fun h64 => ?_)
    · exact hold (fun z => by rw [z.1] at h64; exact absurd rfl h64)
    have hSc : Sc en.2.2.2.1 = false := (bI_0 _).mp h64
    refine lv_aload_n S.1 S.2.1 d_HM_dropSoftEntries_67 rfl (lv_at hl 5 rfl) ?_
    refine gf_HM_26_HM S K P M.1 rfl d_HM_dropSoftEntries_68 ?_
    refine gf_HM_202_So S K P Ms rfl d_HM_dropSoftEntries_71 ?_
    refine lv_aloadQ (r := some en.1) S.1 S.2.1 d_HM_dropSoftEntries_74 (lv_at hl 1 rfl) ?_
    refine gf_HM_223_En S K P hee.2 rfl d_HM_dropSoftEntries_76 ?_
    refine lv_isub S.1 S.2.1 d_HM_dropSoftEntries_79 ?_
    rw [nI_sb hu1]
    refine lv_iload_n S.1 S.2.1 d_HM_dropSoftEntries_80 rfl (lv_at hl 6 rfl) ?_
    refine lv_icmp_lt (tgt := 96) S.1 S.2.1 d_HM_dropSoftEntries_81 rfl (fun h81 => ?_) (fun h81 => ?_)
    · exact hold (fun z => absurd h81 (nI_nlt z.2 (by omega)))
    have hpt : pat ≤ tm - en.2.2.2.2 := Nat.not_lt.mp fun z => h81 (nI_lt z (by omega))
    refine lv_aload_n S.1 S.2.1 d_HM_dropSoftEntries_84 rfl (lv_at hl 5 rfl) ?_
    refine gf_HM_26_HM S K P M.1 rfl d_HM_dropSoftEntries_85 ?_
    refine lv_iload S.1 S.2.1 d_HM_dropSoftEntries_88 (lv_at hl 2 rfl) ?_
    refine so_call (cv_HM_228_So S hB K E P hS Ms (c_Ro_dropAt_So l hB Ms Mr (by omega) b hb.1) rfl (by decide) (Nat.le_refl _) (Nat.le_refl _) hl.1 rfl (Nat.le_of_ble_eq_true rfl) d_HM_dropSoftEntries_90) hS (fun v σ4 H locs hv P hS => ?_)
    obtain ⟨rfl, g0, g1, F4⟩ := hv
    have F4 := F4.mono (tR_M (k := 1))
    refine lv_goto (tgt := 108) S.1 S.2.1 d_HM_dropSoftEntries_93 rfl ?_
    refine lv_iinc (k := 3) S.1 S.2.1 d_HM_dropSoftEntries_108 hl rfl rfl (by decide) rfl (fun ls hl => ?_)
    refine lv_goto (tgt := 13) S.1 S.2.1 d_HM_dropSoftEntries_111 rfl ?_
    rw [nI_a] at hl
    rw [sf_drop hmn2 hkv hSc (by show pat ≤ tm - ug _ b; rw [heu]; exact hpt)] at hst
    simp only [heu] at hst
    have M4 : CmR ca DE σ4 B.A (k.1, va_up k.2.1 1 true, k.2.2) bk tm (va_up L 1 (L1.eraseIdx b)) sl := ⟨M.2.2.2.1.ag (F4.ag (fun t h => tM_ne (by decide) (by decide) (by decide) h)), ⟨g0, g1⟩, M.2.2.2.2.2.1.ag (F4.ag (fun t h => tM_ne (by decide) (by decide) (by decide) h)), M.2.2.2.2.2.2.1.ag (F4.ag (fun t h => tM_ne (by decide) (by decide) (by decide) h)), M.2.2.2.2.2.2.2.ag (F4.ag (fun t h => tM_ne (by decide) (by decide) (by decide) h))⟩
    refine ih (n - (i + 1)) ls H locs σ4 (i + 1, en.2.2.2.2, Y, L1.eraseIdx b, Sc, true, G) (by omega) ⟨rfl, by show i + 1 ≤ n; omega, hu1, lv_sub hl [0, 1, 4, 5, 6] rfl, P, hS, M.agT (by decide) F4 M4, hh, ⟨hG, hcl⟩, hsb, fun x hx => hsub x (List.mem_of_mem_eraseIdx hx), by show (L1.eraseIdx b).length ≤ 32; rw [List.length_eraseIdx_of_lt hb.1]; omega, ?_, Fr.tr (F4.mono (tC_M (by decide)))⟩
    rw [hst]
    show sfM _ _ _ _ _ (_, _, _, _) = sfM _ _ _ _ _ ((L1.eraseIdx b).map _, (L1.eraseIdx b).map _, _, _)
    rw [map_er, map_er]

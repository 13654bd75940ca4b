/-! HoldMaps: put. -/
def stL (j : Nat) (en2 : En) (L : Nat → List En) : Nat → Nat → List En
  | 2 => L
  | mp => va_up L mp ((L mp).set j en2)
theorem fiM_no {L : List En} {mk : Nat} (h : fiM L mk = none) : ∀ x ∈ L, x.2.2.1 ≠ mk := fun x hx => by
  unfold fiM at h
  rw [List.findIdx?_eq_none_iff] at h
  exact of_decide_eq_false (h x hx)
theorem unM_set {L : List En} {j : Nat} {en en2 : En} (hU : unM L) (hj : L[j]? = some en) (h2 : en2.2.2.1 = en.2.2.1) : unM (L.set j en2) := by
  have key : ∀ (i : Nat) (a : En), (L.set j en2)[i]? = some a → ∃ b, L[i]? = some b ∧ b.2.2.1 = a.2.2.1 := by
    intro i a h
    rw [List.getElem?_set] at h
    split at h
    · rename_i e1
      subst e1
      split at h
      · cases h; exact ⟨en, hj, h2.symm⟩
      · cases h
    · exact ⟨a, h, rfl⟩
  intro i i2 a b ha hb hab
  obtain ⟨a', h1, h3⟩ := key i a ha
  obtain ⟨b', h4, h5⟩ := key i2 b hb
  exact hU i i2 a' b' h1 h4 (by rw [h3, h5]; exact hab)
theorem stL_len {L : Nat → List En} {j : Nat} {en2 : En} {mp : Nat} (hLn : ∀ i, (L i).length ≤ 32) : ∀ i, (stL j en2 L mp i).length ≤ 32 := by
  intro i
  have h0 : ∀ mp, (va_up L mp ((L mp).set j en2) i).length ≤ 32 := fun mp => by
    unfold va_up
    split
    · rw [List.length_set]; exact hLn _
    · exact hLn i
  rcases mp with _ | _ | _ | mp
  · exact h0 0
  · exact h0 1
  · exact hLn i
  · exact h0 (mp + 3)
theorem tM_e {mp mk : Nat} (h : mk < 1000) : tM mp (1000 * (mp + 1) + mk) := Or.inr (Or.inr (Or.inr (Or.inr (Or.inr ⟨by omega, by omega⟩))))
theorem CmR.upd {ca : Nat → ClassId} {DE : Nat} {σ : so_S} {A : Ax} {k : Wks} {bk tm : Nat} {L : Nat → List En} {sl : Nat → Option En} {mp j : Nat} {en en2 : En} (M : CmR ca DE σ A k bk tm L sl) (hmp : mp < 5) (hj : (lsE L sl mp)[j]? = some en) (hUM : mp ≠ 2 → unM (L mp)) (hUI : ∀ s t a b, s < 16 → t < 16 → sl s = some a → sl t = some b → a.2.2.1 = b.2.2.1 → s = t) (h1 : en2.1 = en.1) (h2 : en2.2.2.1 = en.2.2.1) :
    ∃ sl', (mp ≠ 2 → sl' = sl) ∧ (mp = 2 → ∃ u, u < 16 ∧ sl u = some en ∧ cn sl u = j ∧ sl' = va_up sl u (some en2)) ∧ CmR ca DE (so_up σ en.1 (1000 * (mp + 1) + en.2.2.1, oE en2)) A k bk tm (stL j en2 L mp) sl' ∧ fT (tM mp) σ (so_up σ en.1 (1000 * (mp + 1) + en.2.2.1, oE en2)) ∧ (lsE (stL j en2 L mp) sl' mp)[j]? = some en2 := by
  have row : ∀ {L0 : List En}, L0[j]? = some en → (L0.set j en2)[j]? = some en2 := fun h => by rw [List.getElem?_set_self (List.getElem?_eq_some_iff.mp h).1]
  rcases mp with _ | _ | _ | _ | _ | mp
  · have hj : (L 0)[j]? = some en := hj
    have he := M.1.2.1.2 en (List.mem_of_getElem? hj)
    have Fr : fT (tM 0) σ (so_up σ en.1 (1000 * (0 + 1) + en.2.2.1, oE en2)) := fT.rf.up he.2 (tM_e he.1)
    refine ⟨sl, fun _ => rfl, fun h => absurd h (by decide), ⟨⟨?c, M.1.2.1.upd (by decide) hj (hUM (by decide)) h1 h2, M.1.2.2.imp (fun Lm z => z.fr (ag_up he.2 (fun z => by rcases z with z | z <;> (simp only at z; omega))))⟩, M.2.1.ag (Fr.ag (fun t h => tM_ne (by decide) (by decide) (by decide) h)), M.2.2.1.ag (Fr.ag (fun t h => tM_ne (by decide) (by decide) (by decide) h)), M.2.2.2.1.ag (Fr.ag (fun t h => tM_ne (by decide) (by decide) (by decide) h)), M.2.2.2.2.ag (Fr.ag (fun t h => tM_ne (by decide) (by decide) (by decide) h))⟩, Fr, row hj⟩
    case c =>
      rw [so_un (so_ne M.1.1 he.2 (show 10 ≠ 1000 * (0 + 1) + en.2.2.1 by omega))]
      exact M.1.1
  · have hj : (L 1)[j]? = some en := hj
    have he := M.2.1.2.2 en (List.mem_of_getElem? hj)
    have Fr : fT (tM 1) σ (so_up σ en.1 (1000 * (1 + 1) + en.2.2.1, oE en2)) := fT.rf.up he.2 (tM_e he.1)
    refine ⟨sl, fun _ => rfl, fun h => absurd h (by decide), ⟨M.1.ag (Fr.ag (fun t h => tM_ne (by decide) (by decide) (by decide) h)), ⟨?c, M.2.1.2.upd (by decide) hj (hUM (by decide)) h1 h2⟩, M.2.2.1.ag (Fr.ag (fun t h => tM_ne (by decide) (by decide) (by decide) h)), M.2.2.2.1.ag (Fr.ag (fun t h => tM_ne (by decide) (by decide) (by decide) h)), M.2.2.2.2.ag (Fr.ag (fun t h => tM_ne (by decide) (by decide) (by decide) h))⟩, Fr, row hj⟩
    case c =>
      rw [so_un (so_ne M.2.1.1 he.2 (show 11 ≠ 1000 * (1 + 1) + en.2.2.1 by omega))]
      exact M.2.1.1
  · obtain ⟨u, hu, hs, hcu⟩ := id_at hj
    have he := M.2.2.1.2.2 u hu en hs
    have Fr : fT (tM 2) σ (so_up σ en.1 (1000 * (2 + 1) + en.2.2.1, oE en2)) := fT.rf.up he.2 (tM_e he.1)
    refine ⟨va_up sl u (some en2), fun h => absurd rfl h, fun _ => ⟨u, hu, hs, hcu, rfl⟩, ⟨M.1.ag (Fr.ag (fun t h => tM_ne (by decide) (by decide) (by decide) h)), M.2.1.ag (Fr.ag (fun t h => tM_ne (by decide) (by decide) (by decide) h)), ⟨?c, ?d, ?g⟩, M.2.2.2.1.ag (Fr.ag (fun t h => tM_ne (by decide) (by decide) (by decide) h)), M.2.2.2.2.ag (Fr.ag (fun t h => tM_ne (by decide) (by decide) (by decide) h))⟩, Fr, ?_⟩
    case c =>
      rw [so_un (so_ne M.2.2.1.1 he.2 (show 12 ≠ 1000 * (2 + 1) + en.2.2.1 by omega)), cn_same hs 16]
      exact M.2.2.1.1
    case d =>
      rw [so_un (so_ne M.2.2.1.2.1 he.2 (show 32 ≠ 1000 * (2 + 1) + en.2.2.1 by omega)), M.2.2.1.2.1, ad_up]
      have e2 : va_up (fun j => (sl j).map (fun y : En => y.1)) u ((some en2).map (fun y : En => y.1)) = fun j => (sl j).map (fun y : En => y.1) := by
        funext z
        unfold va_up
        split
        · rename_i e3
          rw [e3, hs]
          show some en2.1 = some en.1
          rw [h1]
        · rfl
      rw [e2]
    case g =>
      intro z hz x hx
      unfold va_up at hx
      split at hx
      · cases hx
        exact ⟨by rw [h2]; exact he.1, by rw [h1, so_us, h2]⟩
      · rename_i e3
        have hx2 := M.2.2.1.2.2 z hz x hx
        refine ⟨hx2.1, ?_⟩
        rw [so_un (so_ne hx2.2 he.2 (show 1000 * (2 + 1) + x.2.2.1 ≠ 1000 * (2 + 1) + en.2.2.1 from fun q => e3 (hUI z u x en hz hu hx hs (by omega))))]
        exact hx2.2
    show (idN (va_up sl u (some en2)) 16)[j]? = some en2
    have e1 : cn (va_up sl u (some en2)) u = j := by rw [cn_out (Nat.le_refl _)]; exact hcu
    rw [← e1]
    exact idN_at (va_up_self _ _ _) hu
  · have hj : (L 3)[j]? = some en := hj
    have he := M.2.2.2.1.2.2 en (List.mem_of_getElem? hj)
    have Fr : fT (tM 3) σ (so_up σ en.1 (1000 * (3 + 1) + en.2.2.1, oE en2)) := fT.rf.up he.2 (tM_e he.1)
    refine ⟨sl, fun _ => rfl, fun h => absurd h (by decide), ⟨M.1.ag (Fr.ag (fun t h => tM_ne (by decide) (by decide) (by decide) h)), M.2.1.ag (Fr.ag (fun t h => tM_ne (by decide) (by decide) (by decide) h)), M.2.2.1.ag (Fr.ag (fun t h => tM_ne (by decide) (by decide) (by decide) h)), ⟨?c, M.2.2.2.1.2.upd (by decide) hj (hUM (by decide)) h1 h2⟩, M.2.2.2.2.ag (Fr.ag (fun t h => tM_ne (by decide) (by decide) (by decide) h))⟩, Fr, row hj⟩
    case c =>
      rw [so_un (so_ne M.2.2.2.1.1 he.2 (show 13 ≠ 1000 * (3 + 1) + en.2.2.1 by omega))]
      exact M.2.2.2.1.1
  · have hj : (L 4)[j]? = some en := hj
    have he := M.2.2.2.2.2.2 en (List.mem_of_getElem? hj)
    have Fr : fT (tM 4) σ (so_up σ en.1 (1000 * (4 + 1) + en.2.2.1, oE en2)) := fT.rf.up he.2 (tM_e he.1)
    refine ⟨sl, fun _ => rfl, fun h => absurd h (by decide), ⟨M.1.ag (Fr.ag (fun t h => tM_ne (by decide) (by decide) (by decide) h)), M.2.1.ag (Fr.ag (fun t h => tM_ne (by decide) (by decide) (by decide) h)), M.2.2.1.ag (Fr.ag (fun t h => tM_ne (by decide) (by decide) (by decide) h)), M.2.2.2.1.ag (Fr.ag (fun t h => tM_ne (by decide) (by decide) (by decide) h)), ⟨?c, M.2.2.2.2.2.upd (by decide) hj (hUM (by decide)) h1 h2⟩⟩, Fr, row hj⟩
    case c =>
      rw [so_un (so_ne M.2.2.2.2.1 he.2 (show 14 ≠ 1000 * (4 + 1) + en.2.2.1 by omega))]
      exact M.2.2.2.2.1
  · omega
set_option maxHeartbeats 400000 in
set_option maxRecDepth 100000 in
theorem c_HM_put (l : Launch) {s0 : State} {D : va_G} {ca : Nat → ClassId} (hB : so_B tbl s0 D vcl (tyl ca)) {σ : so_S} (hX : exX l s0) {DE hm : Nat} {B : Bx} {X : Hx} {k : Wks} {bk tm : Nat} {L : Nat → List En} {sl : Nat → Option En} {o : Obs} (M : HMR ca DE σ hm B X k bk tm L sl) (so1 : simO X o) (hv100 : ∀ i, i < 32 → o.1 i = true → o.2.1 i < 100) (hLn : ∀ i, (L i).length ≤ 32) {mi : Nat} (J : jX s0 D ca DE mi) (hbk : bk < 1000) (hUM : ∀ mp, mp < 5 → mp ≠ 2 → unM (L mp)) (hUI : ∀ s t a b, s < 16 → t < 16 → sl s = some a → sl t = some b → a.2.2.1 = b.2.2.1 → s = t) (hky3 : ∀ x ∈ L 3, x.2.1 < 100) (x kx vx : Int32) : so_T l s0 D vcl y_HM_put b_HM_put 10 (some .int) 9 82 5188 [.ref hm, .int x, .int kx, .int vx] σ (fun v σ1 => (∃ mp key val, mp < 5 ∧ key < 32 ∧ val < 32 ∧ x = nI mp ∧ kx = nI key ∧ vx = nI val ∧ o.1 key = true ∧ o.1 val = true ∧ po_O o x kx vx = true ∧ ((fiM (lsE L sl mp) (mkN mp key (o.2.1 key)) = none ∧ (mp = 2 → cn sl 16 < 12) ∧ v = some (.int (-1)) ∧ ∃ a L' sl' bk', adE bk (tkT mp tm) L sl (a, kyN mp key (o.2.1 key), mkN mp key (o.2.1 key), val, 0) L' sl' bk' mp ∧ HMR ca DE σ1 hm B X (wkB k mp) bk' (tkT mp tm) L' sl') ∨ ∃ j en sl', fiM (lsE L sl mp) (mkN mp key (o.2.1 key)) = some j ∧ (lsE L sl mp)[j]? = some en ∧ v = some (.int (nI en.2.2.2.1)) ∧ (mp ≠ 2 → sl' = sl) ∧ (mp = 2 → ∃ u, u < 16 ∧ sl u = some en ∧ cn sl u = j ∧ sl' = va_up sl u (some (en.1, en.2.1, en.2.2.1, val, en.2.2.2.2))) ∧ HMR ca DE σ1 hm B X (usK j (stL j (en.1, en.2.1, en.2.2.1, val, en.2.2.2.2) L mp) k mp) bk (tkT mp tm) (usL (tkT mp tm) j (en.1, en.2.1, en.2.2.1, val, en.2.2.2.2) (stL j (en.1, en.2.1, en.2.2.1, val, en.2.2.2.2) L mp) mp) sl')) ∧ fT tC σ σ1) (fun C => (C = xA ∧ po_O o x kx vx = false) ∨ (C = xS ∧ ∃ key, key < 32 ∧ x = nI 2 ∧ kx = nI key ∧ o.1 key = true ∧ po_O o x kx vx = true ∧ fiM (idN sl 16) key = none ∧ 12 ≤ cn sl 16)) := by
  refine so_ofT hB (by decide) (Nat.le_of_ble_eq_true rfl) ?_
  intro p e s m below meth c ls S K E hr hlk hex P hS hl
  have hl : lv_has ls 10 [(0, .ref hm), (1, .int x), (2, .int kx), (3, .int vx)] := hl
  obtain ⟨f, hf1, hf2⟩ := M.2.1
  refine lv_aload_n S.1 S.2.1 d_HM_put_0 rfl (lv_at hl 0 rfl) ?_
  refine lv_iload_n S.1 S.2.1 d_HM_put_1 rfl (lv_at hl 1 rfl) ?_
  refine lv_iload_n S.1 S.2.1 d_HM_put_2 rfl (lv_at hl 2 rfl) ?_
  refine so_callR (cv_HM_88_HM S hB K E P hS M.1 (c_HM_isKeyOf l hB M so1 hv100 x kx) rfl (by decide) (Nat.zero_le _) (Nat.zero_le _) hl.1 rfl (Nat.le_of_ble_eq_true rfl) d_HM_put_3) (fun v hv => ?_)
  subst hv
  refine lv_if_eq (tgt := 20) S.1 S.2.1 d_HM_put_6 rfl (fun h6 => ?_) (fun h6 => ?_)
  · exact thr_A S E hX hex hlk hl.1 P (tx := "no such map, key or value") (by decide +kernel) (Or.inl ⟨rfl, by unfold po_O; rw [(bI_0 _).mp h6, Bool.false_and]⟩) (by decide) (by decide) (by decide) (Nat.le_of_ble_eq_true rfl) d_HM_put_20 d_HM_put_23 d_HM_put_24 d_HM_put_26 d_HM_put_29
  · refine lv_aload_n S.1 S.2.1 d_HM_put_9 rfl (lv_at hl 0 rfl) ?_
    refine gf_HM_10_HM S K P M.1 rfl d_HM_put_10 ?_
    refine lv_iload_n S.1 S.2.1 d_HM_put_13 rfl (lv_at hl 3 rfl) ?_
    refine so_callR (cv_HM_70_He S hB K E P hS M.2.2.1.1 (c_He_has l hB M.2.2.1.1 M.2.2.1.2.1 vx) rfl (by decide) (Nat.zero_le _) (Nat.zero_le _) hl.1 rfl (Nat.le_of_ble_eq_true rfl) d_HM_put_14) (fun v hv => ?_)
    subst hv
    rw [has_al so1]
    refine lv_if_ne (tgt := 30) S.1 S.2.1 d_HM_put_17 rfl (fun h17 => ?_) (fun h17 => ?_)
    · have hG : gk_O o x kx = true := by
        cases hq : gk_O o x kx with
        | true => rfl
        | false => rw [hq] at h6; exact absurd rfl h6
      have hV : al_O o vx = true := by
        cases hq : al_O o vx with
        | true => rfl
        | false => rw [hq] at h17; exact absurd rfl h17
      have hO : po_O o x kx vx = true := by unfold po_O; rw [hG, hV]; rfl
      obtain ⟨mp, key, hmp, rfl, hkey, rfl, hal⟩ := gk_c hG
      obtain ⟨a, ad, af, a1, a2⟩ := so1.thing M.2.2.1 hkey hal
      have hva := hv100 key hkey hal
      have hmk := mkN_lt hmp hkey hva
      have hln := lsE_len (sl := sl) hLn mp
      obtain ⟨val, hval, rfl, hvl⟩ := al_cases hV
      have hkyl : kyN mp key (o.2.1 key) < 100 := lt5 (P := fun mp => kyN mp key (o.2.1 key) < 100) hmp (show key < 100 by omega) (show key < 100 by omega) (show key < 100 by omega) hva (show key < 100 by omega)
      refine lv_aload_n S.1 S.2.1 d_HM_put_30 rfl (lv_at hl 0 rfl) ?_
      refine gf_HM_32_HM S K P M.1 rfl d_HM_put_31 ?_
      refine lv_iload_n S.1 S.2.1 d_HM_put_34 rfl (lv_at hl 1 rfl) ?_
      refine so_aaldN S K P hf1 4 rfl hmp (by decide) d_HM_put_35 ?_
      rw [hf2 mp hmp]
      show W p l e _ s m _ below meth c _ _ _ _ _ (F0 m _ ls (.ref (B.A.1 mp) :: _))
      refine lv_astore S.1 S.2.1 d_HM_put_36 hl (by decide) rfl (fun ls hl => ?_)
      refine lv_aload_n S.1 S.2.1 d_HM_put_38 rfl (lv_at hl 1 rfl) ?_
      refine gf_HM_10_HM S K P M.1 rfl d_HM_put_39 ?_
      refine gf_HM_61_He S K P M.2.2.1.1 rfl d_HM_put_42 ?_
      refine lv_iload_n S.1 S.2.1 d_HM_put_45 rfl (lv_at hl 3 rfl) ?_
      refine so_aaldN S K P M.2.2.1.2.1 3 rfl hkey (by decide) d_HM_put_46 ?_
      rw [af]
      show W p l e _ s m _ below meth c _ _ _ _ _ (F0 m _ ls (.ref a.1 :: _))
      refine gf_HM_94_Th S K P a1 rfl d_HM_put_47 ?_
      refine lv_istore S.1 S.2.1 d_HM_put_50 hl (by decide) rfl (fun ls hl => ?_)
      refine lv_aload S.1 S.2.1 d_HM_put_52 (lv_at hl 1 rfl) ?_
      refine lv_iload_n S.1 S.2.1 d_HM_put_54 rfl (lv_at hl 4 rfl) ?_
      refine lv_iload S.1 S.2.1 d_HM_put_55 (lv_at hl 0 rfl) ?_
      refine so_callR (hm_mark S hB K E P hS M.2.2.2 hmp (nI key) (nI (o.2.1 key)) (by decide) (Nat.zero_le _) (Nat.zero_le _) hl.1 (Nat.le_of_ble_eq_true rfl) d_HM_put_57) (fun v hv2 => ?_)
      subst hv2
      rw [mkN_I hmp]
      refine lv_istore S.1 S.2.1 d_HM_put_60 hl (by decide) rfl (fun ls hl => ?_)
      refine lv_aload S.1 S.2.1 d_HM_put_62 (lv_at hl 2 rfl) ?_
      refine lv_iload S.1 S.2.1 d_HM_put_64 (lv_at hl 0 rfl) ?_
      refine so_callR (hm_find S hB K E P hS M.2.2.2 hmp hLn (mkN mp key (o.2.1 key)) hmk (by decide) (Nat.zero_le _) (Nat.zero_le _) hl.1 (Nat.le_of_ble_eq_true rfl) d_HM_put_66) (fun v hv2 => ?_)
      subst hv2
      cases hfi : fiM (lsE L sl mp) (mkN mp key (o.2.1 key))
      · refine lv_istore S.1 S.2.1 d_HM_put_69 hl (by decide) rfl (fun ls hl => ?_)
        refine lv_aload S.1 S.2.1 d_HM_put_71 (lv_at hl 3 rfl) ?_
        refine lv_iload S.1 S.2.1 d_HM_put_73 (lv_at hl 0 rfl) ?_
        refine so_callR (hm_ent S hB K E P hS M.2.2.2 hmp hLn (-1) (by decide) (Nat.zero_le _) (Nat.zero_le _) hl.1 (Nat.le_of_ble_eq_true rfl) d_HM_put_75) (fun v hv2 => ?_)
        subst hv2
        rw [atI_neg (by decide)]
        refine lv_astoreQ (r := none) S.1 S.2.1 d_HM_put_78 hl (by decide) rfl (fun ls hl => ?_)
        refine lv_aloadQ (r := none) S.1 S.2.1 d_HM_put_80 (lv_at hl 0 rfl) ?_
        refine lv_ifnonnullQ (r := none) (tgt := 103) S.1 S.2.1 d_HM_put_82 rfl (fun q h => by cases h) (fun _ => ?_)
        refine lv_aload S.1 S.2.1 d_HM_put_85 (lv_at hl 4 rfl) ?_
        refine so_callR (hm_full S hB K E P hS M.2.2.2 hmp (by decide) (Nat.zero_le _) (Nat.zero_le _) hl.1 (Nat.le_of_ble_eq_true rfl) d_HM_put_87) (fun v hv2 => ?_)
        subst hv2
        refine lv_if_eq (tgt := 103) S.1 S.2.1 d_HM_put_90 rfl (fun h90 => ?_) (fun h90 => ?_)
        · have hnf : mp = 2 → cn sl 16 < 12 := fun e2 => by
            subst e2
            have h5 : fuB sl 2 = false := (bI_0 _).mp h90
            exact Nat.not_le.mp (of_decide_eq_false h5)
          refine lv_aload S.1 S.2.1 d_HM_put_103 (lv_at hl 4 rfl) ?_
          refine so_call (hm_tick S hB K E P hS M.2.2.2 hmp (by decide) (by decide) (by decide) hl.1 (Nat.le_of_ble_eq_true rfl) d_HM_put_105) hS (fun v σ1 H locs hv P hS => ?_)
          obtain ⟨rfl, Mt, F1⟩ := hv
          have M1 := M.agT hmp F1 Mt
          refine lv_aloadQ (r := none) S.1 S.2.1 d_HM_put_108 (lv_at hl 0 rfl) ?_
          refine lv_ifnonnullQ (r := none) (tgt := 138) S.1 S.2.1 d_HM_put_110 rfl (fun q h => by cases h) (fun _ => ?_)
          refine lv_aload S.1 S.2.1 d_HM_put_113 (lv_at hl 4 rfl) ?_
          refine so_new (ci := 3) (1000 * (mp + 1) + mkN mp key (o.2.1 key)) S K P hS E.2.1 i_En t_En t_En_ok (S.2.2.2.2 _ wd_481) (S.2.2.2.2 _ wd_482) (S.2.2.2.2 _ wd_22) rfl (fs := [.int 0, .int 0, .int 0, .int 0]) (fun j hj => by rcases j with _ | _ | _ | _ | j <;> first | rfl | omega) (by show _ ≤ _; decide) (by show _ ≤ _; decide) d_HM_put_115 (fun t H ht P hS => ?_)
          obtain ⟨σ2, hσ2⟩ : ∃ z, z = so_up σ1 t (1000 * (mp + 1) + mkN mp key (o.2.1 key), .inr (3, [.int 0, .int 0, .int 0, .int 0])) := ⟨_, rfl⟩
          have P : so_P D vcl s0.heap.size σ2 H := by rw [hσ2]; exact P
          have F2 : fT (tM mp) σ1 σ2 := by rw [hσ2]; exact fT.rf.nw ht
          have k0 : σ2 t = some (1000 * (mp + 1) + mkN mp key (o.2.1 key), .inr (3, [.int 0, .int 0, .int 0, .int 0])) := by rw [hσ2]; exact so_us
          have M2 : CmR ca DE σ2 B.A k bk (tkT mp tm) L sl := by rw [hσ2]; exact Mt.ag (ag_nw ht)
          refine lv_dup S.1 S.2.1 d_HM_put_118 rfl ?_
          refine lv_aload S.1 S.2.1 d_HM_put_119 (lv_at hl 4 rfl) ?_
          refine lv_iload_n S.1 S.2.1 d_HM_put_121 rfl (lv_at hl 7 rfl) ?_
          refine lv_iload S.1 S.2.1 d_HM_put_122 (lv_at hl 3 rfl) ?_
          refine so_callR (hm_keyOf S hB K E P hS M2 hmp (nI key) (nI (o.2.1 key)) (by decide) (by decide) (by decide) hl.1 (Nat.le_of_ble_eq_true rfl) d_HM_put_124) (fun v hv2 => ?_)
          subst hv2
          rw [kyN_I hmp]
          refine lv_iload S.1 S.2.1 d_HM_put_127 (lv_at hl 2 rfl) ?_
          refine lv_iload_n S.1 S.2.1 d_HM_put_129 rfl (lv_at hl 8 rfl) ?_
          refine so_call (ci_HM_124 S hB E P hS (c_En_init l hB k0 (nI (kyN mp key (o.2.1 key))) (nI (mkN mp key (o.2.1 key))) (nI val)) rfl (by decide) (by decide) (by decide) hl.1 rfl (Nat.le_of_ble_eq_true rfl) d_HM_put_130) hS (fun v σ3 H locs hv P hS => ?_)
          obtain ⟨rfl, k1, k2⟩ := hv
          have F3 : fT (tM mp) σ2 σ3 := fun r y h hy => by
            rw [k2 r (fun z => hy (by rw [z, k0] at h; cases h; exact tM_e hmk))]
            exact h
          have M3 : CmR ca DE σ3 B.A k bk (tkT mp tm) L sl := Mt.ag (fun r y h hy => by
            have h5 : σ2 r = some y := by rw [hσ2]; exact ag_nw (P := fun _ => True) ht r y h trivial
            rw [k2 r (fun z => by rw [z, ht] at h; cases h)]
            exact h5)
          have he3 : enT σ3 mp (t, kyN mp key (o.2.1 key), mkN mp key (o.2.1 key), val, 0) := ⟨hmk, k1⟩
          refine so_call (hm_add S hB K E P hS M3 hmp J hLn hbk (t, kyN mp key (o.2.1 key), mkN mp key (o.2.1 key), val, 0) he3 (fiM_no hfi) hkyl hky3 (fun e2 => ?_) (by decide) (by decide) (by decide) hl.1 (Nat.le_of_ble_eq_true rfl) d_HM_put_133) hS (fun v σ4 H locs hv P hS => ?_)
          · subst e2
            refine ⟨hkey, ?_⟩
            obtain ⟨z, hz, hz2⟩ := cn_free (f := sl) (n := 16) (Nat.lt_trans (hnf rfl) (by decide))
            refine ⟨(z + 16 - 7 * key % 16) % 16, Nat.mod_lt _ (by decide), ?_⟩
            show sl ((7 * key % 16 + (z + 16 - 7 * key % 16) % 16) % 16) = none
            have ha := Nat.mod_lt (7 * key) (show 16 > 0 by decide)
            rw [show (7 * key % 16 + (z + 16 - 7 * key % 16) % 16) % 16 = z by omega]
            exact hz2
          obtain ⟨rfl, ⟨L', sl', bk', hadE, M4⟩, F4⟩ := hv
          refine lv_iconst (v := (-1)) S.1 S.2.1 d_HM_put_136 (by decide) ?_
          refine W_imp (fun t h => MQ.toT h) (so_iret S hr hlk P hS (by decide) (by decide) ?_ d_HM_put_137)
          have FF := ((F1.tr F2).tr F3).tr F4
          exact ⟨⟨mp, key, val, hmp, hkey, hval, rfl, rfl, rfl, hal, hvl, hO, Or.inl ⟨hfi, hnf, rfl, t, L', sl', bk', hadE, M.agT hmp FF M4⟩⟩, FF.mono (tC_M hmp)⟩
        · have hfu : fuB sl mp = true := by
            cases hq : fuB sl mp with
            | true => rfl
            | false => rw [hq] at h90; exact absurd rfl h90
          have h2 : mp = 2 ∧ 12 ≤ cn sl 16 := by
            rcases mp with _ | _ | _ | _ | mp
            · cases hfu
            · cases hfu
            · exact ⟨rfl, of_decide_eq_true hfu⟩
            · cases hfu
            · cases hfu
          obtain ⟨rfl, h12⟩ := h2
          exact thr_S S E hX hex hlk hl.1 P (tx := "the map is full") (by decide +kernel) (Or.inr ⟨rfl, key, hkey, rfl, rfl, hal, hO, hfi, h12⟩) (by decide) (by decide) (by decide) (Nat.le_of_ble_eq_true rfl) d_HM_put_93 d_HM_put_96 d_HM_put_97 d_HM_put_99 d_HM_put_102
      · rename_i j
        obtain ⟨en, hen, hem⟩ := fiM_get hfi
        have hjl := (List.getElem?_eq_some_iff.mp hen).1
        refine lv_istore S.1 S.2.1 d_HM_put_69 hl (by decide) rfl (fun ls hl => ?_)
        refine lv_aload S.1 S.2.1 d_HM_put_71 (lv_at hl 3 rfl) ?_
        refine lv_iload S.1 S.2.1 d_HM_put_73 (lv_at hl 0 rfl) ?_
        refine so_callR (hm_ent S hB K E P hS M.2.2.2 hmp hLn (nI j) (by decide) (Nat.zero_le _) (Nat.zero_le _) hl.1 (Nat.le_of_ble_eq_true rfl) d_HM_put_75) (fun v hv2 => ?_)
        subst hv2
        rw [atI_o (by omega) (by omega), hen]
        refine lv_astoreQ (r := some en.1) S.1 S.2.1 d_HM_put_78 hl (by decide) rfl (fun ls hl => ?_)
        refine lv_aloadQ (r := some en.1) S.1 S.2.1 d_HM_put_80 (lv_at hl 0 rfl) ?_
        refine lv_ifnonnullQ (r := some en.1) (tgt := 103) S.1 S.2.1 d_HM_put_82 rfl (fun q h => ?_) (fun h => by cases h)
        cases h
        refine lv_aload S.1 S.2.1 d_HM_put_103 (lv_at hl 4 rfl) ?_
        refine so_call (hm_tick S hB K E P hS M.2.2.2 hmp (by decide) (by decide) (by decide) hl.1 (Nat.le_of_ble_eq_true rfl) d_HM_put_105) hS (fun v σ1 H locs hv P hS => ?_)
        obtain ⟨rfl, Mt, F1⟩ := hv
        have M1 := M.agT hmp F1 Mt
        obtain ⟨sl', hs1, hs2, M2, F2, hen2⟩ := Mt.upd hmp hen (hUM mp hmp) hUI (en2 := (en.1, en.2.1, en.2.2.1, val, en.2.2.2.2)) rfl rfl
        have hee : enT σ1 mp en := by
          rcases mp with _ | _ | _ | _ | _ | mp
          · exact Mt.1.2.1.2 en (List.mem_of_getElem? hen)
          · exact Mt.2.1.2.2 en (List.mem_of_getElem? hen)
          · obtain ⟨u, hu, hs, hcu⟩ := id_at hen
            exact Mt.2.2.1.2.2 u hu en hs
          · exact Mt.2.2.2.1.2.2 en (List.mem_of_getElem? hen)
          · exact Mt.2.2.2.2.2.2 en (List.mem_of_getElem? hen)
          · omega
        refine lv_aloadQ (r := some en.1) S.1 S.2.1 d_HM_put_108 (lv_at hl 0 rfl) ?_
        refine lv_ifnonnullQ (r := some en.1) (tgt := 138) S.1 S.2.1 d_HM_put_110 rfl (fun q h => ?_) (fun h => by cases h)
        cases h
        refine lv_aloadQ (r := some en.1) S.1 S.2.1 d_HM_put_138 (lv_at hl 0 rfl) ?_
        refine gf_HM_131_En S K P hee.2 rfl d_HM_put_140 ?_
        refine lv_istore S.1 S.2.1 d_HM_put_143 hl (by decide) rfl (fun ls hl => ?_)
        refine lv_aloadQ (r := some en.1) S.1 S.2.1 d_HM_put_145 (lv_at hl 1 rfl) ?_
        refine lv_iload_n S.1 S.2.1 d_HM_put_147 rfl (lv_at hl 9 rfl) ?_
        refine pf_HM_131_En S K P hS hee.2 (Nat.le_of_ble_eq_true rfl) rfl rfl d_HM_put_148 (fun H locs P hS => ?_)
        refine lv_aload S.1 S.2.1 d_HM_put_151 (lv_at hl 5 rfl) ?_
        refine lv_iload S.1 S.2.1 d_HM_put_153 (lv_at hl 2 rfl) ?_
        refine so_call (hm_use S hB K E (show so_P D vcl s0.heap.size (so_up σ1 en.1 (1000 * (mp + 1) + en.2.2.1, oE (en.1, en.2.1, en.2.2.1, val, en.2.2.2.2))) H from P) hS M2 hmp J (stL_len hLn) (fun e1 => by subst e1; exact unM_set (hUM 1 (by decide) (by decide)) hen rfl) j (en.1, en.2.1, en.2.2.1, val, en.2.2.2.2) hen2 (by decide) (by decide) (by decide) hl.1 (Nat.le_of_ble_eq_true rfl) d_HM_put_155) hS (fun v σ2 H locs hv P hS => ?_)
        obtain ⟨rfl, M3, F3⟩ := hv
        refine lv_iload S.1 S.2.1 d_HM_put_158 (lv_at hl 0 rfl) ?_
        refine W_imp (fun t h => MQ.toT h) (so_iret S hr hlk P hS (by decide) (by decide) ?_ d_HM_put_160)
        have FF := (F1.tr F2).tr F3
        exact ⟨⟨mp, key, val, hmp, hkey, hval, rfl, rfl, rfl, hal, hvl, hO, Or.inr ⟨j, en, sl', hfi, hen, rfl, hs1, hs2, M.agT hmp FF M3⟩⟩, FF.mono (tC_M hmp)⟩
    · exact thr_A S E hX hex hlk hl.1 P (tx := "no such map, key or value") (by decide +kernel) (Or.inl ⟨rfl, by unfold po_O; rw [(bI_0 _).mp h17, Bool.and_false]⟩) (by decide) (by decide) (by decide) (Nat.le_of_ble_eq_true rfl) d_HM_put_20 d_HM_put_23 d_HM_put_24 d_HM_put_26 d_HM_put_29

/-! HoldMaps: get, remove. -/
theorem gk_c {o : Obs} {x kx : Int32} (h : gk_O o x kx = true) : ∃ mp key, mp < 5 ∧ x = nI mp ∧ key < 32 ∧ kx = nI key ∧ o.1 key = true := by
  unfold gk_O at h
  rw [Bool.and_eq_true, Bool.and_eq_true] at h
  obtain ⟨mp, hmp, e1⟩ := isM_c h.1
  obtain ⟨key, hk, e2, h2⟩ := al_cases h.2.1
  exact ⟨mp, key, hmp, e1, hk, e2, h2⟩
theorem fiM_get {L : List En} {mk j : Nat} (h : fiM L mk = some j) : ∃ en, L[j]? = some en ∧ en.2.2.1 = mk := by
  unfold fiM at h
  rw [List.findIdx?_eq_some_iff_getElem] at h
  obtain ⟨h1, h2, -⟩ := h
  exact ⟨L[j], List.getElem?_eq_getElem h1, of_decide_eq_true h2⟩
theorem lsE_len {L : Nat → List En} {sl : Nat → Option En} (hLn : ∀ i, (L i).length ≤ 32) (mp : Nat) : (lsE L sl mp).length ≤ 32 := by
  have h5 := hLn mp
  rcases mp with _ | _ | _ | mp
  · exact h5
  · exact h5
  · show (idN sl 16).length ≤ _
    rw [idN_len]
    have := cn_le sl 16
    omega
  · exact h5
theorem id_at {sl : Nat → Option En} {j : Nat} {en : En} (h : (idN sl 16)[j]? = some en) : ∃ u, u < 16 ∧ sl u = some en ∧ cn sl u = j := by
  obtain ⟨u, x, h1, h2, h3, h4⟩ := idN_ix (List.getElem?_eq_some_iff.mp h).1
  rw [h] at h4
  cases h4
  exact ⟨u, h1, h2, h3⟩
theorem mkN_lt {mp key va : Nat} (hmp : mp < 5) (h1 : key < 32) (h2 : va < 100) : mkN mp key va < 1000 := lt5 (P := fun mp => mkN mp key va < 1000) hmp (show va < 1000 by omega) (show va < 1000 by omega) (show key < 1000 by omega) (show va < 1000 by omega) (show va < 1000 by omega)
set_option maxHeartbeats 400000 in
set_option maxRecDepth 100000 in
theorem c_HM_get (l : Launch) {s0 : State} {D : va_G} {ca : Nat → ClassId} (hB : so_B tbl s0 D vcl (tyl ca)) {σ : so_S} (hX : exX l s0) {DE hm : Nat} {B : Bx} {X : Hx} {k : Wks} {bk tm : Nat} {L : Nat → List En} {sl : Nat → Option En} {o : Obs} (M : HMR ca DE σ hm B X k bk tm L sl) (so1 : simO X o) (hv100 : ∀ i, i < 32 → o.1 i = true → o.2.1 i < 100) (hLn : ∀ i, (L i).length ≤ 32) {mi : Nat} (J : jX s0 D ca DE mi) (hU : unM (L 1)) (x kx : Int32) : so_T l s0 D vcl y_HM_get b_HM_get 6 (some .int) 9 1 64 [.ref hm, .int x, .int kx] σ (fun v σ1 => (∃ mp key, mp < 5 ∧ key < 32 ∧ x = nI mp ∧ kx = nI key ∧ o.1 key = true ∧ gk_O o x kx = true ∧ ((fiM (lsE L sl mp) (mkN mp key (o.2.1 key)) = none ∧ v = some (.int (-1)) ∧ HMR ca DE σ1 hm B X k bk (tkT mp tm) L sl) ∨ ∃ j en, fiM (lsE L sl mp) (mkN mp key (o.2.1 key)) = some j ∧ (lsE L sl mp)[j]? = some en ∧ v = some (.int (nI en.2.2.2.1)) ∧ HMR ca DE σ1 hm B X (usK j L k mp) bk (tkT mp tm) (usL (tkT mp tm) j en L mp) sl)) ∧ fT tC σ σ1) (fun C => C = xA ∧ gk_O o x kx = false) := by
  refine so_ofT hB (by decide) (Nat.le_of_ble_eq_true rfl) ?_
  intro p e s m below meth c ls S K E hr hlk hex P hS hl
  have hl : lv_has ls 6 [(0, .ref hm), (1, .int x), (2, .int kx)] := hl
  obtain ⟨f, hf1, hf2⟩ := M.2.1
  refine lv_aload_n S.1 S.2.1 d_HM_get_0 rfl (lv_at hl 0 rfl) ?_
  refine lv_iload_n S.1 S.2.1 d_HM_get_1 rfl (lv_at hl 1 rfl) ?_
  refine lv_iload_n S.1 S.2.1 d_HM_get_2 rfl (lv_at hl 2 rfl) ?_
  refine so_callR (cv_HM_88_HM S hB K E P hS M.1 (c_HM_isKeyOf l hB M so1 hv100 x kx) rfl (by decide) (Nat.zero_le _) (Nat.zero_le _) hl.1 rfl (Nat.le_of_ble_eq_true rfl) d_HM_get_3) (fun v hv => ?_)
  subst hv
  refine lv_if_ne (tgt := 19) S.1 S.2.1 d_HM_get_6 rfl (fun h6 => ?_) (fun h6 => ?_)
  · have hG : gk_O o x kx = true := by
      cases hq : gk_O o x kx with
      | true => rfl
      | false => rw [hq] at h6; exact absurd rfl h6
    obtain ⟨mp, key, hmp, rfl, hkey, rfl, hal⟩ := gk_c hG
    obtain ⟨a, ad, af, a1, a2⟩ := so1.thing M.2.2.1 hkey hal
    have hva := hv100 key hkey hal
    have hmk := mkN_lt hmp hkey hva
    have hln := lsE_len (sl := sl) hLn mp
    refine lv_aload_n S.1 S.2.1 d_HM_get_19 rfl (lv_at hl 0 rfl) ?_
    refine gf_HM_32_HM S K P M.1 rfl d_HM_get_20 ?_
    refine lv_iload_n S.1 S.2.1 d_HM_get_23 rfl (lv_at hl 1 rfl) ?_
    refine so_aaldN S K P hf1 4 rfl hmp (by decide) d_HM_get_24 ?_
    rw [hf2 mp hmp]
    show W p l e _ s m _ below meth c _ _ _ _ _ (F0 m _ ls (.ref (B.A.1 mp) :: _))
    refine lv_astore_n S.1 S.2.1 d_HM_get_25 rfl hl (by decide) rfl (fun ls hl => ?_)
    refine lv_aload_n S.1 S.2.1 d_HM_get_26 rfl (lv_at hl 0 rfl) ?_
    refine so_call (hm_tick S hB K E P hS M.2.2.2 hmp (by decide) (by decide) (by decide) hl.1 (Nat.le_of_ble_eq_true rfl) d_HM_get_27) hS (fun v σ1 H locs hv P hS => ?_)
    obtain ⟨rfl, Mt, F1⟩ := hv
    have M1 := M.agT hmp F1 Mt
    obtain ⟨a', ad', af', a1, a2⟩ := so1.thing M1.2.2.1 hkey hal
    cases ad.symm.trans ad'
    refine lv_aload_n S.1 S.2.1 d_HM_get_30 rfl (lv_at hl 0 rfl) ?_
    refine lv_aload_n S.1 S.2.1 d_HM_get_31 rfl (lv_at hl 0 rfl) ?_
    refine lv_iload_n S.1 S.2.1 d_HM_get_32 rfl (lv_at hl 3 rfl) ?_
    refine lv_aload_n S.1 S.2.1 d_HM_get_33 rfl (lv_at hl 1 rfl) ?_
    refine gf_HM_10_HM S K P M1.1 rfl d_HM_get_34 ?_
    refine gf_HM_61_He S K P M1.2.2.1.1 rfl d_HM_get_37 ?_
    refine lv_iload_n S.1 S.2.1 d_HM_get_40 rfl (lv_at hl 3 rfl) ?_
    refine so_aaldN S K P M1.2.2.1.2.1 3 rfl hkey (by decide) d_HM_get_41 ?_
    rw [af]
    show W p l e _ s m _ below meth c _ _ _ _ _ (F0 m _ ls (.ref a.1 :: _))
    refine gf_HM_94_Th S K P a1 rfl d_HM_get_42 ?_
    refine so_callR (hm_mark S hB K E P hS M1.2.2.2 hmp (nI key) (nI (o.2.1 key)) (by decide) (Nat.zero_le _) (Nat.zero_le _) hl.1 (Nat.le_of_ble_eq_true rfl) d_HM_get_45) (fun v hv2 => ?_)
    subst hv2
    rw [mkN_I hmp]
    refine so_callR (hm_find S hB K E P hS M1.2.2.2 hmp hLn (mkN mp key (o.2.1 key)) hmk (by decide) (Nat.zero_le _) (Nat.zero_le _) hl.1 (Nat.le_of_ble_eq_true rfl) d_HM_get_48) (fun v hv2 => ?_)
    subst hv2
    cases hfi : fiM (lsE L sl mp) (mkN mp key (o.2.1 key))
    · refine lv_istore S.1 S.2.1 d_HM_get_51 hl (by decide) rfl (fun ls hl => ?_)
      refine lv_aload_n S.1 S.2.1 d_HM_get_53 rfl (lv_at hl 1 rfl) ?_
      refine lv_iload S.1 S.2.1 d_HM_get_54 (lv_at hl 0 rfl) ?_
      refine so_callR (hm_val S hB K E P hS M1.2.2.2 hmp hLn (-1) (by decide) (Nat.zero_le _) (Nat.zero_le _) hl.1 (Nat.le_of_ble_eq_true rfl) d_HM_get_56) (fun v hv2 => ?_)
      subst hv2
      rw [atI_neg (by decide)]
      refine lv_istore S.1 S.2.1 d_HM_get_59 hl (by decide) rfl (fun ls hl => ?_)
      refine lv_iload S.1 S.2.1 d_HM_get_61 (lv_at hl 1 rfl) ?_
      refine lv_iconst (v := (-1)) S.1 S.2.1 d_HM_get_63 (by decide) ?_
      refine lv_icmp_eq (tgt := 73) S.1 S.2.1 d_HM_get_64 rfl (fun h64 => ?_) (fun h64 => absurd rfl h64)
      refine lv_iload S.1 S.2.1 d_HM_get_73 (lv_at hl 0 rfl) ?_
      refine W_imp (fun t h => MQ.toT h) (so_iret S hr hlk P hS (Nat.zero_le _) (Nat.zero_le _) ?_ d_HM_get_75)
      exact ⟨⟨mp, key, hmp, hkey, rfl, rfl, hal, hG, Or.inl ⟨hfi, rfl, M1⟩⟩, F1.mono (tC_M hmp)⟩
    · rename_i j
      obtain ⟨en, hen, hem⟩ := fiM_get hfi
      have hjl := (List.getElem?_eq_some_iff.mp hen).1
      refine lv_istore S.1 S.2.1 d_HM_get_51 hl (by decide) rfl (fun ls hl => ?_)
      refine lv_aload_n S.1 S.2.1 d_HM_get_53 rfl (lv_at hl 1 rfl) ?_
      refine lv_iload S.1 S.2.1 d_HM_get_54 (lv_at hl 0 rfl) ?_
      refine so_callR (hm_val S hB K E P hS M1.2.2.2 hmp hLn (nI j) (by decide) (Nat.zero_le _) (Nat.zero_le _) hl.1 (Nat.le_of_ble_eq_true rfl) d_HM_get_56) (fun v hv2 => ?_)
      subst hv2
      rw [atI_o (by omega) (by omega), hen]
      refine lv_istore S.1 S.2.1 d_HM_get_59 hl (by decide) rfl (fun ls hl => ?_)
      refine lv_iload S.1 S.2.1 d_HM_get_61 (lv_at hl 1 rfl) ?_
      refine lv_iconst (v := (-1)) S.1 S.2.1 d_HM_get_63 (by decide) ?_
      refine lv_icmp_eq (tgt := 73) S.1 S.2.1 d_HM_get_64 rfl (fun h64 => absurd (show nI j < 0 by rw [show nI j = -1 from h64]; decide) (nI_pos (by omega))) (fun h64 => ?_)
      refine lv_aload_n S.1 S.2.1 d_HM_get_67 rfl (lv_at hl 2 rfl) ?_
      refine lv_iload S.1 S.2.1 d_HM_get_68 (lv_at hl 1 rfl) ?_
      refine so_call (hm_use S hB K E P hS M1.2.2.2 hmp J hLn (fun _ => hU) j en hen (by decide) (by decide) (by decide) hl.1 (Nat.le_of_ble_eq_true rfl) d_HM_get_70) hS (fun v σ2 H locs hv P hS => ?_)
      obtain ⟨rfl, M2, F2⟩ := hv
      refine lv_iload S.1 S.2.1 d_HM_get_73 (lv_at hl 0 rfl) ?_
      refine W_imp (fun t h => MQ.toT h) (so_iret S hr hlk P hS (Nat.le_of_ble_eq_true rfl) (Nat.le_of_ble_eq_true rfl) ?_ d_HM_get_75)
      exact ⟨⟨mp, key, hmp, hkey, rfl, rfl, hal, hG, Or.inr ⟨j, en, hfi, hen, rfl, M1.agT hmp F2 M2⟩⟩, (F1.tr F2).mono (tC_M hmp)⟩
  · exact thr_A S E hX hex hlk hl.1 P (tx := "no such map or key") (by decide +kernel) (⟨rfl, (bI_0 _).mp h6⟩) (by decide) (by decide) (by decide) (Nat.le_of_ble_eq_true rfl) d_HM_get_9 d_HM_get_12 d_HM_get_13 d_HM_get_15 d_HM_get_18
set_option maxHeartbeats 400000 in
set_option maxRecDepth 100000 in
theorem c_HM_remove (l : Launch) {s0 : State} {D : va_G} {ca : Nat → ClassId} (hB : so_B tbl s0 D vcl (tyl ca)) {σ : so_S} (hX : exX l s0) {DE hm : Nat} {B : Bx} {X : Hx} {k : Wks} {bk tm : Nat} {L : Nat → List En} {sl : Nat → Option En} {o : Obs} (M : HMR ca DE σ hm B X k bk tm L sl) (so1 : simO X o) (hv100 : ∀ i, i < 32 → o.1 i = true → o.2.1 i < 100) (hLn : ∀ i, (L i).length ≤ 32) (hk2 : ∀ i x, sl i = some x → x.2.1 < 32) (x kx : Int32) : so_T l s0 D vcl y_HM_remove b_HM_remove 6 (some .int) 9 1 6 [.ref hm, .int x, .int kx] σ (fun v σ1 => (∃ mp key, mp < 5 ∧ key < 32 ∧ x = nI mp ∧ kx = nI key ∧ o.1 key = true ∧ gk_O o x kx = true ∧ ((fiM (lsE L sl mp) (mkN mp key (o.2.1 key)) = none ∧ v = some (.int (-1)) ∧ HMR ca DE σ1 hm B X k bk tm L sl) ∨ ∃ j en L' sl', fiM (lsE L sl mp) (mkN mp key (o.2.1 key)) = some j ∧ (lsE L sl mp)[j]? = some en ∧ v = some (.int (nI en.2.2.2.1)) ∧ drE L sl j en L' sl' mp ∧ HMR ca DE σ1 hm B X (wkB k mp) bk tm L' sl')) ∧ fT tC σ σ1) (fun C => C = xA ∧ gk_O o x kx = false) := by
  refine so_ofT hB (by decide) (Nat.le_of_ble_eq_true rfl) ?_
  intro p e s m below meth c ls S K E hr hlk hex P hS hl
  have hl : lv_has ls 6 [(0, .ref hm), (1, .int x), (2, .int kx)] := hl
  obtain ⟨f, hf1, hf2⟩ := M.2.1
  have M1 := M
  refine lv_aload_n S.1 S.2.1 d_HM_remove_0 rfl (lv_at hl 0 rfl) ?_
  refine lv_iload_n S.1 S.2.1 d_HM_remove_1 rfl (lv_at hl 1 rfl) ?_
  refine lv_iload_n S.1 S.2.1 d_HM_remove_2 rfl (lv_at hl 2 rfl) ?_
  refine so_callR (cv_HM_88_HM S hB K E P hS M.1 (c_HM_isKeyOf l hB M so1 hv100 x kx) rfl (by decide) (Nat.zero_le _) (Nat.zero_le _) hl.1 rfl (Nat.le_of_ble_eq_true rfl) d_HM_remove_3) (fun v hv => ?_)
  subst hv
  refine lv_if_ne (tgt := 19) S.1 S.2.1 d_HM_remove_6 rfl (fun h6 => ?_) (fun h6 => ?_)
  · have hG : gk_O o x kx = true := by
      cases hq : gk_O o x kx with
      | true => rfl
      | false => rw [hq] at h6; exact absurd rfl h6
    obtain ⟨mp, key, hmp, rfl, hkey, rfl, hal⟩ := gk_c hG
    obtain ⟨a, ad, af, a1, a2⟩ := so1.thing M.2.2.1 hkey hal
    have hva := hv100 key hkey hal
    have hmk := mkN_lt hmp hkey hva
    have hln := lsE_len (sl := sl) hLn mp
    refine lv_aload_n S.1 S.2.1 d_HM_remove_19 rfl (lv_at hl 0 rfl) ?_
    refine gf_HM_32_HM S K P M.1 rfl d_HM_remove_20 ?_
    refine lv_iload_n S.1 S.2.1 d_HM_remove_23 rfl (lv_at hl 1 rfl) ?_
    refine so_aaldN S K P hf1 4 rfl hmp (by decide) d_HM_remove_24 ?_
    rw [hf2 mp hmp]
    show W p l e _ s m _ below meth c _ _ _ _ _ (F0 m _ ls (.ref (B.A.1 mp) :: _))
    refine lv_astore_n S.1 S.2.1 d_HM_remove_25 rfl hl (by decide) rfl (fun ls hl => ?_)
    refine lv_aload_n S.1 S.2.1 d_HM_remove_26 rfl (lv_at hl 0 rfl) ?_
    refine lv_aload_n S.1 S.2.1 d_HM_remove_27 rfl (lv_at hl 0 rfl) ?_
    refine lv_iload_n S.1 S.2.1 d_HM_remove_28 rfl (lv_at hl 3 rfl) ?_
    refine lv_aload_n S.1 S.2.1 d_HM_remove_29 rfl (lv_at hl 1 rfl) ?_
    refine gf_HM_10_HM S K P M1.1 rfl d_HM_remove_30 ?_
    refine gf_HM_61_He S K P M1.2.2.1.1 rfl d_HM_remove_33 ?_
    refine lv_iload_n S.1 S.2.1 d_HM_remove_36 rfl (lv_at hl 3 rfl) ?_
    refine so_aaldN S K P M1.2.2.1.2.1 3 rfl hkey (by decide) d_HM_remove_37 ?_
    rw [af]
    show W p l e _ s m _ below meth c _ _ _ _ _ (F0 m _ ls (.ref a.1 :: _))
    refine gf_HM_94_Th S K P a1 rfl d_HM_remove_38 ?_
    refine so_callR (hm_mark S hB K E P hS M1.2.2.2 hmp (nI key) (nI (o.2.1 key)) (by decide) (Nat.zero_le _) (Nat.zero_le _) hl.1 (Nat.le_of_ble_eq_true rfl) d_HM_remove_41) (fun v hv2 => ?_)
    subst hv2
    rw [mkN_I hmp]
    refine so_callR (hm_find S hB K E P hS M1.2.2.2 hmp hLn (mkN mp key (o.2.1 key)) hmk (by decide) (Nat.zero_le _) (Nat.zero_le _) hl.1 (Nat.le_of_ble_eq_true rfl) d_HM_remove_44) (fun v hv2 => ?_)
    subst hv2
    cases hfi : fiM (lsE L sl mp) (mkN mp key (o.2.1 key))
    · refine lv_istore S.1 S.2.1 d_HM_remove_47 hl (by decide) rfl (fun ls hl => ?_)
      refine lv_aload_n S.1 S.2.1 d_HM_remove_49 rfl (lv_at hl 1 rfl) ?_
      refine lv_iload S.1 S.2.1 d_HM_remove_50 (lv_at hl 0 rfl) ?_
      refine so_callR (hm_val S hB K E P hS M1.2.2.2 hmp hLn (-1) (by decide) (Nat.zero_le _) (Nat.zero_le _) hl.1 (Nat.le_of_ble_eq_true rfl) d_HM_remove_52) (fun v hv2 => ?_)
      subst hv2
      rw [atI_neg (by decide)]
      refine lv_istore S.1 S.2.1 d_HM_remove_55 hl (by decide) rfl (fun ls hl => ?_)
      refine lv_iload S.1 S.2.1 d_HM_remove_57 (lv_at hl 1 rfl) ?_
      refine lv_iconst (v := (-1)) S.1 S.2.1 d_HM_remove_59 (by decide) ?_
      refine lv_icmp_eq (tgt := 69) S.1 S.2.1 d_HM_remove_60 rfl (fun h60 => ?_) (fun h60 => absurd rfl h60)
      refine lv_iload S.1 S.2.1 d_HM_remove_69 (lv_at hl 0 rfl) ?_
      refine W_imp (fun t h => MQ.toT h) (so_iret S hr hlk P hS (Nat.zero_le _) (Nat.zero_le _) ?_ d_HM_remove_71)
      exact ⟨⟨mp, key, hmp, hkey, rfl, rfl, hal, hG, Or.inl ⟨hfi, rfl, M1⟩⟩, fT.rf⟩
    · rename_i j
      obtain ⟨en, hen, hem⟩ := fiM_get hfi
      have hjl := (List.getElem?_eq_some_iff.mp hen).1
      refine lv_istore S.1 S.2.1 d_HM_remove_47 hl (by decide) rfl (fun ls hl => ?_)
      refine lv_aload_n S.1 S.2.1 d_HM_remove_49 rfl (lv_at hl 1 rfl) ?_
      refine lv_iload S.1 S.2.1 d_HM_remove_50 (lv_at hl 0 rfl) ?_
      refine so_callR (hm_val S hB K E P hS M1.2.2.2 hmp hLn (nI j) (by decide) (Nat.zero_le _) (Nat.zero_le _) hl.1 (Nat.le_of_ble_eq_true rfl) d_HM_remove_52) (fun v hv2 => ?_)
      subst hv2
      rw [atI_o (by omega) (by omega), hen]
      refine lv_istore S.1 S.2.1 d_HM_remove_55 hl (by decide) rfl (fun ls hl => ?_)
      refine lv_iload S.1 S.2.1 d_HM_remove_57 (lv_at hl 1 rfl) ?_
      refine lv_iconst (v := (-1)) S.1 S.2.1 d_HM_remove_59 (by decide) ?_
      refine lv_icmp_eq (tgt := 69) S.1 S.2.1 d_HM_remove_60 rfl (fun h60 => absurd (show nI j < 0 by rw [show nI j = -1 from h60]; decide) (nI_pos (by omega))) (fun h60 => ?_)
      refine lv_aload_n S.1 S.2.1 d_HM_remove_63 rfl (lv_at hl 2 rfl) ?_
      refine lv_iload S.1 S.2.1 d_HM_remove_64 (lv_at hl 1 rfl) ?_
      refine so_call (hm_drop S hB K E P hS M1.2.2.2 hmp hLn j en hen hk2 (fun e2 => by subst e2; exact id_at hen) (by decide) (by decide) (by decide) hl.1 (Nat.le_of_ble_eq_true rfl) d_HM_remove_66) hS (fun v σ2 H locs hv P hS => ?_)
      obtain ⟨rfl, ⟨L', sl', hdr, M2⟩, F2⟩ := hv
      refine lv_iload S.1 S.2.1 d_HM_remove_69 (lv_at hl 0 rfl) ?_
      refine W_imp (fun t h => MQ.toT h) (so_iret S hr hlk P hS (Nat.le_of_ble_eq_true rfl) (Nat.le_of_ble_eq_true rfl) ?_ d_HM_remove_71)
      exact ⟨⟨mp, key, hmp, hkey, rfl, rfl, hal, hG, Or.inr ⟨j, en, L', sl', hfi, hen, rfl, hdr, M1.agT hmp F2 M2⟩⟩, F2.mono (tC_M hmp)⟩
  · exact thr_A S E hX hex hlk hl.1 P (tx := "no such map or key") (by decide +kernel) (⟨rfl, (bI_0 _).mp h6⟩) (by decide) (by decide) (by decide) (Nat.le_of_ble_eq_true rfl) d_HM_remove_9 d_HM_remove_12 d_HM_remove_13 d_HM_remove_15 d_HM_remove_18

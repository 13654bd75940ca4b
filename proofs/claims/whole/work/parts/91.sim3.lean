/-! The class's changes and the model's. -/
section SM3
variable {o : Obs} {q : Mps} {n : Nms} {L : Nat → List En} {sl : Nat → Option En}
theorem sim_ln (h : inv o q n) (sm : simM o q L sl) : ∀ i, (L i).length ≤ 32 := by
  obtain ⟨⟨-, ⟨w0, w1, w4⟩, -, -⟩, -⟩ := h
  obtain ⟨s0, s1, s2, s3, s4, s5⟩ := sm
  intro i
  have row : ∀ {L0 : List En} {l : List (Nat × Nat)}, L0.map kv = l → l.length ≤ 32 → L0.length ≤ 32 := fun h1 h2 => by rw [← h1, List.length_map] at h2; exact h2
  by_cases e0 : i = 0
  · rw [e0]; exact row s0.1 (row_le w0.1 w0.2)
  · by_cases e1 : i = 1
    · rw [e1]; exact row s1.1 (row_le w1.1 w1.2)
    · by_cases e3 : i = 3
      · rw [e3]
        refine row s3.1 ?_
        rw [plL_len]
        have := cn_le q.2.2.2.1 8
        omega
      · by_cases e4 : i = 4
        · rw [e4]; exact row s4.1 (row_le w4.1 w4.2)
        · rw [s5 i e0 e1 e3 e4]; exact Nat.zero_le _
theorem un_of {L0 : List En} {l : List (Nat × Nat)} (h1 : L0.map kv = l) (h2 : mkR o L0) (h3 : unR o l) : unM L0 := fun i j a b ha hb hab => h3 i j _ _ (mp_to h1 ha) (mp_to h1 hb) (by
  show o.2.1 a.2.1 = o.2.1 b.2.1
  rw [← h2 a (List.mem_of_getElem? ha), ← h2 b (List.mem_of_getElem? hb)]
  exact hab)
theorem sim_un (h : inv o q n) (sm : simM o q L sl) : ∀ mp, mp < 5 → mp ≠ 2 → unM (L mp) := by
  obtain ⟨⟨-, ⟨w0, w1, w4⟩, -, -⟩, -⟩ := h
  obtain ⟨s0, s1, s2, s3, s4, s5⟩ := sm
  intro mp hmp hne
  rcases mp with _ | _ | _ | _ | _ | mp
  · exact un_of s0.1 s0.2 w0.2
  · exact un_of s1.1 s1.2.2 w1.2
  · exact absurd rfl hne
  · intro i j a b ha hb hab
    have h1 := (plL_ix (mp_to s3.1 ha)).2.2
    have h2 := (plL_ix (mp_to s3.1 hb)).2.2
    have e1 : a.2.1 = b.2.1 := by rw [← s3.2 a (List.mem_of_getElem? ha), ← s3.2 b (List.mem_of_getElem? hb)]; exact hab
    rw [← h1, ← h2]
    show cn _ a.2.1 = cn _ b.2.1
    rw [e1]
  · exact un_of s4.1 s4.2 w4.2
  · omega
theorem sim_ui (h : inv o q n) (sm : simM o q L sl) : ∀ s t a b, s < 16 → t < 16 → sl s = some a → sl t = some b → a.2.2.1 = b.2.2.1 → s = t := fun s t a b _ _ ha hb hab => h.1.2.2.1.2 s t _ _ (sl_to sm.2.2.1.1 ha) (sl_to sm.2.2.1.1 hb) (by
  show a.2.1 = b.2.1
  rw [← sm.2.2.1.2 s a ha, ← sm.2.2.1.2 t b hb]
  exact hab)
theorem sim_k2 (h : inv o q n) (sm : simM o q L sl) : ∀ i x, sl i = some x → x.2.1 < 32 := fun i x hx => (h.1.2.2.1.1 i _ (sl_to sm.2.2.1.1 hx)).1.1
theorem sim_bd (h : inv o q n) (sm : simM o q L sl) : ∀ mp x, mp < 5 → x ∈ lsE L sl mp → x.2.1 < 32 ∧ x.2.2.2.1 < 32 := by
  obtain ⟨⟨-, ⟨w0, w1, w4⟩, s1', p1⟩, -⟩ := h
  obtain ⟨s0, s1, s2, s3, s4, s5⟩ := sm
  intro mp x hmp hx
  have row : ∀ {L0 : List En} {l : List (Nat × Nat)}, L0.map kv = l → okR o l → x ∈ L0 → x.2.1 < 32 ∧ x.2.2.2.1 < 32 := fun h1 h2 h3 => by
    have h4 := h2 (kv x) (by rw [← h1]; exact List.mem_map_of_mem h3)
    exact ⟨h4.1.1, h4.2.1⟩
  rcases mp with _ | _ | _ | _ | _ | mp
  · exact row s0.1 w0.1 hx
  · exact row s1.1 w1.1 hx
  · obtain ⟨i, hi, hs⟩ := idN_mem hx
    have h4 := s1'.1 i _ (sl_to s2.1 hs)
    exact ⟨h4.1.1, h4.2.1⟩
  · obtain ⟨j, hj⟩ := List.mem_iff_getElem?.mp hx
    obtain ⟨h5, h6, -⟩ := plL_ix (mp_to s3.1 hj)
    have h5 : x.2.1 < 8 := h5
    exact ⟨by omega, (p1 _ _ h6).1⟩
  · exact row s4.1 w4.1 hx
  · omega
theorem sim_k3 (sm : simM o q L sl) : ∀ x ∈ L 3, x.2.1 < 100 := fun x hx => by
  obtain ⟨j, hj⟩ := List.mem_iff_getElem?.mp hx
  have h5 : x.2.1 < 8 := (plL_ix (mp_to sm.2.2.2.1.1 hj)).1
  omega
theorem set_kv {L0 : List En} {j : Nat} {en en2 : En} (hj : L0[j]? = some en) (h : kv en2 = kv en) : (L0.set j en2).map kv = L0.map kv := by
  rw [List.map_set, h]
  apply List.ext_getElem?
  intro i
  rw [List.getElem?_set]
  split
  · rename_i e1
    subst e1
    rw [List.getElem?_map, hj]
    split
    · rfl
    · rename_i h3
      rw [List.length_map] at h3
      exact absurd (List.getElem?_eq_some_iff.mp hj).1 h3
  · rfl
theorem mk_set {L0 : List En} {j : Nat} {en en2 : En} (hj : L0[j]? = some en) (h1 : en2.2.1 = en.2.1) (h2 : en2.2.2.1 = en.2.2.1) (h : mkR o L0) : mkR o (L0.set j en2) := fun x hx => by
  rcases List.mem_or_eq_of_mem_set hx with h3 | h3
  · exact h x h3
  · rw [h3, h1, h2]
    exact h en (List.mem_of_getElem? hj)
theorem up_out {L : Nat → List En} {mp : Nat} {l : List En} (hs : ∀ i, i ≠ 0 → i ≠ 1 → i ≠ 3 → i ≠ 4 → L i = []) (h : mp = 0 ∨ mp = 1 ∨ mp = 3 ∨ mp = 4) : ∀ i, i ≠ 0 → i ≠ 1 → i ≠ 3 → i ≠ 4 → va_up L mp l i = [] := fun i h0 h1 h3 h4 => by
  rw [va_up_ne _ _ (by omega)]
  exact hs i h0 h1 h3 h4
theorem sim_use (sm : simM o q L sl) {tm mp j jj : Nat} {en : En} {k : Wks} (hmp : mp < 5) (hen : (lsE L sl mp)[j]? = some en) (hix : ixJ sl j en jj mp) : simM o (us_M q tm mp jj (kv en)) (usL tm j en L mp) sl ∧ uw_M q k mp jj = usK j L k mp := by
  obtain ⟨s0, s1, s2, s3, s4, s5⟩ := sm
  rcases mp with _ | _ | _ | _ | _ | mp
  · exact ⟨⟨s0, s1, s2, s3, s4, s5⟩, rfl⟩
  · have hix : jj = j := hix
    subst hix
    have hen : (L 1)[jj]? = some en := hen
    refine ⟨⟨s0, ⟨?_, ?_, mk_set hen rfl rfl s1.2.2⟩, s2, s3, s4, up_out s5 (by decide)⟩, rfl⟩
    · show ((L 1).set jj (enU en tm)).map kv = q.2.1.1
      rw [set_kv (en2 := enU en tm) hen rfl]
      exact s1.1
    · show ((L 1).set jj (enU en tm)).map us = q.2.1.2.set jj tm
      rw [List.map_set, s1.2.1]
  · exact ⟨⟨s0, s1, s2, s3, s4, s5⟩, rfl⟩
  · exact ⟨⟨s0, s1, s2, s3, s4, s5⟩, rfl⟩
  · have hix : jj = j := hix
    subst hix
    have hen : (L 4)[jj]? = some en := hen
    have hlen : q.2.2.2.2.length = (L 4).length := by rw [← s4.1, List.length_map]
    unfold us_M uw_M
    rw [if_neg (by decide)]
    show simM o (if 4 = 4 ∧ jj + 1 < q.2.2.2.2.length then _ else q) (if jj + 1 < (L 4).length then _ else L) sl ∧ (if 4 = 4 ∧ jj + 1 < q.2.2.2.2.length then _ else k) = if jj + 1 < (L 4).length then wkB k 4 else k
    rw [hlen]
    by_cases hc : jj + 1 < (L 4).length
    · rw [if_pos ⟨rfl, hc⟩, if_pos hc, if_pos ⟨rfl, hc⟩, if_pos hc]
      refine ⟨⟨s0, s1, s2, s3, ⟨?_, fun x hx => ?_⟩, up_out s5 (by decide)⟩, rfl⟩
      · show ((L 4).eraseIdx jj ++ [en]).map kv = q.2.2.2.2.eraseIdx jj ++ [kv en]
        rw [List.map_append, map_er, s4.1]
        rfl
      · have hx : x ∈ (L 4).eraseIdx jj ++ [en] := hx
        rcases List.mem_append.mp hx with h1 | h1
        · exact s4.2 x (List.mem_of_mem_eraseIdx h1)
        · rw [List.mem_singleton.mp h1]; exact s4.2 en (List.mem_of_getElem? hen)
    · rw [if_neg (fun z => hc z.2), if_neg hc, if_neg (fun z => hc z.2), if_neg hc]
      exact ⟨⟨s0, s1, s2, s3, s4, s5⟩, rfl⟩
  · omega
theorem cn_inj {u w : Nat} {a b : En} (hu : sl u = some a) (hw : sl w = some b) (h : cn sl u = cn sl w) : u = w := by
  rcases Nat.lt_trichotomy u w with h1 | h1 | h1
  · have := cn_mono (f := sl) (show u + 1 ≤ w from h1)
    rw [cn_s hu] at this
    omega
  · exact h1
  · have := cn_mono (f := sl) (show w + 1 ≤ u from h1)
    rw [cn_s hw] at this
    omega
theorem sim_drop (sm : simM o q L sl) {mp j jj : Nat} {en : En} {L' : Nat → List En} {sl' : Nat → Option En} (hmp : mp < 5) (hen : (lsE L sl mp)[j]? = some en) (hix : ixJ sl j en jj mp) (hdr : drE L sl j en L' sl' mp) : simM o (dr_M q mp jj) L' sl' := by
  obtain ⟨s0, s1, s2, s3, s4, s5⟩ := sm
  rcases mp with _ | _ | _ | _ | _ | mp
  · obtain ⟨rfl, rfl⟩ := hdr
    have hix : jj = j := hix
    subst hix
    exact ⟨⟨by show ((L 0).eraseIdx jj).map kv = q.1.eraseIdx jj; rw [map_er, s0.1], fun x hx => s0.2 x (List.mem_of_mem_eraseIdx hx)⟩, s1, s2, s3, s4, up_out s5 (by decide)⟩
  · obtain ⟨rfl, rfl⟩ := hdr
    have hix : jj = j := hix
    subst hix
    exact ⟨s0, ⟨by show ((L 1).eraseIdx jj).map kv = q.2.1.1.eraseIdx jj; rw [map_er, s1.1], by show ((L 1).eraseIdx jj).map us = q.2.1.2.eraseIdx jj; rw [map_er, s1.2.1], fun x hx => s1.2.2 x (List.mem_of_mem_eraseIdx hx)⟩, s2, s3, s4, up_out s5 (by decide)⟩
  · obtain ⟨rfl, u, hu, hs, hc, rfl⟩ := hdr
    obtain ⟨h1, h2, h3⟩ := hix
    have e1 : u = jj := cn_inj hs h2 (hc.trans h3.symm)
    subst e1
    refine ⟨s0, s1, ⟨?_, fun s x hx => ?_⟩, s3, s4, s5⟩
    · show slP (clE 15 (va_up sl u none) u ((u + 1) % 16)) = clo 15 (va_up q.2.2.1 u none) u ((u + 1) % 16)
      rw [clE_clo, slP_up, s2.1]
      rfl
    · obtain ⟨t, ht⟩ := clE_sub 15 hx
      unfold va_up at ht
      split at ht
      · cases ht
      · exact s2.2 t x ht
  · obtain ⟨rfl, rfl⟩ := hdr
    have hix : jj = en.2.1 := hix
    subst hix
    have hp := plL_ix (mp_to s3.1 (show (L 3)[j]? = some en from hen))
    refine ⟨s0, s1, s2, ⟨?_, fun x hx => s3.2 x (List.mem_of_mem_eraseIdx hx)⟩, s4, up_out s5 (by decide)⟩
    show ((L 3).eraseIdx j).map kv = plL (va_up q.2.2.2.1 en.2.1 none) 8
    rw [map_er, s3.1, plL_er hp.2.1 hp.1]
    show _ = (plL q.2.2.2.1 8).eraseIdx (cn q.2.2.2.1 (kv en).1)
    rw [hp.2.2]
  · obtain ⟨rfl, rfl⟩ := hdr
    have hix : jj = j := hix
    subst hix
    exact ⟨s0, s1, s2, s3, ⟨by show ((L 4).eraseIdx jj).map kv = q.2.2.2.2.eraseIdx jj; rw [map_er, s4.1], fun x hx => s4.2 x (List.mem_of_mem_eraseIdx hx)⟩, up_out s5 (by decide)⟩
  · omega
theorem sim_set (sm : simM o q L sl) {mp j jj val : Nat} {en : En} {sl' : Nat → Option En} (hmp : mp < 5) (hen : (lsE L sl mp)[j]? = some en) (hix : ixJ sl j en jj mp) (h1 : mp ≠ 2 → sl' = sl) (h2 : mp = 2 → ∃ u, u < 16 ∧ sl u = some en ∧ cn sl u = j ∧ sl' = va_up sl u (some (en.1, en.2.1, en.2.2.1, val, en.2.2.2.2))) :
    simM o (st_M q mp jj (en.2.1, val)) (stL j (en.1, en.2.1, en.2.2.1, val, en.2.2.2.2) L mp) sl' ∧ ixJ sl' j (en.1, en.2.1, en.2.2.1, val, en.2.2.2.2) jj mp := by
  obtain ⟨s0, s1, s2, s3, s4, s5⟩ := sm
  rcases mp with _ | _ | _ | _ | _ | mp
  · rw [h1 (by decide)]
    have hix : jj = j := hix
    subst hix
    have hen : (L 0)[jj]? = some en := hen
    exact ⟨⟨⟨by show ((L 0).set jj _).map kv = q.1.set jj _; rw [List.map_set, s0.1], mk_set hen rfl rfl s0.2⟩, s1, s2, s3, s4, up_out s5 (by decide)⟩, rfl⟩
  · rw [h1 (by decide)]
    have hix : jj = j := hix
    subst hix
    have hen : (L 1)[jj]? = some en := hen
    refine ⟨⟨s0, ⟨by show ((L 1).set jj _).map kv = q.2.1.1.set jj _; rw [List.map_set, s1.1], ?_, mk_set hen rfl rfl s1.2.2⟩, s2, s3, s4, up_out s5 (by decide)⟩, rfl⟩
    show ((L 1).set jj _).map us = q.2.1.2
    rw [List.map_set, s1.2.1]
    apply List.ext_getElem?
    intro i
    rw [List.getElem?_set]
    have hu : q.2.1.2[jj]? = some en.2.2.2.2 := by rw [← s1.2.1, List.getElem?_map, hen]; rfl
    split
    · rename_i e1
      subst e1
      rw [hu]
      split
      · rfl
      · rename_i h3
        exact absurd (List.getElem?_eq_some_iff.mp hu).1 h3
    · rfl
  · obtain ⟨u, hu, hs, hc, rfl⟩ := h2 rfl
    obtain ⟨g1, g2, g3⟩ := hix
    have e1 : u = jj := cn_inj hs g2 (hc.trans g3.symm)
    subst e1
    refine ⟨⟨s0, s1, ⟨?_, fun s x hx => ?_⟩, s3, s4, s5⟩, hu, va_up_self _ _ _, by rw [cn_out (Nat.le_refl _)]; exact hc⟩
    · show slP (va_up sl u _) = va_up q.2.2.1 u _
      rw [slP_up, s2.1]
      rfl
    · unfold va_up at hx
      split at hx
      · cases hx; exact s2.2 u en hs
      · exact s2.2 s x hx
  · rw [h1 (by decide)]
    have hix : jj = en.2.1 := hix
    subst hix
    have hen : (L 3)[j]? = some en := hen
    have hp := plL_ix (mp_to s3.1 hen)
    refine ⟨⟨s0, s1, s2, ⟨?_, fun x hx => ?_⟩, s4, up_out s5 (by decide)⟩, rfl⟩
    · show ((L 3).set j _).map kv = plL (va_up q.2.2.2.1 en.2.1 (some val)) 8
      rw [List.map_set, s3.1, plL_st hp.2.1 hp.1]
      show (plL q.2.2.2.1 8).set j (en.2.1, val) = (plL q.2.2.2.1 8).set (cn q.2.2.2.1 (kv en).1) (en.2.1, val)
      rw [hp.2.2]
    · rcases List.mem_or_eq_of_mem_set hx with h3 | h3
      · exact s3.2 x h3
      · rw [h3]; exact s3.2 en (List.mem_of_getElem? hen)
  · rw [h1 (by decide)]
    have hix : jj = j := hix
    subst hix
    have hen : (L 4)[jj]? = some en := hen
    exact ⟨⟨s0, s1, s2, s3, ⟨by show ((L 4).set jj _).map kv = q.2.2.2.2.set jj _; rw [List.map_set, s4.1], mk_set hen rfl rfl s4.2⟩, up_out s5 (by decide)⟩, rfl⟩
  · omega
theorem kv_ins {L0 : List En} {l : List (Nat × Nat)} {en : En} {bk : Nat} (h1 : L0.map kv = l) (h2 : mkR o L0) (h3 : en.2.2.1 = o.2.1 en.2.1) : (insE bk L0 en).map kv = ins_B (bM o bk) l (kv en) ∧ mkR o (insE bk L0 en) := by
  have hb : ∀ x : En, x.2.2.1 = o.2.1 x.2.1 → bE bk x = bM o bk (kv x).1 := fun x hx => by
    unfold bE bM
    rw [hx]
  constructor
  · unfold insE ins_B
    have e1 : tw (fun x : En => decide (bE bk x < bE bk en)) L0 = tw (fun x : Nat × Nat => decide (bM o bk x.1 < bM o bk (kv en).1)) (L0.map kv) := by
      rw [tw_map]
      exact tw_cong (fun x hx => by
        show decide (bE bk x < bE bk en) = decide (bM o bk (kv x).1 < bM o bk (kv en).1)
        rw [hb x (h2 x hx), hb en h3])
    rw [map_ins, e1, h1]
  · intro x hx
    rcases insE_mem.mp hx with h4 | h4
    · rw [h4]; exact h3
    · exact h2 x h4
theorem kv_fo {bk : Nat} : ∀ (w acc : List En), mkR o w → mkR o acc → (w.foldl (insE bk) acc).map kv = (w.map kv).foldl (ins_B (bM o bk)) (acc.map kv) ∧ mkR o (w.foldl (insE bk) acc)
  | [], acc, _, h => ⟨rfl, h⟩
  | e :: w, acc, hw, h => by
    obtain ⟨a1, a2⟩ := kv_ins (bk := bk) (en := e) (rfl : acc.map kv = acc.map kv) h (hw e List.mem_cons_self)
    obtain ⟨b1, b2⟩ := kv_fo w (insE bk acc e) (fun x hx => hw x (List.mem_cons_of_mem _ hx)) a2
    rw [List.foldl_cons, List.map_cons, List.foldl_cons, ← a1]
    exact ⟨b1, b2⟩
theorem sim_add (sm : simM o q L sl) {mp key val a bk' : Nat} {L' : Nat → List En} {sl' : Nat → Option En} (hmp : mp < 5) (hno : ∀ j e, ¬ hit o q mp key j e) (h8 : mp = 3 → o.2.1 key < 8) (had : adE n.1 n.2.1 L sl (a, kyN mp key (o.2.1 key), mkN mp key (o.2.1 key), val, 0) L' sl' bk' mp) : ∃ q1, adR o q n mp key val q1 (bk', n.2.1, n.2.2) ∧ simM o q1 L' sl' := by
  obtain ⟨s0, s1, s2, s3, s4, s5⟩ := sm
  rcases mp with _ | _ | _ | _ | _ | mp
  · obtain ⟨rfl, rfl, rfl⟩ := had
    have hlen : q.1.length = (L 0).length := by rw [← s0.1, List.length_map]
    obtain ⟨a1, a2⟩ := kv_ins (bk := n.1) (en := (a, key, o.2.1 key, val, 0)) s0.1 s0.2 rfl
    refine ⟨(wk_n (bM o n.1) (bM o (2 * n.1)) n.1 q.1 (key, val), q.2), ⟨rfl, ?_⟩, ⟨?_, ?_⟩, s1, s2, s3, s4, up_out s5 (by decide)⟩
    · unfold wk_b
      rw [hlen]
    · show (if 3 * n.1 < 4 * ((L 0).length + 1) ∧ n.1 < 32 then reE (2 * n.1) (insE n.1 (L 0) (a, key, o.2.1 key, val, 0)) else insE n.1 (L 0) (a, key, o.2.1 key, val, 0)).map kv = wk_n (bM o n.1) (bM o (2 * n.1)) n.1 q.1 (key, val)
      unfold wk_n
      rw [hlen]
      split
      · unfold reE re_B
        rw [(kv_fo (bk := 2 * n.1) _ [] a2 (fun x hx => by cases hx)).1, a1]
        rfl
      · exact a1
    · show mkR o (if 3 * n.1 < 4 * ((L 0).length + 1) ∧ n.1 < 32 then reE (2 * n.1) (insE n.1 (L 0) (a, key, o.2.1 key, val, 0)) else insE n.1 (L 0) (a, key, o.2.1 key, val, 0))
      split
      · exact (kv_fo (bk := 2 * n.1) _ [] a2 (fun x hx => by cases hx)).2
      · exact a2
  · obtain ⟨rfl, rfl, rfl⟩ := had
    refine ⟨(q.1, (q.2.1.1 ++ [(key, val)], q.2.1.2 ++ [n.2.1]), q.2.2), ⟨rfl, rfl⟩, s0, ⟨?_, ?_, fun x hx => ?_⟩, s2, s3, s4, up_out s5 (by decide)⟩
    · show (L 1 ++ [_]).map kv = q.2.1.1 ++ [(key, val)]
      rw [List.map_append, s1.1]
      rfl
    · show (L 1 ++ [_]).map us = q.2.1.2 ++ [n.2.1]
      rw [List.map_append, s1.2.1]
      rfl
    · rcases List.mem_append.mp hx with h4 | h4
      · exact s1.2.2 x h4
      · rw [List.mem_singleton.mp h4]; rfl
  · obtain ⟨rfl, ⟨u, hu, hpr, rfl⟩, rfl⟩ := had
    rw [s2.1] at hpr
    refine ⟨(q.1, q.2.1, va_up q.2.2.1 u (some (key, val)), q.2.2.2), ⟨⟨u, hu, hpr, rfl⟩, rfl⟩, s0, s1, ⟨?_, fun s x hx => ?_⟩, s3, s4, s5⟩
    · show slP (va_up sl u _) = va_up q.2.2.1 u _
      rw [slP_up, s2.1]
      rfl
    · unfold va_up at hx
      split at hx
      · cases hx; rfl
      · exact s2.2 s x hx
  · obtain ⟨rfl, rfl, rfl⟩ := had
    have hv8 := h8 rfl
    have hpn : q.2.2.2.1 (o.2.1 key) = none := by
      cases hq : q.2.2.2.1 (o.2.1 key) with
      | none => rfl
      | some x => exact absurd ⟨hv8, hq, rfl, rfl⟩ (hno (o.2.1 key) (o.2.1 key, x))
    refine ⟨(q.1, q.2.1, q.2.2.1, va_up q.2.2.2.1 (o.2.1 key) (some val), q.2.2.2.2), ⟨rfl, rfl⟩, s0, s1, s2, ⟨?_, fun x hx => ?_⟩, s4, up_out s5 (by decide)⟩
    · show ((L 3).insertIdx (tw (fun x : En => decide (x.2.1 < o.2.1 key)) (L 3)) _).map kv = plL (va_up q.2.2.2.1 (o.2.1 key) (some val)) 8
      rw [map_ins, plL_in hpn hv8, s3.1, ← plL_tw (pv := q.2.2.2.1) (v := o.2.1 key) (n := 8) (by omega), ← s3.1, tw_map]
      rfl
    · rcases (List.mem_insertIdx (tw_le _ _)).mp hx with h4 | h4
      · rw [h4]; rfl
      · exact s3.2 x h4
  · obtain ⟨rfl, rfl, rfl⟩ := had
    have hlen : q.2.2.2.2.length = (L 4).length := by rw [← s4.1, List.length_map]
    refine ⟨(q.1, q.2.1, q.2.2.1, q.2.2.2.1, if 6 < q.2.2.2.2.length + 1 then (q.2.2.2.2 ++ [(key, val)]).tail else q.2.2.2.2 ++ [(key, val)]), ⟨rfl, rfl⟩, s0, s1, s2, s3, ⟨?_, ?_⟩, up_out s5 (by decide)⟩
    · show (if 6 < (L 4).length + 1 then (L 4 ++ [(a, key, o.2.1 key, val, 0)]).tail else L 4 ++ [(a, key, o.2.1 key, val, 0)]).map kv = if 6 < q.2.2.2.2.length + 1 then (q.2.2.2.2 ++ [(key, val)]).tail else q.2.2.2.2 ++ [(key, val)]
      rw [hlen]
      split
      · rw [List.map_tail, List.map_append, s4.1]
        rfl
      · rw [List.map_append, s4.1]
        rfl
    · show mkR o (if 6 < (L 4).length + 1 then (L 4 ++ [(a, key, o.2.1 key, val, 0)]).tail else L 4 ++ [(a, key, o.2.1 key, val, 0)])
      have hall : mkR o (L 4 ++ [(a, key, o.2.1 key, val, 0)]) := fun x hx => by
        rcases List.mem_append.mp hx with h4 | h4
        · exact s4.2 x h4
        · rw [List.mem_singleton.mp h4]
      split
      · exact fun x hx => hall x (List.mem_of_mem_tail hx)
      · exact hall
  · omega
end SM3

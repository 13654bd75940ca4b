/-! The law's loop. -/
theorem lp_cmp {L t : Nat} (hL : L ≤ 2048) (ht : 4 * t ≤ 2048) : (nI L - 4 < nI (4 * t)) ↔ L < 4 * t + 4 := by
  have e1 : (nI L - 4).toInt = (L : Int) - 4 := by
    rw [Int32.toInt_sub, nI_toInt (by omega), show (4 : Int32).toInt = 4 by decide]
    exact Int.bmod_eq_of_le (by omega) (by omega)
  rw [Int32.lt_iff_toInt_lt, e1, nI_toInt (by omega)]
  omega
theorem sw_cases (x : Int32) : (x.toInt < 0 ∨ 12 < x.toInt) ∨ x = 0 ∨ x = 1 ∨ x = 2 ∨ x = 3 ∨ x = 4 ∨ x = 5 ∨ x = 6 ∨ x = 7 ∨ x = 8 ∨ x = 9 ∨ x = 10 ∨ x = 11 ∨ x = 12 := by
  by_cases h : x.toInt < 0 ∨ 12 < x.toInt
  · exact Or.inl h
  · refine Or.inr ?_
    have h5 : x.toInt = 0 ∨ x.toInt = 1 ∨ x.toInt = 2 ∨ x.toInt = 3 ∨ x.toInt = 4 ∨ x.toInt = 5 ∨ x.toInt = 6 ∨ x.toInt = 7 ∨ x.toInt = 8 ∨ x.toInt = 9 ∨ x.toInt = 10 ∨ x.toInt = 11 ∨ x.toInt = 12 := by omega
    have k : ∀ y : Int32, x.toInt = y.toInt → x = y := fun y h => Int32.toInt_inj.mp h
    rcases h5 with h | h | h | h | h | h | h | h | h | h | h | h | h
    · exact Or.inl (k 0 h)
    · exact Or.inr (Or.inl (k 1 h))
    · exact Or.inr (Or.inr (Or.inl (k 2 h)))
    · exact Or.inr (Or.inr (Or.inr (Or.inl (k 3 h))))
    · exact Or.inr (Or.inr (Or.inr (Or.inr (Or.inl (k 4 h)))))
    · exact Or.inr (Or.inr (Or.inr (Or.inr (Or.inr (Or.inl (k 5 h))))))
    · exact Or.inr (Or.inr (Or.inr (Or.inr (Or.inr (Or.inr (Or.inl (k 6 h)))))))
    · exact Or.inr (Or.inr (Or.inr (Or.inr (Or.inr (Or.inr (Or.inr (Or.inl (k 7 h))))))))
    · exact Or.inr (Or.inr (Or.inr (Or.inr (Or.inr (Or.inr (Or.inr (Or.inr (Or.inl (k 8 h)))))))))
    · exact Or.inr (Or.inr (Or.inr (Or.inr (Or.inr (Or.inr (Or.inr (Or.inr (Or.inr (Or.inl (k 9 h))))))))))
    · exact Or.inr (Or.inr (Or.inr (Or.inr (Or.inr (Or.inr (Or.inr (Or.inr (Or.inr (Or.inr (Or.inl (k 10 h)))))))))))
    · exact Or.inr (Or.inr (Or.inr (Or.inr (Or.inr (Or.inr (Or.inr (Or.inr (Or.inr (Or.inr (Or.inr (Or.inl (k 11 h))))))))))))
    · exact Or.inr (Or.inr (Or.inr (Or.inr (Or.inr (Or.inr (Or.inr (Or.inr (Or.inr (Or.inr (Or.inr (Or.inr (k 12 h))))))))))))
section LL
variable {p : Program} {l : Launch} {e : Env} {s : State} {m : MethodId} {below : List Frame} {meth : Method} {c : Code} {Q : State → Prop}
variable {b L mi DE hm mo out : Nat} {xs : Nat → Int32} {D : va_G} {ca : Nat → ClassId} {B : Bx} {ar : Nat → Nat}
set_option maxHeartbeats 1000000 in
theorem law_loop (F : LF p l s m c b L xs D ca DE mi)
    (hend : ∀ (ls : Array Slot) (H : Heap) (locs : List Loc) (cells slots : Nat), va_S (so_A s.heap.size) s.heap H locs → cells ≤ 604221 → slots ≤ 7283442 → W p l e (so_rm 13 604221 7283442) s m #[Value.ref b] below meth c H locs cells slots Q (F0 m 856 ls [])) :
    ∀ (n t : Nat) (ls : Array Slot) (st : Mst) (σ : so_S) (H : Heap) (locs : List Loc), L < 4 * (t + n) + 4 → 4 * t ≤ 2048 → LV ls b hm mo out t → LI s D ca DE hm mo out B ar t st σ H locs → W p l e (so_rm 13 604221 7283442) s m #[Value.ref b] below meth c H locs (33 + 82 * t) (951 + 5188 * t) Q (F0 m 23 ls []) := by
  intro n
  induction n with
  | zero =>
    intro t ls st σ H locs hn ht hl I
    obtain ⟨S, hB, K, E, hX, J, Xs, hbl, hL⟩ := F
    have hl : lv_has ls 7 [(0, .ref b), (1, .ref hm), (2, .ref mo), (3, .ref out), (4, .int (nI (4 * t)))] := hl
    refine lv_iload S.1 S.2.1 d_Lw_law_23 (lv_at hl 4 rfl) ?_
    refine lv_aload_n S.1 S.2.1 d_Lw_law_25 rfl (lv_at hl 0 rfl) ?_
    refine va_slen S.1 S.2.1 Xs hbl (Nat.not_le.mpr hbl) I.2.1 d_Lw_law_26 ?_
    refine lv_iconst (v := 4) S.1 S.2.1 d_Lw_law_27 (by decide) ?_
    refine lv_isub S.1 S.2.1 d_Lw_law_28 ?_
    refine lv_icmp_gt (tgt := 856) S.1 S.2.1 d_Lw_law_29 rfl (fun _ => hend _ _ _ _ _ I.2.1 (by omega) (by omega)) (fun h => absurd ((lp_cmp hL ht).mpr (by omega)) h)
  | succ n ih =>
    intro t ls st σ H locs hn ht hl I
    have F1 := F
    obtain ⟨S, hB, K, E, hX, J, Xs, hbl, hL⟩ := F1
    have hl1 : lv_has ls 7 [(0, .ref b), (1, .ref hm), (2, .ref mo), (3, .ref out), (4, .int (nI (4 * t)))] := hl
    refine lv_iload S.1 S.2.1 d_Lw_law_23 (lv_at hl1 4 rfl) ?_
    refine lv_aload_n S.1 S.2.1 d_Lw_law_25 rfl (lv_at hl1 0 rfl) ?_
    refine va_slen S.1 S.2.1 Xs hbl (Nat.not_le.mpr hbl) I.2.1 d_Lw_law_26 ?_
    refine lv_iconst (v := 4) S.1 S.2.1 d_Lw_law_27 (by decide) ?_
    refine lv_isub S.1 S.2.1 d_Lw_law_28 ?_
    refine lv_icmp_gt (tgt := 856) S.1 S.2.1 d_Lw_law_29 rfl (fun _ => hend _ _ _ _ _ I.2.1 (by omega) (by omega)) (fun h => ?_)
    have hlt : 4 * t + 3 < L := by
      have h2 : ¬ L < 4 * t + 4 := fun z => h ((lp_cmp hL ht).mpr z)
      omega
    have kk : ∀ (ls1 : Array Slot) (st1 : Mst) (σ1 : so_S) (H1 : Heap) (locs1 : List Loc), LV ls1 b hm mo out t → LI s D ca DE hm mo out B ar (t + 1) st1 σ1 H1 locs1 → W p l e (so_rm 13 604221 7283442) s m #[Value.ref b] below meth c H1 locs1 (33 + 82 * t + 82) (951 + 5188 * t + 5188) Q (F0 m 850 ls1 []) := by
      intro ls1 st1 σ1 H1 locs1 hl2 I1
      have hl2 : lv_has ls1 7 [(0, .ref b), (1, .ref hm), (2, .ref mo), (3, .ref out), (4, .int (nI (4 * t)))] := hl2
      refine lv_iinc (k := 4) (v := nI (4 * (t + 1))) S.1 S.2.1 d_Lw_law_850 hl2 rfl (nI_add (4 * t) 4) (by decide) rfl (fun ls2 hl3 => ?_)
      refine lv_goto (tgt := 23) S.1 S.2.1 d_Lw_law_853 rfl ?_
      have h0 := ih (t + 1) ls2 st1 σ1 H1 locs1 (by omega) (by omega) (lv_sub hl3 [1, 2, 3, 4, 0] rfl) I1
      rw [show 33 + 82 * (t + 1) = 33 + 82 * t + 82 by omega, show 951 + 5188 * (t + 1) = 951 + 5188 * t + 5188 by omega] at h0
      exact h0
    refine lv_aload_n S.1 S.2.1 d_Lw_law_32 rfl (lv_at hl1 0 rfl) ?_
    refine lv_iload S.1 S.2.1 d_Lw_law_33 (lv_at hl1 4 rfl) ?_
    refine va_sld S.1 S.2.1 Xs hbl (Nat.not_le.mpr hbl) I.2.1 (vp_in_nI (show 4 * t < L by omega) (by omega)) d_Lw_law_35 ?_
    refine lv_bipush (v := 15) S.1 S.2.1 d_Lw_law_36 (by decide) ?_
    refine lv_iand S.1 S.2.1 d_Lw_law_38 ?_
    have hc : 33 + 82 * t + 82 ≤ 604221 := by omega
    have hs : 951 + 5188 * t + 5188 ≤ 7283442 := by omega
    generalize xs (nI (4 * t)).toNatClampNeg &&& 15 = sel
    rcases sw_cases sel with h | rfl | rfl | rfl | rfl | rfl | rfl | rfl | rfl | rfl | rfl | rfl | rfl | rfl
    · refine lv_tableOut (tgt := 850) S.1 S.2.1 d_Lw_law_39 h (by decide) ?_
      exact W.widen (by omega) (by omega) (kk ls st σ H locs hl ⟨I.1, I.2.1, I.2.2.1, I.2.2.2.1, I.2.2.2.2.1, I.2.2.2.2.2.up⟩)
    · exact lv_tableIn (tgt := 104) (off := 65) S.1 S.2.1 d_Lw_law_39 (by decide) (by decide) (by decide) (by decide) (lc_make F I hl hlt hc hs kk)
    · exact lv_tableIn (tgt := 160) (off := 121) S.1 S.2.1 d_Lw_law_39 (by decide) (by decide) (by decide) (by decide) (lc_refer F I hl hlt hc hs kk)
    · exact lv_tableIn (tgt := 240) (off := 201) S.1 S.2.1 d_Lw_law_39 (by decide) (by decide) (by decide) (by decide) (lc_root F I hl hlt hc hs kk)
    · exact lv_tableIn (tgt := 331) (off := 292) S.1 S.2.1 d_Lw_law_39 (by decide) (by decide) (by decide) (by decide) (lc_put F I hl hlt hc hs kk)
    · exact lv_tableIn (tgt := 411) (off := 372) S.1 S.2.1 d_Lw_law_39 (by decide) (by decide) (by decide) (by decide) (lc_get F I hl hlt hc hs kk)
    · exact lv_tableIn (tgt := 479) (off := 440) S.1 S.2.1 d_Lw_law_39 (by decide) (by decide) (by decide) (by decide) (lc_remove F I hl hlt hc hs kk)
    · exact lv_tableIn (tgt := 547) (off := 508) S.1 S.2.1 d_Lw_law_39 (by decide) (by decide) (by decide) (by decide) (lc_size F I hl hlt hc hs kk)
    · exact lv_tableIn (tgt := 572) (off := 533) S.1 S.2.1 d_Lw_law_39 (by decide) (by decide) (by decide) (by decide) (lc_entry F I hl hlt hc hs kk)
    · exact lv_tableIn (tgt := 652) (off := 613) S.1 S.2.1 d_Lw_law_39 (by decide) (by decide) (by decide) (by decide) (lc_walk F I hl hlt hc hs kk)
    · exact lv_tableIn (tgt := 688) (off := 649) S.1 S.2.1 d_Lw_law_39 (by decide) (by decide) (by decide) (by decide) (lc_step F I hl hlt hc hs kk)
    · exact lv_tableIn (tgt := 744) (off := 705) S.1 S.2.1 d_Lw_law_39 (by decide) (by decide) (by decide) (by decide) (lc_collect F I hl hlt hc hs kk)
    · exact lv_tableIn (tgt := 800) (off := 761) S.1 S.2.1 d_Lw_law_39 (by decide) (by decide) (by decide) (by decide) (lc_value F I hl hlt hc hs kk)
    · exact lv_tableIn (tgt := 825) (off := 786) S.1 S.2.1 d_Lw_law_39 (by decide) (by decide) (by decide) (by decide) (lc_count F I hl hlt hc hs kk)
end LL

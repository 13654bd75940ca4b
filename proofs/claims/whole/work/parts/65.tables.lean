/-! Tables: what reads, for each kind. -/
theorem atI_mem {L : List En} {x : Int32} {e : En} (h : atI L x = some e) : e ∈ L := by
  unfold atI at h
  split at h
  · cases h
  · split at h
    · cases h
    · exact List.mem_of_getElem? h
theorem idN_ix {sl : Nat → Option En} : ∀ {n j : Nat}, j < (idN sl n).length → ∃ s e, s < n ∧ sl s = some e ∧ cn sl s = j ∧ (idN sl n)[j]? = some e
  | 0, j, h => absurd h (Nat.not_lt_zero _)
  | n + 1, j, h => by
    rcases Nat.lt_or_ge j (idN sl n).length with h1 | h1
    · obtain ⟨s, e, a1, a2, a3, a4⟩ := idN_ix h1
      exact ⟨s, e, by omega, a2, a3, by unfold idN; rw [List.getElem?_append_left h1]; exact a4⟩
    · unfold idN at h
      rw [List.length_append] at h
      cases hs : sl n with
      | none => rw [hs] at h; simp at h; omega
      | some e =>
        rw [hs] at h
        simp at h
        have hj : j = (idN sl n).length := by omega
        exact ⟨n, e, by omega, hs, by rw [hj, idN_len], by unfold idN; rw [hj, List.getElem?_append_right (Nat.le_refl _), Nat.sub_self, hs]; rfl⟩
set_option maxHeartbeats 400000 in
set_option maxRecDepth 100000 in
theorem c_Id_length (l : Launch) {s0 : State} {D : va_G} {ca : Nat → ClassId} (hB : so_B tbl s0 D vcl (tyl ca)) {σ : so_S} {t sa : Nat} {hw br wk : Int32} {sl : Nat → Option En} (M0 : σ t = some (12, oId hw br wk sa (nI (cn sl 16)))) (M : IdR ca σ sa sl) : so_D l s0 D vcl y_Id_length b_Id_length 1 (some .int) 0 [.ref t] σ (fun v => v = some (.int (nI (idN sl 16).length))) := by
  refine so_ofR hB (by decide) (Nat.le_of_ble_eq_true rfl) ?_
  intro p e s m below meth c ls S K E hr hlk P hS hl
  have hl : lv_has ls 1 [(0, .ref t)] := hl
  refine lv_aload_n S.1 S.2.1 d_Id_length_0 rfl (lv_at hl 0 rfl) ?_
  refine gf_Id_17_Id S K P M0 rfl d_Id_length_1 ?_
  refine so_iretR S hr hlk ?_ d_Id_length_4
  rw [idN_len]
set_option maxHeartbeats 400000 in
set_option maxRecDepth 100000 in
theorem c_Id_isFull (l : Launch) {s0 : State} {D : va_G} {ca : Nat → ClassId} (hB : so_B tbl s0 D vcl (tyl ca)) {σ : so_S} {t sa : Nat} {hw br wk : Int32} {sl : Nat → Option En} (M0 : σ t = some (12, oId hw br wk sa (nI (cn sl 16)))) (M : IdR ca σ sa sl) : so_D l s0 D vcl y_Id_isFull b_Id_isFull 1 (some .boolean) 0 [.ref t] σ (fun v => v = some (.int (bI (decide (12 ≤ cn sl 16))))) := by
  refine so_ofR hB (by decide) (Nat.le_of_ble_eq_true rfl) ?_
  intro p e s m below meth c ls S K E hr hlk P hS hl
  have hl : lv_has ls 1 [(0, .ref t)] := hl
  refine lv_aload_n S.1 S.2.1 d_Id_isFull_0 rfl (lv_at hl 0 rfl) ?_
  refine gf_Id_17_Id S K P M0 rfl d_Id_isFull_1 ?_
  refine lv_bipush (v := 12) S.1 S.2.1 d_Id_isFull_4 (by decide) ?_
  refine lv_icmp_lt (tgt := 13) S.1 S.2.1 d_Id_isFull_6 rfl (fun h6 => ?_) (fun h6 => ?_)
  · refine lv_iconst (v := 0) S.1 S.2.1 d_Id_isFull_13 (by decide) ?_
    refine so_zretR S hr rfl hlk ?_ d_Id_isFull_14
    have hc := cn_le sl 16
    first
      | rw [decide_eq_true (Nat.not_lt.mp fun z => h6 (nI_lt (b := 12) z (by omega)))]; rfl
      | rw [decide_eq_false (fun z => absurd h6 (nI_nlt (b := 12) z (by omega)))]; rfl
  · refine lv_iconst (v := 1) S.1 S.2.1 d_Id_isFull_9 (by decide) ?_
    refine lv_goto (tgt := 14) S.1 S.2.1 d_Id_isFull_10 rfl ?_
    refine so_zretR S hr rfl hlk ?_ d_Id_isFull_14
    have hc := cn_le sl 16
    first
      | rw [decide_eq_true (Nat.not_lt.mp fun z => h6 (nI_lt (b := 12) z (by omega)))]; rfl
      | rw [decide_eq_false (fun z => absurd h6 (nI_nlt (b := 12) z (by omega)))]; rfl
set_option maxHeartbeats 400000 in
set_option maxRecDepth 100000 in
theorem c_Id_markOf (l : Launch) {s0 : State} {D : va_G} {ca : Nat → ClassId} (hB : so_B tbl s0 D vcl (tyl ca)) {σ : so_S} (o : Nat) (x y : Int32) : so_D l s0 D vcl y_Id_markOf b_Id_markOf 3 (some .int) 0 [.ref o, .int x, .int y] σ (fun v => v = some (.int x)) := by
  refine so_ofR hB (by decide) (Nat.le_of_ble_eq_true rfl) ?_
  intro p e s m below meth c ls S K E hr hlk P hS hl
  have hl : lv_has ls 3 [(0, .ref o), (1, .int x), (2, .int y)] := hl
  refine lv_iload_n S.1 S.2.1 d_Id_markOf_0 rfl (lv_at hl 1 rfl) ?_
  exact so_iretR S hr hlk rfl d_Id_markOf_1
set_option maxHeartbeats 400000 in
set_option maxRecDepth 100000 in
theorem c_Pl_keyOf (l : Launch) {s0 : State} {D : va_G} {ca : Nat → ClassId} (hB : so_B tbl s0 D vcl (tyl ca)) {σ : so_S} (o : Nat) (x y : Int32) : so_D l s0 D vcl y_Pl_keyOf b_Pl_keyOf 3 (some .int) 0 [.ref o, .int x, .int y] σ (fun v => v = some (.int y)) := by
  refine so_ofR hB (by decide) (Nat.le_of_ble_eq_true rfl) ?_
  intro p e s m below meth c ls S K E hr hlk P hS hl
  have hl : lv_has ls 3 [(0, .ref o), (1, .int x), (2, .int y)] := hl
  refine lv_iload_n S.1 S.2.1 d_Pl_keyOf_0 rfl (lv_at hl 2 rfl) ?_
  exact so_iretR S hr hlk rfl d_Pl_keyOf_1
set_option maxHeartbeats 400000 in
set_option maxRecDepth 100000 in
theorem c_Id_slotOf (l : Launch) {s0 : State} {D : va_G} {ca : Nat → ClassId} (hB : so_B tbl s0 D vcl (tyl ca)) {σ : so_S} {t sa : Nat} {hw br wk : Int32} {sl : Nat → Option En} (M0 : σ t = some (12, oId hw br wk sa (nI (cn sl 16)))) (M : IdR ca σ sa sl) (x : Int32) : so_D l s0 D vcl y_Id_slotOf b_Id_slotOf 4 (some .int) 0 [.ref t, .int x] σ (fun v => (∃ i en, i < 16 ∧ sl i = some en ∧ nI (cn sl i) = x ∧ v = some (.int (nI i))) ∨ ((∀ i en, i < 16 → sl i = some en → nI (cn sl i) ≠ x) ∧ v = some (.int (-1)))) := by
  refine so_ofR hB (by decide) (Nat.le_of_ble_eq_true rfl) ?_
  intro p e s m below meth c ls S K E hr hlk P hS hl
  have hl : lv_has ls 4 [(0, .ref t), (1, .int x)] := hl
  refine lv_iconst (v := 0) S.1 S.2.1 d_Id_slotOf_0 (by decide) ?_
  refine lv_istore_n S.1 S.2.1 d_Id_slotOf_1 rfl hl (by decide) rfl (fun ls hl => ?_)
  refine lv_iconst (v := 0) S.1 S.2.1 d_Id_slotOf_2 (by decide) ?_
  refine lv_istore_n S.1 S.2.1 d_Id_slotOf_3 rfl hl (by decide) rfl (fun ls hl => ?_)
  have hl2 : ls.size = 4 ∧ ls[3]? = some (.val (.int (nI 0))) ∧ ls[2]? = some (.val (.int (nI (cn sl 0)))) ∧ ls[0]? = some (.val (.ref t)) ∧ ls[1]? = some (.val (.int x)) := ⟨hl.1, lv_at hl 0 rfl, lv_at hl 1 rfl, lv_at hl 2 rfl, lv_at hl 3 rfl⟩
  have hl3 : lv_has ls 4 [(3, .int (nI 0)), (2, .int (nI (cn sl 0))), (0, .ref t), (1, .int x)] := hl
  refine so_lpR (Wf := fun ls (_ : Nat) => W p l e _ s m _ below meth c _ _ _ _ _ (F0 m 4 ls [])) (fun n1 ls i => n1 = 16 - i ∧ i ≤ 16 ∧ (∀ j en, j < i → sl j = some en → nI (cn sl j) ≠ x) ∧ (lv_has ls 4 [(3, .int (nI i)), (2, .int (nI (cn sl i))), (0, .ref t), (1, .int x)])) ?_ _ ls 0 ⟨rfl, Nat.zero_le _, fun j en hj => absurd hj (Nat.not_lt_zero _), hl3⟩
  clear hl hl2 hl3
  intro n1 ls i ⟨hn1, hi1, hall, hl⟩ ih
  refine lv_iload_n S.1 S.2.1 d_Id_slotOf_4 rfl (lv_at hl 0 rfl) ?_
  refine lv_bipush (v := 16) S.1 S.2.1 d_Id_slotOf_5 (by decide) ?_
  refine lv_icmp_ge (tgt := 35) S.1 S.2.1 d_Id_slotOf_7 rfl (fun h7 => ?_) (fun h7 => ?_)
  · have hi : 16 ≤ i := Nat.not_lt.mp fun z => absurd h7 (nI_ge (b := 16) z (by omega))
    refine lv_iconst (v := -1) S.1 S.2.1 d_Id_slotOf_35 (by decide) ?_
    exact so_iretR S hr hlk (Or.inr ⟨fun j en hj he => hall j en (by omega) he, rfl⟩) d_Id_slotOf_36
  · have hlt : i < 16 := Nat.not_le.mp fun z => h7 (nI_le (a := 16) z (by omega))
    refine lv_aload_n S.1 S.2.1 d_Id_slotOf_10 rfl (lv_at hl 2 rfl) ?_
    refine gf_Id_11_Id S K P M0 rfl d_Id_slotOf_11 ?_
    refine lv_iload_n S.1 S.2.1 d_Id_slotOf_14 rfl (lv_at hl 0 rfl) ?_
    refine so_aaldN S K P M.1 5 rfl hlt (by decide) d_Id_slotOf_15 ?_
    refine lv_ifnullQ (tgt := 29) S.1 S.2.1 d_Id_slotOf_16 rfl (fun h16 => ?_) (fun q h16 => ?_)
    · have hs : sl i = none := by cases h : sl i with
        | none => rfl
        | some z => rw [h] at h16; cases h16
      refine lv_iinc (k := 0) S.1 S.2.1 d_Id_slotOf_29 hl rfl rfl (by decide) rfl (fun ls hl => ?_)
      refine lv_goto (tgt := 4) S.1 S.2.1 d_Id_slotOf_32 rfl ?_
      rw [nI_a] at hl
      have hc : cn sl (i + 1) = cn sl i := by show cn sl i + _ = _; rw [hs]; rfl
      refine ih (16 - (i + 1)) ls (i + 1) (by omega) ⟨rfl, by omega, fun j en hj he => ?_, by rw [hc]; exact hl⟩
      rcases Nat.lt_succ_iff_lt_or_eq.mp hj with h | h
      · exact hall j en h he
      · rw [h, hs] at he; cases he
    · obtain ⟨en, hs⟩ : ∃ en, sl i = some en := by cases h : sl i with
        | none => rw [h] at h16; cases h16
        | some z => exact ⟨z, rfl⟩
      refine lv_iload_n S.1 S.2.1 d_Id_slotOf_19 rfl (lv_at hl 1 rfl) ?_
      refine lv_iload_n S.1 S.2.1 d_Id_slotOf_20 rfl (lv_at hl 3 rfl) ?_
      refine lv_icmp_ne (tgt := 26) S.1 S.2.1 d_Id_slotOf_21 rfl (fun h21 => ?_) (fun h21 => ?_)
      · refine lv_iinc (k := 1) S.1 S.2.1 d_Id_slotOf_26 hl rfl rfl (by decide) rfl (fun ls hl => ?_)
        refine lv_iinc (k := 1) S.1 S.2.1 d_Id_slotOf_29 hl rfl rfl (by decide) rfl (fun ls hl => ?_)
        refine lv_goto (tgt := 4) S.1 S.2.1 d_Id_slotOf_32 rfl ?_
        rw [nI_a, nI_a] at hl
        have hc : cn sl (i + 1) = cn sl i + 1 := by show cn sl i + _ = _; rw [hs]; rfl
        refine ih (16 - (i + 1)) ls (i + 1) (by omega) ⟨rfl, by omega, fun j en hj he => ?_, by rw [hc]; exact hl⟩
        rcases Nat.lt_succ_iff_lt_or_eq.mp hj with h | h
        · exact hall j en h he
        · rw [h]; exact h21
      · refine lv_iload_n S.1 S.2.1 d_Id_slotOf_24 rfl (lv_at hl 0 rfl) ?_
        exact so_iretR S hr hlk (Or.inl ⟨i, en, hlt, hs, h21, rfl⟩) d_Id_slotOf_25
set_option maxHeartbeats 400000 in
set_option maxRecDepth 100000 in
theorem c_Id_entryAt (l : Launch) {s0 : State} {D : va_G} {ca : Nat → ClassId} (hB : so_B tbl s0 D vcl (tyl ca)) {σ : so_S} {t sa : Nat} {hw br wk : Int32} {sl : Nat → Option En} (M0 : σ t = some (12, oId hw br wk sa (nI (cn sl 16)))) (M : IdR ca σ sa sl) (x : Int32) : so_D l s0 D vcl y_Id_entryAt b_Id_entryAt 3 (some (.object "HoldMaps$Entry")) 1 [.ref t, .int x] σ (fun v => v = some (va_rf ((atI (idN sl 16) x).map (fun e => e.1)))) := by
  refine so_ofR hB (by decide) (Nat.le_of_ble_eq_true rfl) ?_
  intro p e s m below meth c ls S K E hr hlk P hS hl
  have hl : lv_has ls 3 [(0, .ref t), (1, .int x)] := hl
  have hc16 := cn_le sl 16
  refine lv_aload_n S.1 S.2.1 d_Id_entryAt_0 rfl (lv_at hl 0 rfl) ?_
  refine lv_iload_n S.1 S.2.1 d_Id_entryAt_1 rfl (lv_at hl 1 rfl) ?_
  refine so_callR (cv_Id_21_Id S hB K E P hS M0 (c_Id_slotOf l hB M0 M x) rfl (by decide) (Nat.zero_le _) (Nat.zero_le _) hl.1 rfl (Nat.le_of_ble_eq_true rfl) d_Id_entryAt_2) (fun v hv => ?_)
  rcases hv with ⟨i, en, hi, hs, hx, rfl⟩ | ⟨hno, rfl⟩
  · have hci := cn_mono (f := sl) (show i ≤ 16 by omega)
    refine lv_istore_n S.1 S.2.1 d_Id_entryAt_5 rfl hl (by decide) rfl (fun ls hl => ?_)
    refine lv_iload_n S.1 S.2.1 d_Id_entryAt_6 rfl (lv_at hl 0 rfl) ?_
    refine lv_iconst (v := -1) S.1 S.2.1 d_Id_entryAt_7 (by decide) ?_
    refine lv_icmp_ne (tgt := 15) S.1 S.2.1 d_Id_entryAt_8 rfl (fun h8 => ?_) (fun h8 => absurd (show nI i < 0 by rw [h8]; decide) (nI_pos (by omega)))
    refine lv_aload_n S.1 S.2.1 d_Id_entryAt_15 rfl (lv_at hl 1 rfl) ?_
    refine gf_Id_11_Id S K P M0 rfl d_Id_entryAt_16 ?_
    refine lv_iload_n S.1 S.2.1 d_Id_entryAt_19 rfl (lv_at hl 0 rfl) ?_
    refine so_aaldN S K P M.1 5 rfl hi (by decide) d_Id_entryAt_20 ?_
    refine so_aretR S hr (Or.inl ⟨_, rfl⟩) hlk ?_ d_Id_entryAt_21
    rw [← hx, atI_o (by rw [idN_len]; omega) (by omega), idN_at hs (by omega), hs]
  · refine lv_istore_n S.1 S.2.1 d_Id_entryAt_5 rfl hl (by decide) rfl (fun ls hl => ?_)
    refine lv_iload_n S.1 S.2.1 d_Id_entryAt_6 rfl (lv_at hl 0 rfl) ?_
    refine lv_iconst (v := -1) S.1 S.2.1 d_Id_entryAt_7 (by decide) ?_
    refine lv_icmp_ne (tgt := 15) S.1 S.2.1 d_Id_entryAt_8 rfl (fun h8 => absurd rfl h8) (fun h8 => ?_)
    refine lv_null S.1 S.2.1 d_Id_entryAt_11 ?_
    refine lv_goto (tgt := 21) S.1 S.2.1 d_Id_entryAt_12 rfl ?_
    refine so_aretR (v := none) S hr (Or.inl ⟨_, rfl⟩) hlk ?_ d_Id_entryAt_21
    have hn : atI (idN sl 16) x = none := by
      cases ho : atI (idN sl 16) x with
      | none => rfl
      | some z =>
        unfold atI at ho
        split at ho
        · cases ho
        · rename_i g1
          split at ho
          · cases ho
          · rename_i g2
            obtain ⟨j, hj, rfl⟩ := ix_in (by rw [idN_len]; omega) rfl g1 g2
            obtain ⟨i, en, a1, a2, a3, a4⟩ := idN_ix hj
            exact absurd (by rw [a3]) (hno i en a1 a2)
    rw [hn]
    rfl
set_option maxHeartbeats 400000 in
set_option maxRecDepth 100000 in
theorem c_Ta_keyAt_We (l : Launch) {s0 : State} {D : va_G} {ca : Nat → ClassId} (hB : so_B tbl s0 D vcl (tyl ca)) {σ : so_S} {DE t row : Nat} {mv : Nat} {x0 : Int32} {hw br wk : Int32} {L : List En} (M0 : σ t = some (10, oWe hw br wk row mv x0)) (M : RwR ca DE σ 0 row L) (hL : L.length < 1000) (x : Int32) : so_D l s0 D vcl y_Ta_keyAt b_Ta_keyAt 3 (some .int) 4 [.ref t, .int x] σ (fun v => v = some (.int (kI (atI L x)))) := by
  refine so_ofR hB (by decide) (Nat.le_of_ble_eq_true rfl) ?_
  intro p e s m below meth c ls S K E hr hlk P hS hl
  have hl : lv_has ls 3 [(0, .ref t), (1, .int x)] := hl
  have hA : ∀ en, atI L x = some en → enT σ 0 en := fun en h => M.2 en (atI_mem h)
  refine lv_aload_n S.1 S.2.1 d_Ta_keyAt_0 rfl (lv_at hl 0 rfl) ?_
  refine lv_iload_n S.1 S.2.1 d_Ta_keyAt_1 rfl (lv_at hl 1 rfl) ?_
  refine so_callR (cv_Ta_9_We S hB K E P hS M0 (c_Ro_entryAt_We l hB M0 M hL x) rfl (by decide) (Nat.zero_le _) (Nat.zero_le _) hl.1 rfl (Nat.le_of_ble_eq_true rfl) d_Ta_keyAt_2) (fun v hv => ?_)
  subst hv
  generalize atI L x = o at hA ⊢
  cases o with
  | none =>
    refine lv_astore_nQ (r := none) S.1 S.2.1 d_Ta_keyAt_5 rfl hl (by decide) rfl (fun ls hl => ?_)
    refine lv_aload_nQ (r := none) S.1 S.2.1 d_Ta_keyAt_6 rfl (lv_at hl 0 rfl) ?_
    refine lv_ifnonnullQ (r := none) (tgt := 14) S.1 S.2.1 d_Ta_keyAt_7 rfl (fun q h => by cases h) (fun _ => ?_)
    refine lv_iconst (v := -1) S.1 S.2.1 d_Ta_keyAt_10 (by decide) ?_
    refine lv_goto (tgt := 18) S.1 S.2.1 d_Ta_keyAt_11 rfl ?_
    exact so_iretR S hr hlk rfl d_Ta_keyAt_18
  | some en =>
    refine lv_astore_nQ (r := some en.1) S.1 S.2.1 d_Ta_keyAt_5 rfl hl (by decide) rfl (fun ls hl => ?_)
    refine lv_aload_nQ (r := some en.1) S.1 S.2.1 d_Ta_keyAt_6 rfl (lv_at hl 0 rfl) ?_
    refine lv_ifnonnullQ (r := some en.1) (tgt := 14) S.1 S.2.1 d_Ta_keyAt_7 rfl (fun q h => ?_) (fun h => by cases h)
    cases h
    refine lv_aload_nQ (r := some en.1) S.1 S.2.1 d_Ta_keyAt_14 rfl (lv_at hl 0 rfl) ?_
    refine gf_Ta_15_En S K P (hA en rfl).2 rfl d_Ta_keyAt_15 ?_
    exact so_iretR S hr hlk rfl d_Ta_keyAt_18
set_option maxHeartbeats 400000 in
set_option maxRecDepth 100000 in
theorem c_Ta_valueAt_We (l : Launch) {s0 : State} {D : va_G} {ca : Nat → ClassId} (hB : so_B tbl s0 D vcl (tyl ca)) {σ : so_S} {DE t row : Nat} {mv : Nat} {x0 : Int32} {hw br wk : Int32} {L : List En} (M0 : σ t = some (10, oWe hw br wk row mv x0)) (M : RwR ca DE σ 0 row L) (hL : L.length < 1000) (x : Int32) : so_D l s0 D vcl y_Ta_valueAt b_Ta_valueAt 3 (some .int) 4 [.ref t, .int x] σ (fun v => v = some (.int (vI (atI L x)))) := by
  refine so_ofR hB (by decide) (Nat.le_of_ble_eq_true rfl) ?_
  intro p e s m below meth c ls S K E hr hlk P hS hl
  have hl : lv_has ls 3 [(0, .ref t), (1, .int x)] := hl
  have hA : ∀ en, atI L x = some en → enT σ 0 en := fun en h => M.2 en (atI_mem h)
  refine lv_aload_n S.1 S.2.1 d_Ta_valueAt_0 rfl (lv_at hl 0 rfl) ?_
  refine lv_iload_n S.1 S.2.1 d_Ta_valueAt_1 rfl (lv_at hl 1 rfl) ?_
  refine so_callR (cv_Ta_9_We S hB K E P hS M0 (c_Ro_entryAt_We l hB M0 M hL x) rfl (by decide) (Nat.zero_le _) (Nat.zero_le _) hl.1 rfl (Nat.le_of_ble_eq_true rfl) d_Ta_valueAt_2) (fun v hv => ?_)
  subst hv
  generalize atI L x = o at hA ⊢
  cases o with
  | none =>
    refine lv_astore_nQ (r := none) S.1 S.2.1 d_Ta_valueAt_5 rfl hl (by decide) rfl (fun ls hl => ?_)
    refine lv_aload_nQ (r := none) S.1 S.2.1 d_Ta_valueAt_6 rfl (lv_at hl 0 rfl) ?_
    refine lv_ifnonnullQ (r := none) (tgt := 14) S.1 S.2.1 d_Ta_valueAt_7 rfl (fun q h => by cases h) (fun _ => ?_)
    refine lv_iconst (v := -1) S.1 S.2.1 d_Ta_valueAt_10 (by decide) ?_
    refine lv_goto (tgt := 18) S.1 S.2.1 d_Ta_valueAt_11 rfl ?_
    exact so_iretR S hr hlk rfl d_Ta_valueAt_18
  | some en =>
    refine lv_astore_nQ (r := some en.1) S.1 S.2.1 d_Ta_valueAt_5 rfl hl (by decide) rfl (fun ls hl => ?_)
    refine lv_aload_nQ (r := some en.1) S.1 S.2.1 d_Ta_valueAt_6 rfl (lv_at hl 0 rfl) ?_
    refine lv_ifnonnullQ (r := some en.1) (tgt := 14) S.1 S.2.1 d_Ta_valueAt_7 rfl (fun q h => ?_) (fun h => by cases h)
    cases h
    refine lv_aload_nQ (r := some en.1) S.1 S.2.1 d_Ta_valueAt_14 rfl (lv_at hl 0 rfl) ?_
    refine gf_Ta_21_En S K P (hA en rfl).2 rfl d_Ta_valueAt_15 ?_
    exact so_iretR S hr hlk rfl d_Ta_valueAt_18
set_option maxHeartbeats 400000 in
set_option maxRecDepth 100000 in
theorem c_Ta_find_We (l : Launch) {s0 : State} {D : va_G} {ca : Nat → ClassId} (hB : so_B tbl s0 D vcl (tyl ca)) {σ : so_S} {DE t row : Nat} {mv : Nat} {x0 : Int32} {hw br wk : Int32} {L : List En} (M0 : σ t = some (10, oWe hw br wk row mv x0)) (M : RwR ca DE σ 0 row L) (hL : L.length < 1000) (mk : Nat) (hmk : mk < 1000) : so_D l s0 D vcl y_Ta_find b_Ta_find 4 (some .int) 4 [.ref t, .int (nI mk)] σ (fun v => v = some (.int (rI (fiM L mk)))) := by
  refine so_ofR hB (by decide) (Nat.le_of_ble_eq_true rfl) ?_
  intro p e s m below meth c ls S K E hr hlk P hS hl
  have hl : lv_has ls 4 [(0, .ref t), (1, .int (nI mk))] := hl
  have hlen : L.length < 2 ^ 31 := by omega
  refine lv_iconst (v := 0) S.1 S.2.1 d_Ta_find_0 (by decide) ?_
  refine lv_istore_n S.1 S.2.1 d_Ta_find_1 rfl hl (by decide) rfl (fun ls hl => ?_)
  refine so_lpR (Wf := fun ls (_ : Nat) => W p l e _ s m _ below meth c _ _ _ _ _ (F0 m 2 ls [])) (fun n1 ls i => n1 = L.length - i ∧ i ≤ L.length ∧ (∀ (j : Nat) (x : En), j < i → L[j]? = some x → x.2.2.1 ≠ mk) ∧ (lv_has ls 4 [(2, .int (nI i)), (0, .ref t), (1, .int (nI mk))] ∨ ∃ r, lv_has ls 4 [(2, .int (nI i)), (3, va_rf r), (0, .ref t), (1, .int (nI mk))])) ?_ _ ls 0 ⟨rfl, Nat.zero_le _, fun j en hj => absurd hj (Nat.not_lt_zero _), Or.inl hl⟩
  clear hl
  intro n1 ls i ⟨hn1, hi1, hall, hl⟩ ih
  have hsz : ls.size = 4 := by rcases hl with hl | ⟨r, hl⟩ <;> exact hl.1
  have g2 : ls[2]? = some (.val (.int (nI i))) := by rcases hl with hl | ⟨r, hl⟩ <;> exact lv_at hl 0 rfl
  have g0 : ls[0]? = some (.val (.ref t)) := by rcases hl with hl | ⟨r, hl⟩; exact lv_at hl 1 rfl; exact lv_at hl 2 rfl
  have g1 : ls[1]? = some (.val (.int (nI mk))) := by rcases hl with hl | ⟨r, hl⟩; exact lv_at hl 2 rfl; exact lv_at hl 3 rfl
  refine lv_iload_n S.1 S.2.1 d_Ta_find_2 rfl g2 ?_
  refine lv_aload_n S.1 S.2.1 d_Ta_find_3 rfl g0 ?_
  refine so_callR (cv_Ta_24_We S hB K E P hS M0 (c_Ro_length_We l hB M0 M) rfl (by decide) (Nat.zero_le _) (Nat.zero_le _) hsz rfl (Nat.le_of_ble_eq_true rfl) d_Ta_find_4) (fun v hv => ?_)
  subst hv
  refine lv_icmp_ge (tgt := 36) S.1 S.2.1 d_Ta_find_7 rfl (fun h7 => ?_) (fun h7 => ?_)
  · have hi : L.length ≤ i := Nat.not_lt.mp fun z => absurd h7 (nI_ge z hlen)
    refine lv_iconst (v := -1) S.1 S.2.1 d_Ta_find_36 (by decide) ?_
    refine so_iretR S hr hlk ?_ d_Ta_find_37
    rw [fiM_none (fun j x hj => hall j x (by have := (List.getElem?_eq_some_iff.mp hj).1; omega) hj)]
    rfl
  · have hlt : i < L.length := Nat.not_le.mp fun z => h7 (nI_le z (by omega))
    refine lv_aload_n S.1 S.2.1 d_Ta_find_10 rfl g0 ?_
    refine lv_iload_n S.1 S.2.1 d_Ta_find_11 rfl g2 ?_
    refine so_callR (cv_Ta_9_We S hB K E P hS M0 (c_Ro_entryAt_We l hB M0 M hL (nI i)) rfl (by decide) (Nat.zero_le _) (Nat.zero_le _) hsz rfl (Nat.le_of_ble_eq_true rfl) d_Ta_find_12) (fun v hv => ?_)
    subst hv
    have hi0 := atI_nI hlt hlen
    have hA : enT σ 0 L[i] := M.2 _ (List.getElem_mem hlt)
    have hgi : L[i]? = some L[i] := List.getElem?_eq_getElem hlt
    rw [hi0]
    generalize L[i] = en at hA hgi ⊢
    have stq : ∀ Q : Prop, (∀ ls1, lv_has ls1 4 [(3, va_rf (some en.1)), (2, .int (nI i)), (0, .ref t), (1, .int (nI mk))] → Q) → (∀ ls1, lv_has ls1 4 [(3, va_rf (some en.1)), (2, .int (nI i)), (0, .ref t), (1, .int (nI mk))] → Q) := fun _ h => h
    have tail : ∀ ls, lv_has ls 4 [(3, va_rf (some en.1)), (2, .int (nI i)), (0, .ref t), (1, .int (nI mk))] → W p l e (so_rm 4 0 0) s m #[.ref t, .int (nI mk)] below meth c s.heap [] 0 0 (MQ below (so_R (fun v => v = some (.int (rI (fiM L mk))))) #[.ref t, .int (nI mk)] s 0 0 (fun _ => False)) (F0 m 16 ls []) := by
      intro ls hl
      refine lv_aload_nQ (r := some en.1) S.1 S.2.1 d_Ta_find_16 rfl (lv_at hl 0 rfl) ?_
      refine lv_ifnullQ (r := some en.1) (tgt := 30) S.1 S.2.1 d_Ta_find_17 rfl (fun h => by cases h) (fun q h => ?_)
      cases h
      refine lv_aload_nQ (r := some en.1) S.1 S.2.1 d_Ta_find_20 rfl (lv_at hl 0 rfl) ?_
      refine gf_Ta_28_En S K P hA.2 rfl d_Ta_find_21 ?_
      refine lv_iload_n S.1 S.2.1 d_Ta_find_24 rfl (lv_at hl 3 rfl) ?_
      refine lv_icmp_ne (tgt := 30) S.1 S.2.1 d_Ta_find_25 rfl (fun h25 => ?_) (fun h25 => ?_)
      · refine lv_iinc (k := 1) S.1 S.2.1 d_Ta_find_30 hl rfl rfl (by decide) rfl (fun ls hl => ?_)
        refine lv_goto (tgt := 2) S.1 S.2.1 d_Ta_find_33 rfl ?_
        rw [nI_a] at hl
        refine ih (L.length - (i + 1)) ls (i + 1) (by omega) ⟨rfl, by omega, fun j x hj hx => ?_, Or.inr ⟨_, hl⟩⟩
        rcases Nat.lt_succ_iff_lt_or_eq.mp hj with h | h
        · exact hall j x h hx
        · rw [h, hgi] at hx
          cases hx
          exact fun z => h25 (congrArg nI z)
      · refine lv_iload_n S.1 S.2.1 d_Ta_find_28 rfl (lv_at hl 1 rfl) ?_
        refine so_iretR S hr hlk ?_ d_Ta_find_29
        rw [fiM_some hgi ((nI_eq (by have := hA.1; omega) (by omega)).mp h25) hall]
        rfl
    rcases hl with hl | ⟨r, hl⟩
    · exact lv_astore_nQ (r := some en.1) S.1 S.2.1 d_Ta_find_15 rfl hl (by decide) rfl tail
    · exact lv_astore_nQ (r := some en.1) S.1 S.2.1 d_Ta_find_15 rfl hl (by decide) rfl tail
set_option maxHeartbeats 400000 in
set_option maxRecDepth 100000 in
theorem c_Ta_keyAt_So (l : Launch) {s0 : State} {D : va_G} {ca : Nat → ClassId} (hB : so_B tbl s0 D vcl (tyl ca)) {σ : so_S} {DE t row : Nat} {x0 : Int32} {hw br wk : Int32} {L : List En} (M0 : σ t = some (11, oSo hw br wk row x0)) (M : RwR ca DE σ 1 row L) (hL : L.length < 1000) (x : Int32) : so_D l s0 D vcl y_Ta_keyAt b_Ta_keyAt 3 (some .int) 4 [.ref t, .int x] σ (fun v => v = some (.int (kI (atI L x)))) := by
  refine so_ofR hB (by decide) (Nat.le_of_ble_eq_true rfl) ?_
  intro p e s m below meth c ls S K E hr hlk P hS hl
  have hl : lv_has ls 3 [(0, .ref t), (1, .int x)] := hl
  have hA : ∀ en, atI L x = some en → enT σ 1 en := fun en h => M.2 en (atI_mem h)
  refine lv_aload_n S.1 S.2.1 d_Ta_keyAt_0 rfl (lv_at hl 0 rfl) ?_
  refine lv_iload_n S.1 S.2.1 d_Ta_keyAt_1 rfl (lv_at hl 1 rfl) ?_
  refine so_callR (cv_Ta_9_So S hB K E P hS M0 (c_Ro_entryAt_So l hB M0 M hL x) rfl (by decide) (Nat.zero_le _) (Nat.zero_le _) hl.1 rfl (Nat.le_of_ble_eq_true rfl) d_Ta_keyAt_2) (fun v hv => ?_)
  subst hv
  generalize atI L x = o at hA ⊢
  cases o with
  | none =>
    refine lv_astore_nQ (r := none) S.1 S.2.1 d_Ta_keyAt_5 rfl hl (by decide) rfl (fun ls hl => ?_)
    refine lv_aload_nQ (r := none) S.1 S.2.1 d_Ta_keyAt_6 rfl (lv_at hl 0 rfl) ?_
    refine lv_ifnonnullQ (r := none) (tgt := 14) S.1 S.2.1 d_Ta_keyAt_7 rfl (fun q h => by cases h) (fun _ => ?_)
    refine lv_iconst (v := -1) S.1 S.2.1 d_Ta_keyAt_10 (by decide) ?_
    refine lv_goto (tgt := 18) S.1 S.2.1 d_Ta_keyAt_11 rfl ?_
    exact so_iretR S hr hlk rfl d_Ta_keyAt_18
  | some en =>
    refine lv_astore_nQ (r := some en.1) S.1 S.2.1 d_Ta_keyAt_5 rfl hl (by decide) rfl (fun ls hl => ?_)
    refine lv_aload_nQ (r := some en.1) S.1 S.2.1 d_Ta_keyAt_6 rfl (lv_at hl 0 rfl) ?_
    refine lv_ifnonnullQ (r := some en.1) (tgt := 14) S.1 S.2.1 d_Ta_keyAt_7 rfl (fun q h => ?_) (fun h => by cases h)
    cases h
    refine lv_aload_nQ (r := some en.1) S.1 S.2.1 d_Ta_keyAt_14 rfl (lv_at hl 0 rfl) ?_
    refine gf_Ta_15_En S K P (hA en rfl).2 rfl d_Ta_keyAt_15 ?_
    exact so_iretR S hr hlk rfl d_Ta_keyAt_18
set_option maxHeartbeats 400000 in
set_option maxRecDepth 100000 in
theorem c_Ta_valueAt_So (l : Launch) {s0 : State} {D : va_G} {ca : Nat → ClassId} (hB : so_B tbl s0 D vcl (tyl ca)) {σ : so_S} {DE t row : Nat} {x0 : Int32} {hw br wk : Int32} {L : List En} (M0 : σ t = some (11, oSo hw br wk row x0)) (M : RwR ca DE σ 1 row L) (hL : L.length < 1000) (x : Int32) : so_D l s0 D vcl y_Ta_valueAt b_Ta_valueAt 3 (some .int) 4 [.ref t, .int x] σ (fun v => v = some (.int (vI (atI L x)))) := by
  refine so_ofR hB (by decide) (Nat.le_of_ble_eq_true rfl) ?_
  intro p e s m below meth c ls S K E hr hlk P hS hl
  have hl : lv_has ls 3 [(0, .ref t), (1, .int x)] := hl
  have hA : ∀ en, atI L x = some en → enT σ 1 en := fun en h => M.2 en (atI_mem h)
  refine lv_aload_n S.1 S.2.1 d_Ta_valueAt_0 rfl (lv_at hl 0 rfl) ?_
  refine lv_iload_n S.1 S.2.1 d_Ta_valueAt_1 rfl (lv_at hl 1 rfl) ?_
  refine so_callR (cv_Ta_9_So S hB K E P hS M0 (c_Ro_entryAt_So l hB M0 M hL x) rfl (by decide) (Nat.zero_le _) (Nat.zero_le _) hl.1 rfl (Nat.le_of_ble_eq_true rfl) d_Ta_valueAt_2) (fun v hv => ?_)
  subst hv
  generalize atI L x = o at hA ⊢
  cases o with
  | none =>
    refine lv_astore_nQ (r := none) S.1 S.2.1 d_Ta_valueAt_5 rfl hl (by decide) rfl (fun ls hl => ?_)
    refine lv_aload_nQ (r := none) S.1 S.2.1 d_Ta_valueAt_6 rfl (lv_at hl 0 rfl) ?_
    refine lv_ifnonnullQ (r := none) (tgt := 14) S.1 S.2.1 d_Ta_valueAt_7 rfl (fun q h => by cases h) (fun _ => ?_)
    refine lv_iconst (v := -1) S.1 S.2.1 d_Ta_valueAt_10 (by decide) ?_
    refine lv_goto (tgt := 18) S.1 S.2.1 d_Ta_valueAt_11 rfl ?_
    exact so_iretR S hr hlk rfl d_Ta_valueAt_18
  | some en =>
    refine lv_astore_nQ (r := some en.1) S.1 S.2.1 d_Ta_valueAt_5 rfl hl (by decide) rfl (fun ls hl => ?_)
    refine lv_aload_nQ (r := some en.1) S.1 S.2.1 d_Ta_valueAt_6 rfl (lv_at hl 0 rfl) ?_
    refine lv_ifnonnullQ (r := some en.1) (tgt := 14) S.1 S.2.1 d_Ta_valueAt_7 rfl (fun q h => ?_) (fun h => by cases h)
    cases h
    refine lv_aload_nQ (r := some en.1) S.1 S.2.1 d_Ta_valueAt_14 rfl (lv_at hl 0 rfl) ?_
    refine gf_Ta_21_En S K P (hA en rfl).2 rfl d_Ta_valueAt_15 ?_
    exact so_iretR S hr hlk rfl d_Ta_valueAt_18
set_option maxHeartbeats 400000 in
set_option maxRecDepth 100000 in
theorem c_Ta_find_So (l : Launch) {s0 : State} {D : va_G} {ca : Nat → ClassId} (hB : so_B tbl s0 D vcl (tyl ca)) {σ : so_S} {DE t row : Nat} {x0 : Int32} {hw br wk : Int32} {L : List En} (M0 : σ t = some (11, oSo hw br wk row x0)) (M : RwR ca DE σ 1 row L) (hL : L.length < 1000) (mk : Nat) (hmk : mk < 1000) : so_D l s0 D vcl y_Ta_find b_Ta_find 4 (some .int) 4 [.ref t, .int (nI mk)] σ (fun v => v = some (.int (rI (fiM L mk)))) := by
  refine so_ofR hB (by decide) (Nat.le_of_ble_eq_true rfl) ?_
  intro p e s m below meth c ls S K E hr hlk P hS hl
  have hl : lv_has ls 4 [(0, .ref t), (1, .int (nI mk))] := hl
  have hlen : L.length < 2 ^ 31 := by omega
  refine lv_iconst (v := 0) S.1 S.2.1 d_Ta_find_0 (by decide) ?_
  refine lv_istore_n S.1 S.2.1 d_Ta_find_1 rfl hl (by decide) rfl (fun ls hl => ?_)
  refine so_lpR (Wf := fun ls (_ : Nat) => W p l e _ s m _ below meth c _ _ _ _ _ (F0 m 2 ls [])) (fun n1 ls i => n1 = L.length - i ∧ i ≤ L.length ∧ (∀ (j : Nat) (x : En), j < i → L[j]? = some x → x.2.2.1 ≠ mk) ∧ (lv_has ls 4 [(2, .int (nI i)), (0, .ref t), (1, .int (nI mk))] ∨ ∃ r, lv_has ls 4 [(2, .int (nI i)), (3, va_rf r), (0, .ref t), (1, .int (nI mk))])) ?_ _ ls 0 ⟨rfl, Nat.zero_le _, fun j en hj => absurd hj (Nat.not_lt_zero _), Or.inl hl⟩
  clear hl
  intro n1 ls i ⟨hn1, hi1, hall, hl⟩ ih
  have hsz : ls.size = 4 := by rcases hl with hl | ⟨r, hl⟩ <;> exact hl.1
  have g2 : ls[2]? = some (.val (.int (nI i))) := by rcases hl with hl | ⟨r, hl⟩ <;> exact lv_at hl 0 rfl
  have g0 : ls[0]? = some (.val (.ref t)) := by rcases hl with hl | ⟨r, hl⟩; exact lv_at hl 1 rfl; exact lv_at hl 2 rfl
  have g1 : ls[1]? = some (.val (.int (nI mk))) := by rcases hl with hl | ⟨r, hl⟩; exact lv_at hl 2 rfl; exact lv_at hl 3 rfl
  refine lv_iload_n S.1 S.2.1 d_Ta_find_2 rfl g2 ?_
  refine lv_aload_n S.1 S.2.1 d_Ta_find_3 rfl g0 ?_
  refine so_callR (cv_Ta_24_So S hB K E P hS M0 (c_Ro_length_So l hB M0 M) rfl (by decide) (Nat.zero_le _) (Nat.zero_le _) hsz rfl (Nat.le_of_ble_eq_true rfl) d_Ta_find_4) (fun v hv => ?_)
  subst hv
  refine lv_icmp_ge (tgt := 36) S.1 S.2.1 d_Ta_find_7 rfl (fun h7 => ?_) (fun h7 => ?_)
  · have hi : L.length ≤ i := Nat.not_lt.mp fun z => absurd h7 (nI_ge z hlen)
    refine lv_iconst (v := -1) S.1 S.2.1 d_Ta_find_36 (by decide) ?_
    refine so_iretR S hr hlk ?_ d_Ta_find_37
    rw [fiM_none (fun j x hj => hall j x (by have := (List.getElem?_eq_some_iff.mp hj).1; omega) hj)]
    rfl
  · have hlt : i < L.length := Nat.not_le.mp fun z => h7 (nI_le z (by omega))
    refine lv_aload_n S.1 S.2.1 d_Ta_find_10 rfl g0 ?_
    refine lv_iload_n S.1 S.2.1 d_Ta_find_11 rfl g2 ?_
    refine so_callR (cv_Ta_9_So S hB K E P hS M0 (c_Ro_entryAt_So l hB M0 M hL (nI i)) rfl (by decide) (Nat.zero_le _) (Nat.zero_le _) hsz rfl (Nat.le_of_ble_eq_true rfl) d_Ta_find_12) (fun v hv => ?_)
    subst hv
    have hi0 := atI_nI hlt hlen
    have hA : enT σ 1 L[i] := M.2 _ (List.getElem_mem hlt)
    have hgi : L[i]? = some L[i] := List.getElem?_eq_getElem hlt
    rw [hi0]
    generalize L[i] = en at hA hgi ⊢
    have stq : ∀ Q : Prop, (∀ ls1, lv_has ls1 4 [(3, va_rf (some en.1)), (2, .int (nI i)), (0, .ref t), (1, .int (nI mk))] → Q) → (∀ ls1, lv_has ls1 4 [(3, va_rf (some en.1)), (2, .int (nI i)), (0, .ref t), (1, .int (nI mk))] → Q) := fun _ h => h
    have tail : ∀ ls, lv_has ls 4 [(3, va_rf (some en.1)), (2, .int (nI i)), (0, .ref t), (1, .int (nI mk))] → W p l e (so_rm 4 0 0) s m #[.ref t, .int (nI mk)] below meth c s.heap [] 0 0 (MQ below (so_R (fun v => v = some (.int (rI (fiM L mk))))) #[.ref t, .int (nI mk)] s 0 0 (fun _ => False)) (F0 m 16 ls []) := by
      intro ls hl
      refine lv_aload_nQ (r := some en.1) S.1 S.2.1 d_Ta_find_16 rfl (lv_at hl 0 rfl) ?_
      refine lv_ifnullQ (r := some en.1) (tgt := 30) S.1 S.2.1 d_Ta_find_17 rfl (fun h => by cases h) (fun q h => ?_)
      cases h
      refine lv_aload_nQ (r := some en.1) S.1 S.2.1 d_Ta_find_20 rfl (lv_at hl 0 rfl) ?_
      refine gf_Ta_28_En S K P hA.2 rfl d_Ta_find_21 ?_
      refine lv_iload_n S.1 S.2.1 d_Ta_find_24 rfl (lv_at hl 3 rfl) ?_
      refine lv_icmp_ne (tgt := 30) S.1 S.2.1 d_Ta_find_25 rfl (fun h25 => ?_) (fun h25 => ?_)
      · refine lv_iinc (k := 1) S.1 S.2.1 d_Ta_find_30 hl rfl rfl (by decide) rfl (fun ls hl => ?_)
        refine lv_goto (tgt := 2) S.1 S.2.1 d_Ta_find_33 rfl ?_
        rw [nI_a] at hl
        refine ih (L.length - (i + 1)) ls (i + 1) (by omega) ⟨rfl, by omega, fun j x hj hx => ?_, Or.inr ⟨_, hl⟩⟩
        rcases Nat.lt_succ_iff_lt_or_eq.mp hj with h | h
        · exact hall j x h hx
        · rw [h, hgi] at hx
          cases hx
          exact fun z => h25 (congrArg nI z)
      · refine lv_iload_n S.1 S.2.1 d_Ta_find_28 rfl (lv_at hl 1 rfl) ?_
        refine so_iretR S hr hlk ?_ d_Ta_find_29
        rw [fiM_some hgi ((nI_eq (by have := hA.1; omega) (by omega)).mp h25) hall]
        rfl
    rcases hl with hl | ⟨r, hl⟩
    · exact lv_astore_nQ (r := some en.1) S.1 S.2.1 d_Ta_find_15 rfl hl (by decide) rfl tail
    · exact lv_astore_nQ (r := some en.1) S.1 S.2.1 d_Ta_find_15 rfl hl (by decide) rfl tail
set_option maxHeartbeats 400000 in
set_option maxRecDepth 100000 in
theorem c_Ta_keyAt_Id (l : Launch) {s0 : State} {D : va_G} {ca : Nat → ClassId} (hB : so_B tbl s0 D vcl (tyl ca)) {σ : so_S} {t sa : Nat} {hw br wk : Int32} {sl : Nat → Option En} (M0 : σ t = some (12, oId hw br wk sa (nI (cn sl 16)))) (M : IdR ca σ sa sl) (x : Int32) : so_D l s0 D vcl y_Ta_keyAt b_Ta_keyAt 3 (some .int) 4 [.ref t, .int x] σ (fun v => v = some (.int (kI (atI (idN sl 16) x)))) := by
  refine so_ofR hB (by decide) (Nat.le_of_ble_eq_true rfl) ?_
  intro p e s m below meth c ls S K E hr hlk P hS hl
  have hl : lv_has ls 3 [(0, .ref t), (1, .int x)] := hl
  have hA : ∀ en, atI (idN sl 16) x = some en → enT σ 2 en := fun en h => by obtain ⟨i, hi, hs⟩ := idN_mem (atI_mem h); exact M.2 i hi en hs
  refine lv_aload_n S.1 S.2.1 d_Ta_keyAt_0 rfl (lv_at hl 0 rfl) ?_
  refine lv_iload_n S.1 S.2.1 d_Ta_keyAt_1 rfl (lv_at hl 1 rfl) ?_
  refine so_callR (cv_Ta_9_Id S hB K E P hS M0 (c_Id_entryAt l hB M0 M x) rfl (by decide) (Nat.zero_le _) (Nat.zero_le _) hl.1 rfl (Nat.le_of_ble_eq_true rfl) d_Ta_keyAt_2) (fun v hv => ?_)
  subst hv
  generalize atI (idN sl 16) x = o at hA ⊢
  cases o with
  | none =>
    refine lv_astore_nQ (r := none) S.1 S.2.1 d_Ta_keyAt_5 rfl hl (by decide) rfl (fun ls hl => ?_)
    refine lv_aload_nQ (r := none) S.1 S.2.1 d_Ta_keyAt_6 rfl (lv_at hl 0 rfl) ?_
    refine lv_ifnonnullQ (r := none) (tgt := 14) S.1 S.2.1 d_Ta_keyAt_7 rfl (fun q h => by cases h) (fun _ => ?_)
    refine lv_iconst (v := -1) S.1 S.2.1 d_Ta_keyAt_10 (by decide) ?_
    refine lv_goto (tgt := 18) S.1 S.2.1 d_Ta_keyAt_11 rfl ?_
    exact so_iretR S hr hlk rfl d_Ta_keyAt_18
  | some en =>
    refine lv_astore_nQ (r := some en.1) S.1 S.2.1 d_Ta_keyAt_5 rfl hl (by decide) rfl (fun ls hl => ?_)
    refine lv_aload_nQ (r := some en.1) S.1 S.2.1 d_Ta_keyAt_6 rfl (lv_at hl 0 rfl) ?_
    refine lv_ifnonnullQ (r := some en.1) (tgt := 14) S.1 S.2.1 d_Ta_keyAt_7 rfl (fun q h => ?_) (fun h => by cases h)
    cases h
    refine lv_aload_nQ (r := some en.1) S.1 S.2.1 d_Ta_keyAt_14 rfl (lv_at hl 0 rfl) ?_
    refine gf_Ta_15_En S K P (hA en rfl).2 rfl d_Ta_keyAt_15 ?_
    exact so_iretR S hr hlk rfl d_Ta_keyAt_18
set_option maxHeartbeats 400000 in
set_option maxRecDepth 100000 in
theorem c_Ta_valueAt_Id (l : Launch) {s0 : State} {D : va_G} {ca : Nat → ClassId} (hB : so_B tbl s0 D vcl (tyl ca)) {σ : so_S} {t sa : Nat} {hw br wk : Int32} {sl : Nat → Option En} (M0 : σ t = some (12, oId hw br wk sa (nI (cn sl 16)))) (M : IdR ca σ sa sl) (x : Int32) : so_D l s0 D vcl y_Ta_valueAt b_Ta_valueAt 3 (some .int) 4 [.ref t, .int x] σ (fun v => v = some (.int (vI (atI (idN sl 16) x)))) := by
  refine so_ofR hB (by decide) (Nat.le_of_ble_eq_true rfl) ?_
  intro p e s m below meth c ls S K E hr hlk P hS hl
  have hl : lv_has ls 3 [(0, .ref t), (1, .int x)] := hl
  have hA : ∀ en, atI (idN sl 16) x = some en → enT σ 2 en := fun en h => by obtain ⟨i, hi, hs⟩ := idN_mem (atI_mem h); exact M.2 i hi en hs
  refine lv_aload_n S.1 S.2.1 d_Ta_valueAt_0 rfl (lv_at hl 0 rfl) ?_
  refine lv_iload_n S.1 S.2.1 d_Ta_valueAt_1 rfl (lv_at hl 1 rfl) ?_
  refine so_callR (cv_Ta_9_Id S hB K E P hS M0 (c_Id_entryAt l hB M0 M x) rfl (by decide) (Nat.zero_le _) (Nat.zero_le _) hl.1 rfl (Nat.le_of_ble_eq_true rfl) d_Ta_valueAt_2) (fun v hv => ?_)
  subst hv
  generalize atI (idN sl 16) x = o at hA ⊢
  cases o with
  | none =>
    refine lv_astore_nQ (r := none) S.1 S.2.1 d_Ta_valueAt_5 rfl hl (by decide) rfl (fun ls hl => ?_)
    refine lv_aload_nQ (r := none) S.1 S.2.1 d_Ta_valueAt_6 rfl (lv_at hl 0 rfl) ?_
    refine lv_ifnonnullQ (r := none) (tgt := 14) S.1 S.2.1 d_Ta_valueAt_7 rfl (fun q h => by cases h) (fun _ => ?_)
    refine lv_iconst (v := -1) S.1 S.2.1 d_Ta_valueAt_10 (by decide) ?_
    refine lv_goto (tgt := 18) S.1 S.2.1 d_Ta_valueAt_11 rfl ?_
    exact so_iretR S hr hlk rfl d_Ta_valueAt_18
  | some en =>
    refine lv_astore_nQ (r := some en.1) S.1 S.2.1 d_Ta_valueAt_5 rfl hl (by decide) rfl (fun ls hl => ?_)
    refine lv_aload_nQ (r := some en.1) S.1 S.2.1 d_Ta_valueAt_6 rfl (lv_at hl 0 rfl) ?_
    refine lv_ifnonnullQ (r := some en.1) (tgt := 14) S.1 S.2.1 d_Ta_valueAt_7 rfl (fun q h => ?_) (fun h => by cases h)
    cases h
    refine lv_aload_nQ (r := some en.1) S.1 S.2.1 d_Ta_valueAt_14 rfl (lv_at hl 0 rfl) ?_
    refine gf_Ta_21_En S K P (hA en rfl).2 rfl d_Ta_valueAt_15 ?_
    exact so_iretR S hr hlk rfl d_Ta_valueAt_18
set_option maxHeartbeats 400000 in
set_option maxRecDepth 100000 in
theorem c_Ta_find_Id (l : Launch) {s0 : State} {D : va_G} {ca : Nat → ClassId} (hB : so_B tbl s0 D vcl (tyl ca)) {σ : so_S} {t sa : Nat} {hw br wk : Int32} {sl : Nat → Option En} (M0 : σ t = some (12, oId hw br wk sa (nI (cn sl 16)))) (M : IdR ca σ sa sl) (mk : Nat) (hmk : mk < 1000) : so_D l s0 D vcl y_Ta_find b_Ta_find 4 (some .int) 4 [.ref t, .int (nI mk)] σ (fun v => v = some (.int (rI (fiM (idN sl 16) mk)))) := by
  refine so_ofR hB (by decide) (Nat.le_of_ble_eq_true rfl) ?_
  intro p e s m below meth c ls S K E hr hlk P hS hl
  have hl : lv_has ls 4 [(0, .ref t), (1, .int (nI mk))] := hl
  have hlen : (idN sl 16).length < 2 ^ 31 := by rw [idN_len]; have := cn_le sl 16; omega
  refine lv_iconst (v := 0) S.1 S.2.1 d_Ta_find_0 (by decide) ?_
  refine lv_istore_n S.1 S.2.1 d_Ta_find_1 rfl hl (by decide) rfl (fun ls hl => ?_)
  refine so_lpR (Wf := fun ls (_ : Nat) => W p l e _ s m _ below meth c _ _ _ _ _ (F0 m 2 ls [])) (fun n1 ls i => n1 = (idN sl 16).length - i ∧ i ≤ (idN sl 16).length ∧ (∀ (j : Nat) (x : En), j < i → (idN sl 16)[j]? = some x → x.2.2.1 ≠ mk) ∧ (lv_has ls 4 [(2, .int (nI i)), (0, .ref t), (1, .int (nI mk))] ∨ ∃ r, lv_has ls 4 [(2, .int (nI i)), (3, va_rf r), (0, .ref t), (1, .int (nI mk))])) ?_ _ ls 0 ⟨rfl, Nat.zero_le _, fun j en hj => absurd hj (Nat.not_lt_zero _), Or.inl hl⟩
  clear hl
  intro n1 ls i ⟨hn1, hi1, hall, hl⟩ ih
  have hsz : ls.size = 4 := by rcases hl with hl | ⟨r, hl⟩ <;> exact hl.1
  have g2 : ls[2]? = some (.val (.int (nI i))) := by rcases hl with hl | ⟨r, hl⟩ <;> exact lv_at hl 0 rfl
  have g0 : ls[0]? = some (.val (.ref t)) := by rcases hl with hl | ⟨r, hl⟩; exact lv_at hl 1 rfl; exact lv_at hl 2 rfl
  have g1 : ls[1]? = some (.val (.int (nI mk))) := by rcases hl with hl | ⟨r, hl⟩; exact lv_at hl 2 rfl; exact lv_at hl 3 rfl
  refine lv_iload_n S.1 S.2.1 d_Ta_find_2 rfl g2 ?_
  refine lv_aload_n S.1 S.2.1 d_Ta_find_3 rfl g0 ?_
  refine so_callR (cv_Ta_24_Id S hB K E P hS M0 (c_Id_length l hB M0 M) rfl (by decide) (Nat.zero_le _) (Nat.zero_le _) hsz rfl (Nat.le_of_ble_eq_true rfl) d_Ta_find_4) (fun v hv => ?_)
  subst hv
  refine lv_icmp_ge (tgt := 36) S.1 S.2.1 d_Ta_find_7 rfl (fun h7 => ?_) (fun h7 => ?_)
  · have hi : (idN sl 16).length ≤ i := Nat.not_lt.mp fun z => absurd h7 (nI_ge z hlen)
    refine lv_iconst (v := -1) S.1 S.2.1 d_Ta_find_36 (by decide) ?_
    refine so_iretR S hr hlk ?_ d_Ta_find_37
    rw [fiM_none (fun j x hj => hall j x (by have := (List.getElem?_eq_some_iff.mp hj).1; omega) hj)]
    rfl
  · have hlt : i < (idN sl 16).length := Nat.not_le.mp fun z => h7 (nI_le z (by omega))
    refine lv_aload_n S.1 S.2.1 d_Ta_find_10 rfl g0 ?_
    refine lv_iload_n S.1 S.2.1 d_Ta_find_11 rfl g2 ?_
    refine so_callR (cv_Ta_9_Id S hB K E P hS M0 (c_Id_entryAt l hB M0 M (nI i)) rfl (by decide) (Nat.zero_le _) (Nat.zero_le _) hsz rfl (Nat.le_of_ble_eq_true rfl) d_Ta_find_12) (fun v hv => ?_)
    subst hv
    have hi0 := atI_nI hlt hlen
    have hA : enT σ 2 (idN sl 16)[i] := by obtain ⟨i2, hi2, hs⟩ := idN_mem (List.getElem_mem hlt); exact M.2 i2 hi2 _ hs
    have hgi : (idN sl 16)[i]? = some (idN sl 16)[i] := List.getElem?_eq_getElem hlt
    rw [hi0]
    generalize (idN sl 16)[i] = en at hA hgi ⊢
    have stq : ∀ Q : Prop, (∀ ls1, lv_has ls1 4 [(3, va_rf (some en.1)), (2, .int (nI i)), (0, .ref t), (1, .int (nI mk))] → Q) → (∀ ls1, lv_has ls1 4 [(3, va_rf (some en.1)), (2, .int (nI i)), (0, .ref t), (1, .int (nI mk))] → Q) := fun _ h => h
    have tail : ∀ ls, lv_has ls 4 [(3, va_rf (some en.1)), (2, .int (nI i)), (0, .ref t), (1, .int (nI mk))] → W p l e (so_rm 4 0 0) s m #[.ref t, .int (nI mk)] below meth c s.heap [] 0 0 (MQ below (so_R (fun v => v = some (.int (rI (fiM (idN sl 16) mk))))) #[.ref t, .int (nI mk)] s 0 0 (fun _ => False)) (F0 m 16 ls []) := by
      intro ls hl
      refine lv_aload_nQ (r := some en.1) S.1 S.2.1 d_Ta_find_16 rfl (lv_at hl 0 rfl) ?_
      refine lv_ifnullQ (r := some en.1) (tgt := 30) S.1 S.2.1 d_Ta_find_17 rfl (fun h => by cases h) (fun q h => ?_)
      cases h
      refine lv_aload_nQ (r := some en.1) S.1 S.2.1 d_Ta_find_20 rfl (lv_at hl 0 rfl) ?_
      refine gf_Ta_28_En S K P hA.2 rfl d_Ta_find_21 ?_
      refine lv_iload_n S.1 S.2.1 d_Ta_find_24 rfl (lv_at hl 3 rfl) ?_
      refine lv_icmp_ne (tgt := 30) S.1 S.2.1 d_Ta_find_25 rfl (fun h25 => ?_) (fun h25 => ?_)
      · refine lv_iinc (k := 1) S.1 S.2.1 d_Ta_find_30 hl rfl rfl (by decide) rfl (fun ls hl => ?_)
        refine lv_goto (tgt := 2) S.1 S.2.1 d_Ta_find_33 rfl ?_
        rw [nI_a] at hl
        refine ih ((idN sl 16).length - (i + 1)) ls (i + 1) (by omega) ⟨rfl, by omega, fun j x hj hx => ?_, Or.inr ⟨_, hl⟩⟩
        rcases Nat.lt_succ_iff_lt_or_eq.mp hj with h | h
        · exact hall j x h hx
        · rw [h, hgi] at hx
          cases hx
          exact fun z => h25 (congrArg nI z)
      · refine lv_iload_n S.1 S.2.1 d_Ta_find_28 rfl (lv_at hl 1 rfl) ?_
        refine so_iretR S hr hlk ?_ d_Ta_find_29
        rw [fiM_some hgi ((nI_eq (by have := hA.1; omega) (by omega)).mp h25) hall]
        rfl
    rcases hl with hl | ⟨r, hl⟩
    · exact lv_astore_nQ (r := some en.1) S.1 S.2.1 d_Ta_find_15 rfl hl (by decide) rfl tail
    · exact lv_astore_nQ (r := some en.1) S.1 S.2.1 d_Ta_find_15 rfl hl (by decide) rfl tail
set_option maxHeartbeats 400000 in
set_option maxRecDepth 100000 in
theorem c_Ta_keyAt_Pl (l : Launch) {s0 : State} {D : va_G} {ca : Nat → ClassId} (hB : so_B tbl s0 D vcl (tyl ca)) {σ : so_S} {DE t row : Nat}  {hw br wk : Int32} {L : List En} (M0 : σ t = some (13, oPl hw br wk row)) (M : RwR ca DE σ 3 row L) (hL : L.length < 1000) (x : Int32) : so_D l s0 D vcl y_Ta_keyAt b_Ta_keyAt 3 (some .int) 4 [.ref t, .int x] σ (fun v => v = some (.int (kI (atI L x)))) := by
  refine so_ofR hB (by decide) (Nat.le_of_ble_eq_true rfl) ?_
  intro p e s m below meth c ls S K E hr hlk P hS hl
  have hl : lv_has ls 3 [(0, .ref t), (1, .int x)] := hl
  have hA : ∀ en, atI L x = some en → enT σ 3 en := fun en h => M.2 en (atI_mem h)
  refine lv_aload_n S.1 S.2.1 d_Ta_keyAt_0 rfl (lv_at hl 0 rfl) ?_
  refine lv_iload_n S.1 S.2.1 d_Ta_keyAt_1 rfl (lv_at hl 1 rfl) ?_
  refine so_callR (cv_Ta_9_Pl S hB K E P hS M0 (c_Ro_entryAt_Pl l hB M0 M hL x) rfl (by decide) (Nat.zero_le _) (Nat.zero_le _) hl.1 rfl (Nat.le_of_ble_eq_true rfl) d_Ta_keyAt_2) (fun v hv => ?_)
  subst hv
  generalize atI L x = o at hA ⊢
  cases o with
  | none =>
    refine lv_astore_nQ (r := none) S.1 S.2.1 d_Ta_keyAt_5 rfl hl (by decide) rfl (fun ls hl => ?_)
    refine lv_aload_nQ (r := none) S.1 S.2.1 d_Ta_keyAt_6 rfl (lv_at hl 0 rfl) ?_
    refine lv_ifnonnullQ (r := none) (tgt := 14) S.1 S.2.1 d_Ta_keyAt_7 rfl (fun q h => by cases h) (fun _ => ?_)
    refine lv_iconst (v := -1) S.1 S.2.1 d_Ta_keyAt_10 (by decide) ?_
    refine lv_goto (tgt := 18) S.1 S.2.1 d_Ta_keyAt_11 rfl ?_
    exact so_iretR S hr hlk rfl d_Ta_keyAt_18
  | some en =>
    refine lv_astore_nQ (r := some en.1) S.1 S.2.1 d_Ta_keyAt_5 rfl hl (by decide) rfl (fun ls hl => ?_)
    refine lv_aload_nQ (r := some en.1) S.1 S.2.1 d_Ta_keyAt_6 rfl (lv_at hl 0 rfl) ?_
    refine lv_ifnonnullQ (r := some en.1) (tgt := 14) S.1 S.2.1 d_Ta_keyAt_7 rfl (fun q h => ?_) (fun h => by cases h)
    cases h
    refine lv_aload_nQ (r := some en.1) S.1 S.2.1 d_Ta_keyAt_14 rfl (lv_at hl 0 rfl) ?_
    refine gf_Ta_15_En S K P (hA en rfl).2 rfl d_Ta_keyAt_15 ?_
    exact so_iretR S hr hlk rfl d_Ta_keyAt_18
set_option maxHeartbeats 400000 in
set_option maxRecDepth 100000 in
theorem c_Ta_valueAt_Pl (l : Launch) {s0 : State} {D : va_G} {ca : Nat → ClassId} (hB : so_B tbl s0 D vcl (tyl ca)) {σ : so_S} {DE t row : Nat}  {hw br wk : Int32} {L : List En} (M0 : σ t = some (13, oPl hw br wk row)) (M : RwR ca DE σ 3 row L) (hL : L.length < 1000) (x : Int32) : so_D l s0 D vcl y_Ta_valueAt b_Ta_valueAt 3 (some .int) 4 [.ref t, .int x] σ (fun v => v = some (.int (vI (atI L x)))) := by
  refine so_ofR hB (by decide) (Nat.le_of_ble_eq_true rfl) ?_
  intro p e s m below meth c ls S K E hr hlk P hS hl
  have hl : lv_has ls 3 [(0, .ref t), (1, .int x)] := hl
  have hA : ∀ en, atI L x = some en → enT σ 3 en := fun en h => M.2 en (atI_mem h)
  refine lv_aload_n S.1 S.2.1 d_Ta_valueAt_0 rfl (lv_at hl 0 rfl) ?_
  refine lv_iload_n S.1 S.2.1 d_Ta_valueAt_1 rfl (lv_at hl 1 rfl) ?_
  refine so_callR (cv_Ta_9_Pl S hB K E P hS M0 (c_Ro_entryAt_Pl l hB M0 M hL x) rfl (by decide) (Nat.zero_le _) (Nat.zero_le _) hl.1 rfl (Nat.le_of_ble_eq_true rfl) d_Ta_valueAt_2) (fun v hv => ?_)
  subst hv
  generalize atI L x = o at hA ⊢
  cases o with
  | none =>
    refine lv_astore_nQ (r := none) S.1 S.2.1 d_Ta_valueAt_5 rfl hl (by decide) rfl (fun ls hl => ?_)
    refine lv_aload_nQ (r := none) S.1 S.2.1 d_Ta_valueAt_6 rfl (lv_at hl 0 rfl) ?_
    refine lv_ifnonnullQ (r := none) (tgt := 14) S.1 S.2.1 d_Ta_valueAt_7 rfl (fun q h => by cases h) (fun _ => ?_)
    refine lv_iconst (v := -1) S.1 S.2.1 d_Ta_valueAt_10 (by decide) ?_
    refine lv_goto (tgt := 18) S.1 S.2.1 d_Ta_valueAt_11 rfl ?_
    exact so_iretR S hr hlk rfl d_Ta_valueAt_18
  | some en =>
    refine lv_astore_nQ (r := some en.1) S.1 S.2.1 d_Ta_valueAt_5 rfl hl (by decide) rfl (fun ls hl => ?_)
    refine lv_aload_nQ (r := some en.1) S.1 S.2.1 d_Ta_valueAt_6 rfl (lv_at hl 0 rfl) ?_
    refine lv_ifnonnullQ (r := some en.1) (tgt := 14) S.1 S.2.1 d_Ta_valueAt_7 rfl (fun q h => ?_) (fun h => by cases h)
    cases h
    refine lv_aload_nQ (r := some en.1) S.1 S.2.1 d_Ta_valueAt_14 rfl (lv_at hl 0 rfl) ?_
    refine gf_Ta_21_En S K P (hA en rfl).2 rfl d_Ta_valueAt_15 ?_
    exact so_iretR S hr hlk rfl d_Ta_valueAt_18
set_option maxHeartbeats 400000 in
set_option maxRecDepth 100000 in
theorem c_Ta_find_Pl (l : Launch) {s0 : State} {D : va_G} {ca : Nat → ClassId} (hB : so_B tbl s0 D vcl (tyl ca)) {σ : so_S} {DE t row : Nat}  {hw br wk : Int32} {L : List En} (M0 : σ t = some (13, oPl hw br wk row)) (M : RwR ca DE σ 3 row L) (hL : L.length < 1000) (mk : Nat) (hmk : mk < 1000) : so_D l s0 D vcl y_Ta_find b_Ta_find 4 (some .int) 4 [.ref t, .int (nI mk)] σ (fun v => v = some (.int (rI (fiM L mk)))) := by
  refine so_ofR hB (by decide) (Nat.le_of_ble_eq_true rfl) ?_
  intro p e s m below meth c ls S K E hr hlk P hS hl
  have hl : lv_has ls 4 [(0, .ref t), (1, .int (nI mk))] := hl
  have hlen : L.length < 2 ^ 31 := by omega
  refine lv_iconst (v := 0) S.1 S.2.1 d_Ta_find_0 (by decide) ?_
  refine lv_istore_n S.1 S.2.1 d_Ta_find_1 rfl hl (by decide) rfl (fun ls hl => ?_)
  refine so_lpR (Wf := fun ls (_ : Nat) => W p l e _ s m _ below meth c _ _ _ _ _ (F0 m 2 ls [])) (fun n1 ls i => n1 = L.length - i ∧ i ≤ L.length ∧ (∀ (j : Nat) (x : En), j < i → L[j]? = some x → x.2.2.1 ≠ mk) ∧ (lv_has ls 4 [(2, .int (nI i)), (0, .ref t), (1, .int (nI mk))] ∨ ∃ r, lv_has ls 4 [(2, .int (nI i)), (3, va_rf r), (0, .ref t), (1, .int (nI mk))])) ?_ _ ls 0 ⟨rfl, Nat.zero_le _, fun j en hj => absurd hj (Nat.not_lt_zero _), Or.inl hl⟩
  clear hl
  intro n1 ls i ⟨hn1, hi1, hall, hl⟩ ih
  have hsz : ls.size = 4 := by rcases hl with hl | ⟨r, hl⟩ <;> exact hl.1
  have g2 : ls[2]? = some (.val (.int (nI i))) := by rcases hl with hl | ⟨r, hl⟩ <;> exact lv_at hl 0 rfl
  have g0 : ls[0]? = some (.val (.ref t)) := by rcases hl with hl | ⟨r, hl⟩; exact lv_at hl 1 rfl; exact lv_at hl 2 rfl
  have g1 : ls[1]? = some (.val (.int (nI mk))) := by rcases hl with hl | ⟨r, hl⟩; exact lv_at hl 2 rfl; exact lv_at hl 3 rfl
  refine lv_iload_n S.1 S.2.1 d_Ta_find_2 rfl g2 ?_
  refine lv_aload_n S.1 S.2.1 d_Ta_find_3 rfl g0 ?_
  refine so_callR (cv_Ta_24_Pl S hB K E P hS M0 (c_Ro_length_Pl l hB M0 M) rfl (by decide) (Nat.zero_le _) (Nat.zero_le _) hsz rfl (Nat.le_of_ble_eq_true rfl) d_Ta_find_4) (fun v hv => ?_)
  subst hv
  refine lv_icmp_ge (tgt := 36) S.1 S.2.1 d_Ta_find_7 rfl (fun h7 => ?_) (fun h7 => ?_)
  · have hi : L.length ≤ i := Nat.not_lt.mp fun z => absurd h7 (nI_ge z hlen)
    refine lv_iconst (v := -1) S.1 S.2.1 d_Ta_find_36 (by decide) ?_
    refine so_iretR S hr hlk ?_ d_Ta_find_37
    rw [fiM_none (fun j x hj => hall j x (by have := (List.getElem?_eq_some_iff.mp hj).1; omega) hj)]
    rfl
  · have hlt : i < L.length := Nat.not_le.mp fun z => h7 (nI_le z (by omega))
    refine lv_aload_n S.1 S.2.1 d_Ta_find_10 rfl g0 ?_
    refine lv_iload_n S.1 S.2.1 d_Ta_find_11 rfl g2 ?_
    refine so_callR (cv_Ta_9_Pl S hB K E P hS M0 (c_Ro_entryAt_Pl l hB M0 M hL (nI i)) rfl (by decide) (Nat.zero_le _) (Nat.zero_le _) hsz rfl (Nat.le_of_ble_eq_true rfl) d_Ta_find_12) (fun v hv => ?_)
    subst hv
    have hi0 := atI_nI hlt hlen
    have hA : enT σ 3 L[i] := M.2 _ (List.getElem_mem hlt)
    have hgi : L[i]? = some L[i] := List.getElem?_eq_getElem hlt
    rw [hi0]
    generalize L[i] = en at hA hgi ⊢
    have stq : ∀ Q : Prop, (∀ ls1, lv_has ls1 4 [(3, va_rf (some en.1)), (2, .int (nI i)), (0, .ref t), (1, .int (nI mk))] → Q) → (∀ ls1, lv_has ls1 4 [(3, va_rf (some en.1)), (2, .int (nI i)), (0, .ref t), (1, .int (nI mk))] → Q) := fun _ h => h
    have tail : ∀ ls, lv_has ls 4 [(3, va_rf (some en.1)), (2, .int (nI i)), (0, .ref t), (1, .int (nI mk))] → W p l e (so_rm 4 0 0) s m #[.ref t, .int (nI mk)] below meth c s.heap [] 0 0 (MQ below (so_R (fun v => v = some (.int (rI (fiM L mk))))) #[.ref t, .int (nI mk)] s 0 0 (fun _ => False)) (F0 m 16 ls []) := by
      intro ls hl
      refine lv_aload_nQ (r := some en.1) S.1 S.2.1 d_Ta_find_16 rfl (lv_at hl 0 rfl) ?_
      refine lv_ifnullQ (r := some en.1) (tgt := 30) S.1 S.2.1 d_Ta_find_17 rfl (fun h => by cases h) (fun q h => ?_)
      cases h
      refine lv_aload_nQ (r := some en.1) S.1 S.2.1 d_Ta_find_20 rfl (lv_at hl 0 rfl) ?_
      refine gf_Ta_28_En S K P hA.2 rfl d_Ta_find_21 ?_
      refine lv_iload_n S.1 S.2.1 d_Ta_find_24 rfl (lv_at hl 3 rfl) ?_
      refine lv_icmp_ne (tgt := 30) S.1 S.2.1 d_Ta_find_25 rfl (fun h25 => ?_) (fun h25 => ?_)
      · refine lv_iinc (k := 1) S.1 S.2.1 d_Ta_find_30 hl rfl rfl (by decide) rfl (fun ls hl => ?_)
        refine lv_goto (tgt := 2) S.1 S.2.1 d_Ta_find_33 rfl ?_
        rw [nI_a] at hl
        refine ih (L.length - (i + 1)) ls (i + 1) (by omega) ⟨rfl, by omega, fun j x hj hx => ?_, Or.inr ⟨_, hl⟩⟩
        rcases Nat.lt_succ_iff_lt_or_eq.mp hj with h | h
        · exact hall j x h hx
        · rw [h, hgi] at hx
          cases hx
          exact fun z => h25 (congrArg nI z)
      · refine lv_iload_n S.1 S.2.1 d_Ta_find_28 rfl (lv_at hl 1 rfl) ?_
        refine so_iretR S hr hlk ?_ d_Ta_find_29
        rw [fiM_some hgi ((nI_eq (by have := hA.1; omega) (by omega)).mp h25) hall]
        rfl
    rcases hl with hl | ⟨r, hl⟩
    · exact lv_astore_nQ (r := some en.1) S.1 S.2.1 d_Ta_find_15 rfl hl (by decide) rfl tail
    · exact lv_astore_nQ (r := some en.1) S.1 S.2.1 d_Ta_find_15 rfl hl (by decide) rfl tail
set_option maxHeartbeats 400000 in
set_option maxRecDepth 100000 in
theorem c_Ta_keyAt_La (l : Launch) {s0 : State} {D : va_G} {ca : Nat → ClassId} (hB : so_B tbl s0 D vcl (tyl ca)) {σ : so_S} {DE t row : Nat}  {hw br wk : Int32} {L : List En} (M0 : σ t = some (14, oLa hw br wk row)) (M : RwR ca DE σ 4 row L) (hL : L.length < 1000) (x : Int32) : so_D l s0 D vcl y_Ta_keyAt b_Ta_keyAt 3 (some .int) 4 [.ref t, .int x] σ (fun v => v = some (.int (kI (atI L x)))) := by
  refine so_ofR hB (by decide) (Nat.le_of_ble_eq_true rfl) ?_
  intro p e s m below meth c ls S K E hr hlk P hS hl
  have hl : lv_has ls 3 [(0, .ref t), (1, .int x)] := hl
  have hA : ∀ en, atI L x = some en → enT σ 4 en := fun en h => M.2 en (atI_mem h)
  refine lv_aload_n S.1 S.2.1 d_Ta_keyAt_0 rfl (lv_at hl 0 rfl) ?_
  refine lv_iload_n S.1 S.2.1 d_Ta_keyAt_1 rfl (lv_at hl 1 rfl) ?_
  refine so_callR (cv_Ta_9_La S hB K E P hS M0 (c_Ro_entryAt_La l hB M0 M hL x) rfl (by decide) (Nat.zero_le _) (Nat.zero_le _) hl.1 rfl (Nat.le_of_ble_eq_true rfl) d_Ta_keyAt_2) (fun v hv => ?_)
  subst hv
  generalize atI L x = o at hA ⊢
  cases o with
  | none =>
    refine lv_astore_nQ (r := none) S.1 S.2.1 d_Ta_keyAt_5 rfl hl (by decide) rfl (fun ls hl => ?_)
    refine lv_aload_nQ (r := none) S.1 S.2.1 d_Ta_keyAt_6 rfl (lv_at hl 0 rfl) ?_
    refine lv_ifnonnullQ (r := none) (tgt := 14) S.1 S.2.1 d_Ta_keyAt_7 rfl (fun q h => by cases h) (fun _ => ?_)
    refine lv_iconst (v := -1) S.1 S.2.1 d_Ta_keyAt_10 (by decide) ?_
    refine lv_goto (tgt := 18) S.1 S.2.1 d_Ta_keyAt_11 rfl ?_
    exact so_iretR S hr hlk rfl d_Ta_keyAt_18
  | some en =>
    refine lv_astore_nQ (r := some en.1) S.1 S.2.1 d_Ta_keyAt_5 rfl hl (by decide) rfl (fun ls hl => ?_)
    refine lv_aload_nQ (r := some en.1) S.1 S.2.1 d_Ta_keyAt_6 rfl (lv_at hl 0 rfl) ?_
    refine lv_ifnonnullQ (r := some en.1) (tgt := 14) S.1 S.2.1 d_Ta_keyAt_7 rfl (fun q h => ?_) (fun h => by cases h)
    cases h
    refine lv_aload_nQ (r := some en.1) S.1 S.2.1 d_Ta_keyAt_14 rfl (lv_at hl 0 rfl) ?_
    refine gf_Ta_15_En S K P (hA en rfl).2 rfl d_Ta_keyAt_15 ?_
    exact so_iretR S hr hlk rfl d_Ta_keyAt_18
set_option maxHeartbeats 400000 in
set_option maxRecDepth 100000 in
theorem c_Ta_valueAt_La (l : Launch) {s0 : State} {D : va_G} {ca : Nat → ClassId} (hB : so_B tbl s0 D vcl (tyl ca)) {σ : so_S} {DE t row : Nat}  {hw br wk : Int32} {L : List En} (M0 : σ t = some (14, oLa hw br wk row)) (M : RwR ca DE σ 4 row L) (hL : L.length < 1000) (x : Int32) : so_D l s0 D vcl y_Ta_valueAt b_Ta_valueAt 3 (some .int) 4 [.ref t, .int x] σ (fun v => v = some (.int (vI (atI L x)))) := by
  refine so_ofR hB (by decide) (Nat.le_of_ble_eq_true rfl) ?_
  intro p e s m below meth c ls S K E hr hlk P hS hl
  have hl : lv_has ls 3 [(0, .ref t), (1, .int x)] := hl
  have hA : ∀ en, atI L x = some en → enT σ 4 en := fun en h => M.2 en (atI_mem h)
  refine lv_aload_n S.1 S.2.1 d_Ta_valueAt_0 rfl (lv_at hl 0 rfl) ?_
  refine lv_iload_n S.1 S.2.1 d_Ta_valueAt_1 rfl (lv_at hl 1 rfl) ?_
  refine so_callR (cv_Ta_9_La S hB K E P hS M0 (c_Ro_entryAt_La l hB M0 M hL x) rfl (by decide) (Nat.zero_le _) (Nat.zero_le _) hl.1 rfl (Nat.le_of_ble_eq_true rfl) d_Ta_valueAt_2) (fun v hv => ?_)
  subst hv
  generalize atI L x = o at hA ⊢
  cases o with
  | none =>
    refine lv_astore_nQ (r := none) S.1 S.2.1 d_Ta_valueAt_5 rfl hl (by decide) rfl (fun ls hl => ?_)
    refine lv_aload_nQ (r := none) S.1 S.2.1 d_Ta_valueAt_6 rfl (lv_at hl 0 rfl) ?_
    refine lv_ifnonnullQ (r := none) (tgt := 14) S.1 S.2.1 d_Ta_valueAt_7 rfl (fun q h => by cases h) (fun _ => ?_)
    refine lv_iconst (v := -1) S.1 S.2.1 d_Ta_valueAt_10 (by decide) ?_
    refine lv_goto (tgt := 18) S.1 S.2.1 d_Ta_valueAt_11 rfl ?_
    exact so_iretR S hr hlk rfl d_Ta_valueAt_18
  | some en =>
    refine lv_astore_nQ (r := some en.1) S.1 S.2.1 d_Ta_valueAt_5 rfl hl (by decide) rfl (fun ls hl => ?_)
    refine lv_aload_nQ (r := some en.1) S.1 S.2.1 d_Ta_valueAt_6 rfl (lv_at hl 0 rfl) ?_
    refine lv_ifnonnullQ (r := some en.1) (tgt := 14) S.1 S.2.1 d_Ta_valueAt_7 rfl (fun q h => ?_) (fun h => by cases h)
    cases h
    refine lv_aload_nQ (r := some en.1) S.1 S.2.1 d_Ta_valueAt_14 rfl (lv_at hl 0 rfl) ?_
    refine gf_Ta_21_En S K P (hA en rfl).2 rfl d_Ta_valueAt_15 ?_
    exact so_iretR S hr hlk rfl d_Ta_valueAt_18
set_option maxHeartbeats 400000 in
set_option maxRecDepth 100000 in
theorem c_Ta_find_La (l : Launch) {s0 : State} {D : va_G} {ca : Nat → ClassId} (hB : so_B tbl s0 D vcl (tyl ca)) {σ : so_S} {DE t row : Nat}  {hw br wk : Int32} {L : List En} (M0 : σ t = some (14, oLa hw br wk row)) (M : RwR ca DE σ 4 row L) (hL : L.length < 1000) (mk : Nat) (hmk : mk < 1000) : so_D l s0 D vcl y_Ta_find b_Ta_find 4 (some .int) 4 [.ref t, .int (nI mk)] σ (fun v => v = some (.int (rI (fiM L mk)))) := by
  refine so_ofR hB (by decide) (Nat.le_of_ble_eq_true rfl) ?_
  intro p e s m below meth c ls S K E hr hlk P hS hl
  have hl : lv_has ls 4 [(0, .ref t), (1, .int (nI mk))] := hl
  have hlen : L.length < 2 ^ 31 := by omega
  refine lv_iconst (v := 0) S.1 S.2.1 d_Ta_find_0 (by decide) ?_
  refine lv_istore_n S.1 S.2.1 d_Ta_find_1 rfl hl (by decide) rfl (fun ls hl => ?_)
  refine so_lpR (Wf := fun ls (_ : Nat) => W p l e _ s m _ below meth c _ _ _ _ _ (F0 m 2 ls [])) (fun n1 ls i => n1 = L.length - i ∧ i ≤ L.length ∧ (∀ (j : Nat) (x : En), j < i → L[j]? = some x → x.2.2.1 ≠ mk) ∧ (lv_has ls 4 [(2, .int (nI i)), (0, .ref t), (1, .int (nI mk))] ∨ ∃ r, lv_has ls 4 [(2, .int (nI i)), (3, va_rf r), (0, .ref t), (1, .int (nI mk))])) ?_ _ ls 0 ⟨rfl, Nat.zero_le _, fun j en hj => absurd hj (Nat.not_lt_zero _), Or.inl hl⟩
  clear hl
  intro n1 ls i ⟨hn1, hi1, hall, hl⟩ ih
  have hsz : ls.size = 4 := by rcases hl with hl | ⟨r, hl⟩ <;> exact hl.1
  have g2 : ls[2]? = some (.val (.int (nI i))) := by rcases hl with hl | ⟨r, hl⟩ <;> exact lv_at hl 0 rfl
  have g0 : ls[0]? = some (.val (.ref t)) := by rcases hl with hl | ⟨r, hl⟩; exact lv_at hl 1 rfl; exact lv_at hl 2 rfl
  have g1 : ls[1]? = some (.val (.int (nI mk))) := by rcases hl with hl | ⟨r, hl⟩; exact lv_at hl 2 rfl; exact lv_at hl 3 rfl
  refine lv_iload_n S.1 S.2.1 d_Ta_find_2 rfl g2 ?_
  refine lv_aload_n S.1 S.2.1 d_Ta_find_3 rfl g0 ?_
  refine so_callR (cv_Ta_24_La S hB K E P hS M0 (c_Ro_length_La l hB M0 M) rfl (by decide) (Nat.zero_le _) (Nat.zero_le _) hsz rfl (Nat.le_of_ble_eq_true rfl) d_Ta_find_4) (fun v hv => ?_)
  subst hv
  refine lv_icmp_ge (tgt := 36) S.1 S.2.1 d_Ta_find_7 rfl (fun h7 => ?_) (fun h7 => ?_)
  · have hi : L.length ≤ i := Nat.not_lt.mp fun z => absurd h7 (nI_ge z hlen)
    refine lv_iconst (v := -1) S.1 S.2.1 d_Ta_find_36 (by decide) ?_
    refine so_iretR S hr hlk ?_ d_Ta_find_37
    rw [fiM_none (fun j x hj => hall j x (by have := (List.getElem?_eq_some_iff.mp hj).1; omega) hj)]
    rfl
  · have hlt : i < L.length := Nat.not_le.mp fun z => h7 (nI_le z (by omega))
    refine lv_aload_n S.1 S.2.1 d_Ta_find_10 rfl g0 ?_
    refine lv_iload_n S.1 S.2.1 d_Ta_find_11 rfl g2 ?_
    refine so_callR (cv_Ta_9_La S hB K E P hS M0 (c_Ro_entryAt_La l hB M0 M hL (nI i)) rfl (by decide) (Nat.zero_le _) (Nat.zero_le _) hsz rfl (Nat.le_of_ble_eq_true rfl) d_Ta_find_12) (fun v hv => ?_)
    subst hv
    have hi0 := atI_nI hlt hlen
    have hA : enT σ 4 L[i] := M.2 _ (List.getElem_mem hlt)
    have hgi : L[i]? = some L[i] := List.getElem?_eq_getElem hlt
    rw [hi0]
    generalize L[i] = en at hA hgi ⊢
    have stq : ∀ Q : Prop, (∀ ls1, lv_has ls1 4 [(3, va_rf (some en.1)), (2, .int (nI i)), (0, .ref t), (1, .int (nI mk))] → Q) → (∀ ls1, lv_has ls1 4 [(3, va_rf (some en.1)), (2, .int (nI i)), (0, .ref t), (1, .int (nI mk))] → Q) := fun _ h => h
    have tail : ∀ ls, lv_has ls 4 [(3, va_rf (some en.1)), (2, .int (nI i)), (0, .ref t), (1, .int (nI mk))] → W p l e (so_rm 4 0 0) s m #[.ref t, .int (nI mk)] below meth c s.heap [] 0 0 (MQ below (so_R (fun v => v = some (.int (rI (fiM L mk))))) #[.ref t, .int (nI mk)] s 0 0 (fun _ => False)) (F0 m 16 ls []) := by
      intro ls hl
      refine lv_aload_nQ (r := some en.1) S.1 S.2.1 d_Ta_find_16 rfl (lv_at hl 0 rfl) ?_
      refine lv_ifnullQ (r := some en.1) (tgt := 30) S.1 S.2.1 d_Ta_find_17 rfl (fun h => by cases h) (fun q h => ?_)
      cases h
      refine lv_aload_nQ (r := some en.1) S.1 S.2.1 d_Ta_find_20 rfl (lv_at hl 0 rfl) ?_
      refine gf_Ta_28_En S K P hA.2 rfl d_Ta_find_21 ?_
      refine lv_iload_n S.1 S.2.1 d_Ta_find_24 rfl (lv_at hl 3 rfl) ?_
      refine lv_icmp_ne (tgt := 30) S.1 S.2.1 d_Ta_find_25 rfl (fun h25 => ?_) (fun h25 => ?_)
      · refine lv_iinc (k := 1) S.1 S.2.1 d_Ta_find_30 hl rfl rfl (by decide) rfl (fun ls hl => ?_)
        refine lv_goto (tgt := 2) S.1 S.2.1 d_Ta_find_33 rfl ?_
        rw [nI_a] at hl
        refine ih (L.length - (i + 1)) ls (i + 1) (by omega) ⟨rfl, by omega, fun j x hj hx => ?_, Or.inr ⟨_, hl⟩⟩
        rcases Nat.lt_succ_iff_lt_or_eq.mp hj with h | h
        · exact hall j x h hx
        · rw [h, hgi] at hx
          cases hx
          exact fun z => h25 (congrArg nI z)
      · refine lv_iload_n S.1 S.2.1 d_Ta_find_28 rfl (lv_at hl 1 rfl) ?_
        refine so_iretR S hr hlk ?_ d_Ta_find_29
        rw [fiM_some hgi ((nI_eq (by have := hA.1; omega) (by omega)).mp h25) hall]
        rfl
    rcases hl with hl | ⟨r, hl⟩
    · exact lv_astore_nQ (r := some en.1) S.1 S.2.1 d_Ta_find_15 rfl hl (by decide) rfl tail
    · exact lv_astore_nQ (r := some en.1) S.1 S.2.1 d_Ta_find_15 rfl hl (by decide) rfl tail

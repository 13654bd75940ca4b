/-! WeakMap. -/
def bE (bk : Nat) (x : En) : Int32 := bk_O (nI bk) (nI x.2.2.1)
def insE (bk : Nat) (L : List En) (en : En) : List En := L.insertIdx (tw (fun x : En => decide (bE bk x < bE bk en)) L) en
def reE (bk : Nat) (L : List En) : List En := L.foldl (insE bk) []
theorem insE_len {bk : Nat} {L : List En} {en : En} : (insE bk L en).length = L.length + 1 := List.length_insertIdx_of_le_length (tw_le _ _) _
theorem insE_mem {bk : Nat} {L : List En} {en x : En} : x ∈ insE bk L en ↔ x = en ∨ x ∈ L := List.mem_insertIdx (tw_le _ _)
theorem foE_len {bk : Nat} : ∀ (L acc : List En), (L.foldl (insE bk) acc).length = acc.length + L.length
  | [], acc => rfl
  | e :: L, acc => by
    rw [List.foldl_cons, foE_len L, insE_len, List.length_cons]
    omega
theorem nI_mul (a b : Nat) : nI a * nI b = nI (a * b) := (Int32.ofNat_mul a b).symm
def tW (t : Nat) : Prop := t = 10 ∨ t = 20 ∨ t = 30 ∨ t = 80 ∨ t = 90
theorem tW_lt : ∀ t, tW t → t < 1000 := fun t h => by rcases h with h | h | h | h | h <;> omega
set_option maxHeartbeats 400000 in
set_option maxRecDepth 100000 in
theorem c_We_bucketOf (l : Launch) {s0 : State} {D : va_G} {ca : Nat → ClassId} (hB : so_B tbl s0 D vcl (tyl ca)) {σ : so_S} {t row mv bk : Nat} {hw br wk : Int32} (M0 : σ t = some (10, oWe hw br wk row mv (nI bk))) (en : En) (he : enT σ 0 en) : so_D l s0 D vcl y_We_bucketOf b_We_bucketOf 3 (some .int) 0 [.ref t, .ref en.1] σ (fun v => v = some (.int (bE bk en))) := by
  refine so_ofR hB (by decide) (Nat.le_of_ble_eq_true rfl) ?_
  intro p e s m below meth c ls S K E hr hlk P hS hl
  have hl : lv_has ls 3 [(0, .ref t), (1, .ref en.1)] := hl
  refine lv_aload_n S.1 S.2.1 d_We_bucketOf_0 rfl (lv_at hl 1 rfl) ?_
  refine gf_We_54_En S K P he.2 rfl d_We_bucketOf_1 ?_
  refine lv_aload_n S.1 S.2.1 d_We_bucketOf_4 rfl (lv_at hl 1 rfl) ?_
  refine gf_We_54_En S K P he.2 rfl d_We_bucketOf_5 ?_
  refine lv_iconst (v := 4) S.1 S.2.1 d_We_bucketOf_8 (by decide) ?_
  refine lv_ishr S.1 S.2.1 d_We_bucketOf_9 ?_
  refine lv_ixor S.1 S.2.1 d_We_bucketOf_10 ?_
  refine lv_istore_n S.1 S.2.1 d_We_bucketOf_11 rfl hl (by decide) rfl (fun ls hl => ?_)
  refine lv_iload_n S.1 S.2.1 d_We_bucketOf_12 rfl (lv_at hl 0 rfl) ?_
  refine lv_aload_n S.1 S.2.1 d_We_bucketOf_13 rfl (lv_at hl 1 rfl) ?_
  refine gf_We_18_We S K P M0 rfl d_We_bucketOf_14 ?_
  refine lv_iconst (v := 1) S.1 S.2.1 d_We_bucketOf_17 (by decide) ?_
  refine lv_isub S.1 S.2.1 d_We_bucketOf_18 ?_
  refine lv_iand S.1 S.2.1 d_We_bucketOf_19 ?_
  exact so_iretR S hr hlk rfl d_We_bucketOf_20
set_option maxHeartbeats 400000 in
set_option maxRecDepth 100000 in
theorem c_We_addToBucket (l : Launch) {s0 : State} {D : va_G} {ca : Nat → ClassId} (hB : so_B tbl s0 D vcl (tyl ca)) {σ : so_S} {DE mi t row mv bk : Nat} {hw br wk : Int32} {L : List En} (M0 : σ t = some (10, oWe hw br wk row mv (nI bk))) (M : RwR ca DE σ 0 row L) (J : jX s0 D ca DE mi) (hL : L.length < 40) (en : En) (he : enT σ 0 en) : so_C l s0 D vcl y_We_addToBucket b_We_addToBucket 4 none 6 1 64 [.ref t, .ref en.1] σ (fun v σ1 => v = none ∧ σ1 t = some (10, oWe hw br wk row mv (nI bk)) ∧ RwR ca DE σ1 0 row (insE bk L en) ∧ fT (tL 20 30) σ σ1) := by
  refine so_of hB (by decide) (Nat.le_of_ble_eq_true rfl) ?_
  intro p e s m below meth c ls S K E hr hlk hnm P hS hl
  have hl : lv_has ls 4 [(0, .ref t), (1, .ref en.1)] := hl
  obtain ⟨md, ed, cap, f, Q0, hf⟩ := M.1
  have h1 := Q0.1
  rw [List.length_map] at h1
  have tail : ∀ (ls : Array Slot) (i : Nat), lv_has ls 4 [(3, .int (nI i)), (2, .int (bE bk en)), (0, .ref t), (1, .ref en.1)] → i = tw (fun x : En => decide (bE bk x < bE bk en)) L → W p l e (so_rm 6 1 64) s m #[.ref t, .ref en.1] below meth c s.heap [] 0 0 (MQ below (so_Q s0 D vcl (fun v σ1 => v = none ∧ σ1 t = some (10, oWe hw br wk row mv (nI bk)) ∧ RwR ca DE σ1 0 row (insE bk L en) ∧ fT (tL 20 30) σ σ1)) #[.ref t, .ref en.1] s 1 64 (so_A s0.heap.size)) (F0 m 44 ls []) := by
    intro ls i hl hi
    have hil : i ≤ L.length := by rw [hi]; exact tw_le _ _
    refine lv_aload_n S.1 S.2.1 d_We_addToBucket_44 rfl (lv_at hl 2 rfl) ?_
    refine gf_We_30_We S K P M0 rfl d_We_addToBucket_45 ?_
    refine lv_iload_n S.1 S.2.1 d_We_addToBucket_48 rfl (lv_at hl 0 rfl) ?_
    refine lv_aload_n S.1 S.2.1 d_We_addToBucket_49 rfl (lv_at hl 3 rfl) ?_
    refine so_call (cv_We_50_AL S hB K E P hS h1 (c_AL_add3 l hB J (show 20 + 0 ≠ 30 + 0 by decide) (by decide) (by decide) M.1 (by rw [List.length_map]; exact hL) M.E en.1 he.isE i (by rw [List.length_map]; exact hil)) rfl (by decide) (Nat.le_refl _) (Nat.le_refl _) hl.1 rfl (Nat.le_of_ble_eq_true rfl) d_We_addToBucket_50) hS (fun v σ1 H locs hv P hS => ?_)
    obtain ⟨rfl, k2, Fr⟩ := hv
    rw [in_map (f := fun e : En => e.1)] at k2
    have g0 : σ1 t = some (10, oWe hw br wk row mv (nI bk)) := Fr _ _ M0 (fun z => by rcases z with z | z <;> (simp only at z; omega))
    refine so_vret S hr hlk P hS (Nat.le_refl _) (Nat.le_refl _) ⟨rfl, g0, ⟨?_, fun x hx => ?_⟩, Fr⟩ d_We_addToBucket_53
    · unfold insE
      rw [← hi]
      exact k2
    · have hx2 : enT σ 0 x := by
        rcases insE_mem.mp hx with h | h
        · rw [h]; exact he
        · exact M.2 x h
      exact hx2.fr Fr (tL_lt (by omega) (by omega))
  refine lv_aload_n S.1 S.2.1 d_We_addToBucket_0 rfl (lv_at hl 0 rfl) ?_
  refine lv_aload_n S.1 S.2.1 d_We_addToBucket_1 rfl (lv_at hl 1 rfl) ?_
  refine so_callR (cv_We_40_We S hB K E P hS M0 (c_We_bucketOf l hB M0 en he) rfl (by decide) (Nat.zero_le _) (Nat.zero_le _) hl.1 rfl (Nat.le_of_ble_eq_true rfl) d_We_addToBucket_2) (fun v hv => ?_)
  subst hv
  refine lv_istore_n S.1 S.2.1 d_We_addToBucket_5 rfl hl (by decide) rfl (fun ls hl => ?_)
  refine lv_iconst (v := 0) S.1 S.2.1 d_We_addToBucket_6 (by decide) ?_
  refine lv_istore_n S.1 S.2.1 d_We_addToBucket_7 rfl hl (by decide) rfl (fun ls hl => ?_)
  refine so_lpR (Wf := fun ls (_ : Nat) => W p l e _ s m _ below meth c _ _ _ _ _ (F0 m 8 ls [])) (fun n1 ls i => n1 = L.length - i ∧ i ≤ L.length ∧ (∀ (j : Nat) (x : En), j < i → L[j]? = some x → decide (bE bk x < bE bk en) = true) ∧ lv_has ls 4 [(3, .int (nI i)), (2, .int (bE bk en)), (0, .ref t), (1, .ref en.1)]) ?_ _ ls 0 ⟨rfl, Nat.zero_le _, fun j en hj => absurd hj (Nat.not_lt_zero _), hl⟩
  clear hl
  intro n1 ls i ⟨hn1, hi1, hall, hl⟩ ih
  refine lv_iload_n S.1 S.2.1 d_We_addToBucket_8 rfl (lv_at hl 0 rfl) ?_
  refine lv_aload_n S.1 S.2.1 d_We_addToBucket_9 rfl (lv_at hl 2 rfl) ?_
  refine gf_We_30_We S K P M0 rfl d_We_addToBucket_10 ?_
  refine so_callR (cv_We_33_AL S hB K E P hS h1 (c_AL_size (te := 0) (cap := 0) (f := fun _ => none) l hB h1) rfl (by decide) (Nat.zero_le _) (Nat.zero_le _) hl.1 rfl (Nat.le_of_ble_eq_true rfl) d_We_addToBucket_13) (fun v hv => ?_)
  subst hv
  refine lv_icmp_ge (tgt := 44) S.1 S.2.1 d_We_addToBucket_16 rfl (fun h16 => ?_) (fun h16 => ?_)
  · refine tail ls i hl (Eq.symm (tw_is hi1 hall (fun x hx => ?_)))
    first
      | (rw [List.getElem?_eq_none (Nat.not_lt.mp fun z => absurd h16 (nI_ge z (by omega)))] at hx; cases hx)
      | (rw [List.getElem?_eq_getElem hlt] at hx
         cases hx
         exact decide_eq_false (Int32.not_lt.mpr h35))
  · have hlt : i < L.length := Nat.not_le.mp fun z => h16 (nI_le z (by omega))
    obtain ⟨md, ed, cap, f, h1, k2, k3, k4, k5, k6⟩ := M.1.row (by rw [List.length_map]; omega)
    rw [List.length_map] at h1 k3
    have hfj : f i = some L[i].1 := k6 i _ (by rw [List.getElem?_map, List.getElem?_eq_getElem hlt]; rfl)
    have hen := M.2 _ (List.getElem_mem hlt)
    refine lv_aload_n S.1 S.2.1 d_We_addToBucket_19 rfl (lv_at hl 2 rfl) ?_
    refine lv_aload_n S.1 S.2.1 d_We_addToBucket_20 rfl (lv_at hl 2 rfl) ?_
    refine gf_We_30_We S K P M0 rfl d_We_addToBucket_21 ?_
    refine lv_iload_n S.1 S.2.1 d_We_addToBucket_24 rfl (lv_at hl 0 rfl) ?_
    refine so_callR (cv_We_44_AL S hB K E P hS h1 (c_AL_get l hB h1 k2 (by omega) k3 i hlt) rfl (by decide) (Nat.zero_le _) (Nat.zero_le _) hl.1 rfl (Nat.le_of_ble_eq_true rfl) d_We_addToBucket_25) (fun v hv => ?_)
    subst hv
    rw [hfj]
    refine so_castE (a := L[i].1) S K P hen.isE wd_647 d_We_addToBucket_28 ?_
    refine so_callR (cv_We_40_We S hB K E P hS M0 (c_We_bucketOf l hB M0 L[i] hen) rfl (by decide) (Nat.zero_le _) (Nat.zero_le _) hl.1 rfl (Nat.le_of_ble_eq_true rfl) d_We_addToBucket_31) (fun v hv => ?_)
    subst hv
    refine lv_iload_n S.1 S.2.1 d_We_addToBucket_34 rfl (lv_at hl 1 rfl) ?_
    refine lv_icmp_ge (tgt := 44) S.1 S.2.1 d_We_addToBucket_35 rfl (fun h35 => ?_) (fun h35 => ?_)
    · refine tail ls i hl (Eq.symm (tw_is hi1 hall (fun x hx => ?_)))
      first
        | (rw [List.getElem?_eq_none (Nat.not_lt.mp fun z => absurd h16 (nI_ge z (by omega)))] at hx; cases hx)
        | (rw [List.getElem?_eq_getElem hlt] at hx
           cases hx
           exact decide_eq_false (Int32.not_lt.mpr h35))
    · refine lv_iinc (k := 0) S.1 S.2.1 d_We_addToBucket_38 hl rfl rfl (by decide) rfl (fun ls hl => ?_)
      refine lv_goto (tgt := 8) S.1 S.2.1 d_We_addToBucket_41 rfl ?_
      rw [nI_a] at hl
      refine ih (L.length - (i + 1)) ls (i + 1) (by omega) ⟨rfl, by omega, fun j x hj hx => ?_, hl⟩
      rcases Nat.lt_succ_iff_lt_or_eq.mp hj with h | h
      · exact hall j x h hx
      · rw [h, List.getElem?_eq_getElem hlt] at hx
        cases hx
        exact decide_eq_true (Int32.not_le.mp h35)
set_option maxHeartbeats 400000 in
set_option maxRecDepth 100000 in
theorem c_We_doubleBuckets (l : Launch) {s0 : State} {D : va_G} {ca : Nat → ClassId} (hB : so_B tbl s0 D vcl (tyl ca)) {σ : so_S} {DE mi t row mv bk : Nat} {hw br wk : Int32} {L : List En} (M0 : σ t = some (10, oWe hw br wk row mv (nI bk))) (M : RwR ca DE σ 0 row L) {Lm : List Nat} (Mm : ALP ca DE σ mv 80 90 Lm) (J : jX s0 D ca DE mi) (hL : L.length ≤ 40) : so_C l s0 D vcl y_We_doubleBuckets b_We_doubleBuckets 2 none 7 80 5120 [.ref t] σ (fun v σ1 => v = none ∧ σ1 t = some (10, oWe hw br wk row mv (nI (2 * bk))) ∧ RwR ca DE σ1 0 row (reE (2 * bk) L) ∧ (∃ Lm, ALP ca DE σ1 mv 80 90 Lm) ∧ fT tW σ σ1) := by
  refine so_of hB (by decide) (Nat.le_of_ble_eq_true rfl) ?_
  intro p e s m below meth c ls S K E hr hlk hnm P hS hl
  have hl : lv_has ls 2 [(0, .ref t)] := hl
  have cl : ∀ (al tg tr : Nat) (Lx : List Nat), ALP ca DE σ al tg tr Lx → ∃ md ed, σ al = some (tg, oAL md ed (nI Lx.length)) := fun al tg tr Lx h => by
    obtain ⟨md, ed, cap, f, Q0, hf⟩ := h
    exact ⟨md, ed, Q0.1⟩
  clear cl
  have ph4 : ∀ (ls : Array Slot) (H : Heap) (locs : List Loc) (σ2 : so_S), lv_has ls 2 [(1, .int (nI 0)), (0, .ref t)] → so_P D vcl s0.heap.size σ2 H → va_S (so_A s0.heap.size) s.heap H locs → σ2 t = some (10, oWe hw br wk row mv (nI (2 * bk))) → ALP ca DE σ2 row 20 30 [] → ALP ca DE σ2 mv 80 90 (L.map (fun e => e.1)) → fT tW σ σ2 → W p l e (so_rm 7 80 5120) s m #[.ref t] below meth c H locs 40 2560 (MQ below (so_Q s0 D vcl (fun v σ1 => v = none ∧ σ1 t = some (10, oWe hw br wk row mv (nI (2 * bk))) ∧ RwR ca DE σ1 0 row (reE (2 * bk) L) ∧ (∃ Lm, ALP ca DE σ1 mv 80 90 Lm) ∧ fT tW σ σ1)) #[.ref t] s 80 5120 (so_A s0.heap.size)) (F0 m 64 ls []) := by
    intro ls H locs σ2 hl P hS g0 g1 g2 Fr
    refine W.widen (k := 40 + 0) (n := 64 * (40 + 0)) (Nat.le_refl _) (Nat.le_refl _) ?_
    refine so_lp (Wf := fun ls H locs σ3 (i : Nat) => W p l e _ s m _ below meth c H locs (40 + i) (64 * (40 + i)) _ (F0 m 64 ls [])) (fun n1 ls H locs σ3 i => n1 = L.length - i ∧ i ≤ L.length ∧ lv_has ls 2 [(1, .int (nI i)), (0, .ref t)] ∧ so_P D vcl s0.heap.size σ3 H ∧ va_S (so_A s0.heap.size) s.heap H locs ∧ σ3 t = some (10, oWe hw br wk row mv (nI (2 * bk))) ∧ RwR ca DE σ3 0 row ((L.take i).foldl (insE (2 * bk)) []) ∧ ALP ca DE σ3 mv 80 90 (L.map (fun e => e.1)) ∧ fT tW σ σ3) ?_ _ ls H locs σ2 0 ⟨rfl, Nat.zero_le _, hl, P, hS, g0, ⟨g1, fun e he => by cases he⟩, g2, Fr⟩
    clear hl P hS g0 g1 g2 Fr
    rintro n1 ls H locs σ3 i ⟨hn1, hi1, hl, P, hS, g0, g1, g2, Fr⟩ ih
    obtain ⟨md, ed, cap, f, Q0, hf⟩ := g2
    have h1 := Q0.1
    rw [List.length_map] at h1
    have g2 : ALP ca DE σ3 mv 80 90 (L.map (fun e => e.1)) := ⟨md, ed, cap, f, Q0, hf⟩
    refine lv_iload_n S.1 S.2.1 d_We_doubleBuckets_64 rfl (lv_at hl 0 rfl) ?_
    refine lv_aload_n S.1 S.2.1 d_We_doubleBuckets_65 rfl (lv_at hl 1 rfl) ?_
    refine gf_We_12_We S K P g0 rfl d_We_doubleBuckets_66 ?_
    refine so_callR (cv_We_33_AL S hB K E P hS h1 (c_AL_size (te := 0) (cap := 0) (f := fun _ => none) l hB h1) rfl (by decide) (by show _ + 0 ≤ 80; omega) (by show _ + 0 ≤ 5120; omega) hl.1 rfl (Nat.le_of_ble_eq_true rfl) d_We_doubleBuckets_69) (fun v hv => ?_)
    subst hv
    refine lv_icmp_ge (tgt := 96) S.1 S.2.1 d_We_doubleBuckets_72 rfl (fun h72 => ?_) (fun h72 => ?_)
    · have hi : L.length ≤ i := Nat.not_lt.mp fun z => absurd h72 (nI_ge z (by omega))
      rw [List.take_of_length_le hi] at g1
      exact so_vret S hr hlk P hS (by omega) (by omega) ⟨rfl, g0, g1, ⟨_, g2⟩, Fr⟩ d_We_doubleBuckets_96
    · have hlt : i < L.length := Nat.not_le.mp fun z => h72 (nI_le z (by omega))
      obtain ⟨md, ed, cap, f, h1, k2, k3, k4, k5, k6⟩ := g2.row (by rw [List.length_map]; omega)
      rw [List.length_map] at h1 k3
      have hfj : f i = some L[i].1 := k6 i _ (by rw [List.getElem?_map, List.getElem?_eq_getElem hlt]; rfl)
      have hen : enT σ3 0 L[i] := (M.2 _ (List.getElem_mem hlt)).fr Fr tW_lt
      refine lv_aload_n S.1 S.2.1 d_We_doubleBuckets_75 rfl (lv_at hl 1 rfl) ?_
      refine lv_aload_n S.1 S.2.1 d_We_doubleBuckets_76 rfl (lv_at hl 1 rfl) ?_
      refine gf_We_12_We S K P g0 rfl d_We_doubleBuckets_77 ?_
      refine lv_iload_n S.1 S.2.1 d_We_doubleBuckets_80 rfl (lv_at hl 0 rfl) ?_
      refine so_callR (cv_We_44_AL S hB K E P hS h1 (c_AL_get l hB h1 k2 (by omega) k3 i hlt) rfl (by decide) (by show _ + 0 ≤ 80; omega) (by show _ + 0 ≤ 5120; omega) hl.1 rfl (Nat.le_of_ble_eq_true rfl) d_We_doubleBuckets_81) (fun v hv => ?_)
      subst hv
      rw [hfj]
      refine so_castE (a := L[i].1) S K P hen.isE wd_647 d_We_doubleBuckets_84 ?_
      have hfl : ((L.take i).foldl (insE (2 * bk)) []).length < 40 := by rw [foE_len, List.length_take]; simp only [List.length_nil]; omega
      refine so_call (cv_We_22_We S hB K E P hS g0 (c_We_addToBucket l hB g0 g1 J hfl L[i] hen) rfl (by decide) (by show 40 + i + 1 ≤ 80; omega) (by show 64 * (40 + i) + 64 ≤ 5120; omega) hl.1 rfl (Nat.le_of_ble_eq_true rfl) d_We_doubleBuckets_87) hS (fun v σ4 H locs hv P hS => ?_)
      obtain ⟨rfl, q0, q1, Fr4⟩ := hv
      refine lv_iinc (k := 0) S.1 S.2.1 d_We_doubleBuckets_90 hl rfl rfl (by decide) rfl (fun ls hl => ?_)
      refine lv_goto (tgt := 64) S.1 S.2.1 d_We_doubleBuckets_93 rfl ?_
      rw [nI_a] at hl
      refine ih (L.length - (i + 1)) ls H locs σ4 (i + 1) (by omega) ⟨rfl, by omega, hl, P, hS, q0, ?_, g2.fr (Fr4.ag (fun t h z => by rcases h with h | h <;> rcases z with z | z <;> omega)), Fr.tr (Fr4.mono (fun t h => by rcases h with h | h; exact Or.inr (Or.inl h); exact Or.inr (Or.inr (Or.inl h))))⟩
      rw [List.take_succ_eq_append_getElem hlt, List.foldl_append]
      exact q1
  have ph1 : ∀ (ls : Array Slot) (H : Heap) (locs : List Loc) (σ2 : so_S), lv_has ls 2 [(1, .int (nI 0)), (0, .ref t)] → so_P D vcl s0.heap.size σ2 H → va_S (so_A s0.heap.size) s.heap H locs → σ2 t = some (10, oWe hw br wk row mv (nI bk)) → RwR ca DE σ2 0 row L → ALP ca DE σ2 mv 80 90 [] → fT tW σ σ2 → W p l e (so_rm 7 80 5120) s m #[.ref t] below meth c H locs 0 0 (MQ below (so_Q s0 D vcl (fun v σ1 => v = none ∧ σ1 t = some (10, oWe hw br wk row mv (nI (2 * bk))) ∧ RwR ca DE σ1 0 row (reE (2 * bk) L) ∧ (∃ Lm, ALP ca DE σ1 mv 80 90 Lm) ∧ fT tW σ σ1)) #[.ref t] s 80 5120 (so_A s0.heap.size)) (F0 m 9 ls []) := by
    intro ls H locs σ2 hl P hS g0 g1 g2 Fr
    refine so_lp (Wf := fun ls H locs σ3 (i : Nat) => W p l e _ s m _ below meth c H locs i (64 * i) _ (F0 m 9 ls [])) (fun n1 ls H locs σ3 i => n1 = L.length - i ∧ i ≤ L.length ∧ lv_has ls 2 [(1, .int (nI i)), (0, .ref t)] ∧ so_P D vcl s0.heap.size σ3 H ∧ va_S (so_A s0.heap.size) s.heap H locs ∧ σ3 t = some (10, oWe hw br wk row mv (nI bk)) ∧ RwR ca DE σ3 0 row L ∧ ALP ca DE σ3 mv 80 90 ((L.take i).map (fun e => e.1)) ∧ fT tW σ σ3) ?_ _ ls H locs σ2 0 ⟨rfl, Nat.zero_le _, hl, P, hS, g0, g1, g2, Fr⟩
    clear hl P hS g0 g1 g2 Fr
    rintro n1 ls H locs σ3 i ⟨hn1, hi1, hl, P, hS, g0, g1, g2, Fr⟩ ih
    obtain ⟨md, ed, cap, f, Q0, hf⟩ := g1.1
    have h1 := Q0.1
    rw [List.length_map] at h1
    obtain ⟨md2, ed2, cap2, f2, Q2, hf2⟩ := g2
    have g2 : ALP ca DE σ3 mv 80 90 ((L.take i).map (fun e => e.1)) := ⟨md2, ed2, cap2, f2, Q2, hf2⟩
    refine lv_iload_n S.1 S.2.1 d_We_doubleBuckets_9 rfl (lv_at hl 0 rfl) ?_
    refine lv_aload_n S.1 S.2.1 d_We_doubleBuckets_10 rfl (lv_at hl 1 rfl) ?_
    refine gf_We_30_We S K P g0 rfl d_We_doubleBuckets_11 ?_
    refine so_callR (cv_We_33_AL S hB K E P hS h1 (c_AL_size (te := 0) (cap := 0) (f := fun _ => none) l hB h1) rfl (by decide) (by show _ + 0 ≤ 80; omega) (by show _ + 0 ≤ 5120; omega) hl.1 rfl (Nat.le_of_ble_eq_true rfl) d_We_doubleBuckets_14) (fun v hv => ?_)
    subst hv
    refine lv_icmp_ge (tgt := 45) S.1 S.2.1 d_We_doubleBuckets_17 rfl (fun h17 => ?_) (fun h17 => ?_)
    · have hi : L.length ≤ i := Nat.not_lt.mp fun z => absurd h17 (nI_ge z (by omega))
      rw [List.take_of_length_le hi] at g2
      refine W.widen (k := 40) (n := 2560) (by omega) (by omega) ?_
      refine lv_aload_n S.1 S.2.1 d_We_doubleBuckets_45 rfl (lv_at hl 1 rfl) ?_
      refine gf_We_30_We S K P g0 rfl d_We_doubleBuckets_46 ?_
      refine so_call (cv_We_57_AL S hB K E P hS h1 (c_AL_clearA l hB (show 20 + 0 ≠ 30 + 0 by decide) g1.1) rfl (by decide) (by show 40 + 0 ≤ 80; omega) (by show 2560 + 0 ≤ 5120; omega) hl.1 rfl (Nat.le_of_ble_eq_true rfl) d_We_doubleBuckets_49) hS (fun v σ4 H locs hv P hS => ?_)
      obtain ⟨rfl, q1, Fr4⟩ := hv
      have q0 : σ4 t = some (10, oWe hw br wk row mv (nI bk)) := Fr4 _ _ g0 (fun z => by rcases z with z | z <;> (simp only at z; omega))
      refine lv_aload_n S.1 S.2.1 d_We_doubleBuckets_52 rfl (lv_at hl 1 rfl) ?_
      refine lv_iconst (v := 2) S.1 S.2.1 d_We_doubleBuckets_53 (by decide) ?_
      refine lv_aload_n S.1 S.2.1 d_We_doubleBuckets_54 rfl (lv_at hl 1 rfl) ?_
      refine gf_We_18_We S K P q0 rfl d_We_doubleBuckets_55 ?_
      refine lv_imul S.1 S.2.1 d_We_doubleBuckets_58 ?_
      rw [show (2 : Int32) * nI bk = nI (2 * bk) from nI_mul 2 bk]
      refine pf_We_18_We S K P hS q0 (Nat.le_of_ble_eq_true rfl) rfl rfl d_We_doubleBuckets_59 (fun H locs P hS => ?_)
      refine lv_iconst (v := 0) S.1 S.2.1 d_We_doubleBuckets_62 (by decide) ?_
      refine lv_istore_n S.1 S.2.1 d_We_doubleBuckets_63 rfl hl (by decide) rfl (fun ls hl => ?_)
      refine ph4 ls H locs _ hl P hS so_us (q1.fr (ag_up q0 (fun z => by rcases z with z | z <;> (simp only at z; omega)))) ((g2.fr (Fr4.ag (fun t h z => by rcases h with h | h <;> rcases z with z | z <;> omega))).fr (ag_up q0 (fun z => by rcases z with z | z <;> (simp only at z; omega)))) ?_
      exact (Fr.tr (Fr4.mono (fun t h => by rcases h with h | h; exact Or.inr (Or.inl h); exact Or.inr (Or.inr (Or.inl h))))).up q0 (Or.inl rfl)
    · have hlt : i < L.length := Nat.not_le.mp fun z => h17 (nI_le z (by omega))
      obtain ⟨md, ed, cap, f, h1, k2, k3, k4, k5, k6⟩ := g1.1.row (by rw [List.length_map]; omega)
      rw [List.length_map] at h1 k3
      have hfj : f i = some L[i].1 := k6 i _ (by rw [List.getElem?_map, List.getElem?_eq_getElem hlt]; rfl)
      have hen : enT σ3 0 L[i] := (M.2 _ (List.getElem_mem hlt)).fr Fr tW_lt
      refine lv_aload_n S.1 S.2.1 d_We_doubleBuckets_20 rfl (lv_at hl 1 rfl) ?_
      refine gf_We_12_We S K P g0 rfl d_We_doubleBuckets_21 ?_
      refine lv_aload_n S.1 S.2.1 d_We_doubleBuckets_24 rfl (lv_at hl 1 rfl) ?_
      refine gf_We_30_We S K P g0 rfl d_We_doubleBuckets_25 ?_
      refine lv_iload_n S.1 S.2.1 d_We_doubleBuckets_28 rfl (lv_at hl 0 rfl) ?_
      refine so_callR (cv_We_44_AL S hB K E P hS h1 (c_AL_get l hB h1 k2 (by omega) k3 i hlt) rfl (by decide) (by show _ + 0 ≤ 80; omega) (by show _ + 0 ≤ 5120; omega) hl.1 rfl (Nat.le_of_ble_eq_true rfl) d_We_doubleBuckets_29) (fun v hv => ?_)
      subst hv
      rw [hfj]
      refine so_castE (a := L[i].1) S K P hen.isE wd_647 d_We_doubleBuckets_32 ?_
      refine so_call (cv_We_60_AL S hB K E P hS Q2.1 (c_AL_add l hB J (show 80 ≠ 90 by decide) (by decide) (by decide) g2 (by rw [List.length_map, List.length_take]; omega) (fun y hy => by obtain ⟨x, hx, rfl⟩ := List.mem_map.mp hy; exact ((M.2 x (List.mem_of_mem_take hx)).fr Fr tW_lt).isE) L[i].1 hen.isE) rfl (by decide) (by show i + 1 ≤ 80; omega) (by show 64 * i + 64 ≤ 5120; omega) hl.1 rfl (Nat.le_of_ble_eq_true rfl) d_We_doubleBuckets_35) hS (fun v σ4 H locs hv P hS => ?_)
      obtain ⟨rfl, q1, Fr4⟩ := hv
      refine lv_pop S.1 S.2.1 d_We_doubleBuckets_38 rfl ?_
      refine lv_iinc (k := 0) S.1 S.2.1 d_We_doubleBuckets_39 hl rfl rfl (by decide) rfl (fun ls hl => ?_)
      refine lv_goto (tgt := 9) S.1 S.2.1 d_We_doubleBuckets_42 rfl ?_
      rw [nI_a] at hl
      refine ih (L.length - (i + 1)) ls H locs σ4 (i + 1) (by omega) ⟨rfl, by omega, hl, P, hS, Fr4 _ _ g0 (fun z => by rcases z with z | z <;> (simp only at z; omega)), g1.ag (Fr4.ag (fun t h z => by rcases h with (h | h) | h <;> rcases z with z | z <;> omega)), ?_, Fr.tr (Fr4.mono (fun t h => by rcases h with h | h; exact Or.inr (Or.inr (Or.inr (Or.inl h))); exact Or.inr (Or.inr (Or.inr (Or.inr h)))))⟩
      rw [List.take_succ_eq_append_getElem hlt, List.map_append]
      exact q1
  obtain ⟨md, ed, cap, f, Q0, hf⟩ := Mm
  have Mm : ALP ca DE σ mv 80 90 Lm := ⟨md, ed, cap, f, Q0, hf⟩
  refine lv_aload_n S.1 S.2.1 d_We_doubleBuckets_0 rfl (lv_at hl 0 rfl) ?_
  refine gf_We_12_We S K P M0 rfl d_We_doubleBuckets_1 ?_
  refine so_call (cv_We_57_AL S hB K E P hS Q0.1 (c_AL_clearA l hB (show 80 ≠ 90 by decide) Mm) rfl (by decide) (Nat.zero_le _) (Nat.zero_le _) hl.1 rfl (Nat.le_of_ble_eq_true rfl) d_We_doubleBuckets_4) hS (fun v σ1 H locs hv P hS => ?_)
  obtain ⟨rfl, q1, Fr1⟩ := hv
  refine lv_iconst (v := 0) S.1 S.2.1 d_We_doubleBuckets_7 (by decide) ?_
  refine lv_istore_n S.1 S.2.1 d_We_doubleBuckets_8 rfl hl (by decide) rfl (fun ls hl => ?_)
  exact ph1 ls H locs _ hl P hS (Fr1 _ _ M0 (fun z => by rcases z with z | z <;> (simp only at z; omega))) (M.ag (Fr1.ag (fun t h z => by rcases h with (h | h) | h <;> rcases z with z | z <;> omega))) q1 (Fr1.mono (fun t h => by rcases h with h | h; exact Or.inr (Or.inr (Or.inr (Or.inl h))); exact Or.inr (Or.inr (Or.inr (Or.inr h)))))
set_option maxHeartbeats 400000 in
set_option maxRecDepth 100000 in
theorem c_We_add (l : Launch) {s0 : State} {D : va_G} {ca : Nat → ClassId} (hB : so_B tbl s0 D vcl (tyl ca)) {σ : so_S} {DE mi t row mv bk : Nat} {hw br wk : Int32} {L : List En} (M0 : σ t = some (10, oWe hw br wk row mv (nI bk))) (M : RwR ca DE σ 0 row L) {Lm : List Nat} (Mm : ALP ca DE σ mv 80 90 Lm) (J : jX s0 D ca DE mi) (hL : L.length < 40) (hbk : bk < 1000) (en : En) (he : enT σ 0 en) : so_C l s0 D vcl y_We_add b_We_add 2 none 8 81 5184 [.ref t, .ref en.1] σ (fun v σ1 => v = none ∧ σ1 t = some (10, oWe hw 1 wk row mv (nI (if 3 * bk < 4 * (L.length + 1) ∧ bk < 32 then 2 * bk else bk))) ∧ RwR ca DE σ1 0 row (if 3 * bk < 4 * (L.length + 1) ∧ bk < 32 then reE (2 * bk) (insE bk L en) else insE bk L en) ∧ (∃ Lm, ALP ca DE σ1 mv 80 90 Lm) ∧ fT tW σ σ1) := by
  refine so_of hB (by decide) (Nat.le_of_ble_eq_true rfl) ?_
  intro p e s m below meth c ls S K E hr hlk hnm P hS hl
  have hl : lv_has ls 2 [(0, .ref t), (1, .ref en.1)] := hl
  refine lv_aload_n S.1 S.2.1 d_We_add_0 rfl (lv_at hl 0 rfl) ?_
  refine lv_aload_n S.1 S.2.1 d_We_add_1 rfl (lv_at hl 1 rfl) ?_
  refine so_call (cv_We_22_We S hB K E P hS M0 (c_We_addToBucket l hB M0 M J hL en he) rfl (by decide) (by decide) (by decide) hl.1 rfl (Nat.le_of_ble_eq_true rfl) d_We_add_2) hS (fun v σ1 H locs hv P hS => ?_)
  obtain ⟨rfl, q0, q1, Fr1⟩ := hv
  have q2 : ALP ca DE σ1 mv 80 90 Lm := Mm.fr (Fr1.ag (fun t h z => by rcases h with h | h <;> rcases z with z | z <;> omega))
  refine lv_aload_n S.1 S.2.1 d_We_add_5 rfl (lv_at hl 0 rfl) ?_
  refine lv_iconst (v := 1) S.1 S.2.1 d_We_add_6 (by decide) ?_
  refine pf_We_26_We S K P hS q0 (Nat.le_of_ble_eq_true rfl) rfl rfl d_We_add_7 (fun H locs P hS => ?_)
  obtain ⟨σ2, hσ2⟩ : ∃ q, q = so_up σ1 t (10, oWe hw 1 wk row mv (nI bk)) := ⟨_, rfl⟩
  have P : so_P D vcl s0.heap.size σ2 H := by rw [hσ2]; exact P
  have g0 : σ2 t = some (10, oWe hw 1 wk row mv (nI bk)) := by rw [hσ2]; exact so_us
  have g1 : RwR ca DE σ2 0 row (insE bk L en) := by rw [hσ2]; exact q1.ag (ag_up q0 (fun z => by rcases z with (z | z) | z <;> (simp only at z; omega)))
  have g2 : ALP ca DE σ2 mv 80 90 Lm := by rw [hσ2]; exact q2.fr (ag_up q0 (fun z => by rcases z with z | z <;> (simp only at z; omega)))
  have Fr : fT tW σ σ2 := by rw [hσ2]; exact (Fr1.mono (fun t h => by rcases h with h | h; exact Or.inr (Or.inl h); exact Or.inr (Or.inr (Or.inl h)))).up q0 (Or.inl rfl)
  clear hσ2 q0 q1 q2
  obtain ⟨md, ed, cap, f, Q0, hf⟩ := g1.1
  have h1 := Q0.1
  rw [List.length_map] at h1
  refine lv_iconst (v := 4) S.1 S.2.1 d_We_add_10 (by decide) ?_
  refine lv_aload_n S.1 S.2.1 d_We_add_11 rfl (lv_at hl 0 rfl) ?_
  refine gf_We_30_We S K P g0 rfl d_We_add_12 ?_
  refine so_callR (cv_We_33_AL S hB K E P hS h1 (c_AL_size (te := 0) (cap := 0) (f := fun _ => none) l hB h1) rfl (by decide) (by decide) (by decide) hl.1 rfl (Nat.le_of_ble_eq_true rfl) d_We_add_15) (fun v hv => ?_)
  subst hv
  rw [insE_len]
  refine lv_imul S.1 S.2.1 d_We_add_18 ?_
  refine lv_iconst (v := 3) S.1 S.2.1 d_We_add_19 (by decide) ?_
  refine lv_aload_n S.1 S.2.1 d_We_add_20 rfl (lv_at hl 0 rfl) ?_
  refine gf_We_18_We S K P g0 rfl d_We_add_21 ?_
  refine lv_imul S.1 S.2.1 d_We_add_24 ?_
  rw [show (4 : Int32) * nI (L.length + 1) = nI (4 * (L.length + 1)) from nI_mul 4 _, show (3 : Int32) * nI bk = nI (3 * bk) from nI_mul 3 bk]
  refine lv_icmp_le (tgt := 41) S.1 S.2.1 d_We_add_25 rfl (fun h25 => ?_) (fun h25 => ?_)
  · have hno : ¬ (3 * bk < 4 * (L.length + 1) ∧ bk < 32) := by
      first
        | exact fun z => absurd h25 (nI_ge z.1 (by omega))
        | exact fun z => absurd h34 (nI_ge (b := 32) z.2 (by omega))
    exact so_vret S hr hlk P hS (by decide) (by decide) ⟨rfl, by rw [if_neg hno]; exact g0, by rw [if_neg hno]; exact g1, ⟨_, g2⟩, Fr⟩ d_We_add_41
  · refine lv_aload_n S.1 S.2.1 d_We_add_28 rfl (lv_at hl 0 rfl) ?_
    refine gf_We_18_We S K P g0 rfl d_We_add_29 ?_
    refine lv_bipush (v := 32) S.1 S.2.1 d_We_add_32 (by decide) ?_
    refine lv_icmp_ge (tgt := 41) S.1 S.2.1 d_We_add_34 rfl (fun h34 => ?_) (fun h34 => ?_)
    · have hno : ¬ (3 * bk < 4 * (L.length + 1) ∧ bk < 32) := by
        first
          | exact fun z => absurd h25 (nI_ge z.1 (by omega))
          | exact fun z => absurd h34 (nI_ge (b := 32) z.2 (by omega))
      exact so_vret S hr hlk P hS (by decide) (by decide) ⟨rfl, by rw [if_neg hno]; exact g0, by rw [if_neg hno]; exact g1, ⟨_, g2⟩, Fr⟩ d_We_add_41
    · refine lv_aload_n S.1 S.2.1 d_We_add_37 rfl (lv_at hl 0 rfl) ?_
      have hyes : 3 * bk < 4 * (L.length + 1) ∧ bk < 32 := ⟨Nat.not_le.mp fun z => h25 (nI_le z (by omega)), Nat.not_le.mp fun z => h34 (nI_le (a := 32) z (by omega))⟩
      refine so_call (cv_We_37_We S hB K E P hS g0 (c_We_doubleBuckets l hB g0 g1 g2 J (by rw [insE_len]; omega)) rfl (by decide) (by decide) (by decide) hl.1 rfl (Nat.le_of_ble_eq_true rfl) d_We_add_38) hS (fun v σ3 H locs hv P hS => ?_)
      obtain ⟨rfl, r0, r1, r2, Fr3⟩ := hv
      exact so_vret S hr hlk P hS (by decide) (by decide) ⟨rfl, by rw [if_pos hyes]; exact r0, by rw [if_pos hyes]; exact r1, r2, Fr.tr Fr3⟩ d_We_add_41

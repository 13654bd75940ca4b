/-! The rows of maps: length, entryAt, dropAt, append. -/
theorem ag_up {P : Nat → Prop} {σ : so_S} {t : Nat} {x y : so_E} (h : σ t = some x) (hx : ¬ P x.1) : agT P σ (so_up σ t y) := fun q w hq hw => by rw [so_un (so_ne hq h (fun e => hx (e ▸ hw)))]; exact hq
theorem ag_nw {P : Nat → Prop} {σ : so_S} {t : Nat} {y : so_E} (h : σ t = none) : agT P σ (so_up σ t y) := fun q w hq hw => by rw [so_un (fun e => by rw [e, h] at hq; cases hq)]; exact hq
theorem enT.ag {σ σ1 : so_S} {k : Nat} {e : En} (h : enT σ k e) (hg : agT (fun t => 1000 ≤ t) σ σ1) : enT σ1 k e := ⟨h.1, hg _ _ h.2 (by show 1000 ≤ _; omega)⟩
theorem er_map {f : En → Nat} : ∀ {L : List En} {j : Nat}, (L.map f).eraseIdx j = (L.eraseIdx j).map f
  | [], _ => rfl
  | _ :: _, 0 => rfl
  | x :: L, j + 1 => by
    show f x :: (L.map f).eraseIdx j = f x :: (L.eraseIdx j).map f
    rw [er_map]
theorem in_map {f : En → Nat} {e : En} : ∀ {L : List En} {j : Nat}, (L.map f).insertIdx j (f e) = (L.insertIdx j e).map f
  | _, 0 => rfl
  | [], _ + 1 => rfl
  | x :: L, j + 1 => by
    rw [List.map_cons, List.insertIdx_succ_cons, List.insertIdx_succ_cons, List.map_cons, in_map]
theorem mem_er {L : List En} {j : Nat} {e : En} (h : e ∈ L.eraseIdx j) : e ∈ L := List.mem_of_mem_eraseIdx h
set_option maxHeartbeats 400000 in
set_option maxRecDepth 100000 in
theorem c_Ro_length_We (l : Launch) {s0 : State} {D : va_G} {ca : Nat → ClassId} (hB : so_B tbl s0 D vcl (tyl ca)) {σ : so_S} {DE t row : Nat} {mv : Nat} {x0 : Int32} {hw br wk : Int32} {L : List En} (M0 : σ t = some (10, oWe hw br wk row mv x0)) (M : RwR ca DE σ 0 row L) : so_D l s0 D vcl y_Ro_length b_Ro_length 1 (some .int) 1 [.ref t] σ (fun v => v = some (.int (nI L.length))) := by
  refine so_ofR hB (by decide) (Nat.le_of_ble_eq_true rfl) ?_
  intro p e s m below meth c ls S K E hr hlk P hS hl
  have hl : lv_has ls 1 [(0, .ref t)] := hl
  obtain ⟨md, ed, cap, f, Q0, hf⟩ := M.1
  have h1 := Q0.1
  rw [List.length_map] at h1
  refine lv_aload_n S.1 S.2.1 d_Ro_length_0 rfl (lv_at hl 0 rfl) ?_
  refine gf_Ro_10_We S K P M0 rfl d_Ro_length_1 ?_
  refine so_callR (cv_Ro_16_AL S hB K E P hS h1 (c_AL_size (te := 0) (cap := 0) (f := fun _ => none) l hB h1) rfl (by decide) (Nat.zero_le _) (Nat.zero_le _) hl.1 rfl (Nat.le_of_ble_eq_true rfl) d_Ro_length_4) (fun v hv => ?_)
  subst hv
  exact so_iretR S hr hlk rfl d_Ro_length_7
set_option maxHeartbeats 400000 in
set_option maxRecDepth 100000 in
theorem c_Ro_entryAt_We (l : Launch) {s0 : State} {D : va_G} {ca : Nat → ClassId} (hB : so_B tbl s0 D vcl (tyl ca)) {σ : so_S} {DE t row : Nat} {mv : Nat} {x0 : Int32} {hw br wk : Int32} {L : List En} (M0 : σ t = some (10, oWe hw br wk row mv x0)) (M : RwR ca DE σ 0 row L) (hL : L.length < 1000) (x : Int32) : so_D l s0 D vcl y_Ro_entryAt b_Ro_entryAt 2 (some (.object "HoldMaps$Entry")) 3 [.ref t, .int x] σ (fun v => v = some (va_rf ((atI L x).map (fun e => e.1)))) := by
  refine so_ofR hB (by decide) (Nat.le_of_ble_eq_true rfl) ?_
  intro p e s m below meth c ls S K E hr hlk P hS hl
  have hl : lv_has ls 2 [(0, .ref t), (1, .int x)] := hl
  obtain ⟨md, ed, cap, f, Q0, hf⟩ := M.1
  have h1 := Q0.1
  rw [List.length_map] at h1
  refine lv_iload_n S.1 S.2.1 d_Ro_entryAt_0 rfl (lv_at hl 1 rfl) ?_
  refine lv_if_lt (tgt := 29) S.1 S.2.1 d_Ro_entryAt_1 rfl (fun h1b => ?_) (fun h1b => ?_)
  · refine lv_null S.1 S.2.1 d_Ro_entryAt_29 ?_
    refine so_aretR (v := none) S hr (Or.inl ⟨_, rfl⟩) hlk ?_ d_Ro_entryAt_30
    first
      | rw [atI_neg h1b]; rfl
      | rw [atI_ge h12]; rfl
  · refine lv_iload_n S.1 S.2.1 d_Ro_entryAt_4 rfl (lv_at hl 1 rfl) ?_
    refine lv_aload_n S.1 S.2.1 d_Ro_entryAt_5 rfl (lv_at hl 0 rfl) ?_
    refine gf_Ro_10_We S K P M0 rfl d_Ro_entryAt_6 ?_
    refine so_callR (cv_Ro_16_AL S hB K E P hS h1 (c_AL_size (te := 0) (cap := 0) (f := fun _ => none) l hB h1) rfl (by decide) (Nat.zero_le _) (Nat.zero_le _) hl.1 rfl (Nat.le_of_ble_eq_true rfl) d_Ro_entryAt_9) (fun v hv => ?_)
    subst hv
    refine lv_icmp_ge (tgt := 29) S.1 S.2.1 d_Ro_entryAt_12 rfl (fun h12 => ?_) (fun h12 => ?_)
    · refine lv_null S.1 S.2.1 d_Ro_entryAt_29 ?_
      refine so_aretR (v := none) S hr (Or.inl ⟨_, rfl⟩) hlk ?_ d_Ro_entryAt_30
      first
        | rw [atI_neg h1b]; rfl
        | rw [atI_ge h12]; rfl
    · refine lv_aload_n S.1 S.2.1 d_Ro_entryAt_15 rfl (lv_at hl 0 rfl) ?_
      refine gf_Ro_10_We S K P M0 rfl d_Ro_entryAt_16 ?_
      refine lv_iload_n S.1 S.2.1 d_Ro_entryAt_19 rfl (lv_at hl 1 rfl) ?_
      obtain ⟨j, hj, rfl⟩ := ix_in (by omega) rfl h1b h12
      obtain ⟨md, ed, cap, f, k1, k2, k3, k4, k5, k6⟩ := M.1.row (by rw [List.length_map]; omega)
      rw [List.length_map] at k1 k3
      have hfj : f j = some L[j].1 := k6 j _ (by rw [List.getElem?_map, List.getElem?_eq_getElem hj]; rfl)
      refine so_callR (cv_Ro_20_AL S hB K E P hS k1 (c_AL_get l hB k1 k2 (by omega) k3 j hj) rfl (by decide) (Nat.zero_le _) (Nat.zero_le _) hl.1 rfl (Nat.le_of_ble_eq_true rfl) d_Ro_entryAt_20) (fun v hv => ?_)
      subst hv
      rw [hfj]
      refine so_castE (a := L[j].1) S K P (M.2 _ (List.getElem_mem hj)).isE wd_453 d_Ro_entryAt_23 ?_
      refine lv_goto (tgt := 30) S.1 S.2.1 d_Ro_entryAt_26 rfl ?_
      refine so_aretR (v := some L[j].1) S hr (Or.inl ⟨_, rfl⟩) hlk ?_ d_Ro_entryAt_30
      rw [atI_nI hj (by omega)]; rfl
set_option maxHeartbeats 400000 in
set_option maxRecDepth 100000 in
theorem c_Ro_dropAt_We (l : Launch) {s0 : State} {D : va_G} {ca : Nat → ClassId} (hB : so_B tbl s0 D vcl (tyl ca)) {σ : so_S} {DE t row : Nat} {mv : Nat} {x0 : Int32} {hw br wk : Int32} {L : List En} (M0 : σ t = some (10, oWe hw br wk row mv x0)) (M : RwR ca DE σ 0 row L) (hL : L.length < 1000) (j : Nat) (hj : j < L.length) : so_C l s0 D vcl y_Ro_dropAt b_Ro_dropAt 2 none 3 0 0 [.ref t, .int (nI j)] σ (fun v σ1 => v = none ∧ σ1 t = some (10, oWe hw 1 wk row mv x0) ∧ RwR ca DE σ1 0 row (L.eraseIdx j) ∧ fT (tR 0) σ σ1) := by
  refine so_of hB (by decide) (Nat.le_of_ble_eq_true rfl) ?_
  intro p e s m below meth c ls S K E hr hlk hnm P hS hl
  have hl : lv_has ls 2 [(0, .ref t), (1, .int (nI j))] := hl
  obtain ⟨md, ed, cap, f, Q0, hf⟩ := M.1
  have h1 := Q0.1
  rw [List.length_map] at h1
  refine lv_iload_n S.1 S.2.1 d_Ro_dropAt_0 rfl (lv_at hl 1 rfl) ?_
  refine lv_if_lt (tgt := 29) S.1 S.2.1 d_Ro_dropAt_1 rfl (fun h1b => ?_) (fun h1b => ?_)
  · first
      | exact absurd h1b (nI_pos (by omega))
      | exact absurd h12 (nI_ge hj (by omega))
  · refine lv_iload_n S.1 S.2.1 d_Ro_dropAt_4 rfl (lv_at hl 1 rfl) ?_
    refine lv_aload_n S.1 S.2.1 d_Ro_dropAt_5 rfl (lv_at hl 0 rfl) ?_
    refine gf_Ro_10_We S K P M0 rfl d_Ro_dropAt_6 ?_
    refine so_callR (cv_Ro_16_AL S hB K E P hS h1 (c_AL_size (te := 0) (cap := 0) (f := fun _ => none) l hB h1) rfl (by decide) (Nat.zero_le _) (Nat.zero_le _) hl.1 rfl (Nat.le_of_ble_eq_true rfl) d_Ro_dropAt_9) (fun v hv => ?_)
    subst hv
    refine lv_icmp_ge (tgt := 29) S.1 S.2.1 d_Ro_dropAt_12 rfl (fun h12 => ?_) (fun h12 => ?_)
    · first
        | exact absurd h1b (nI_pos (by omega))
        | exact absurd h12 (nI_ge hj (by omega))
    · refine lv_aload_n S.1 S.2.1 d_Ro_dropAt_15 rfl (lv_at hl 0 rfl) ?_
      refine gf_Ro_10_We S K P M0 rfl d_Ro_dropAt_16 ?_
      refine lv_iload_n S.1 S.2.1 d_Ro_dropAt_19 rfl (lv_at hl 1 rfl) ?_
      refine so_call (cv_Ro_26_AL S hB K E P hS h1 (c_AL_remove l hB (show 20 + 0 ≠ 30 + 0 by decide) (by decide) (by decide) M.1 M.E j (by rw [List.length_map]; exact hj)) rfl (by decide) (Nat.le_refl _) (Nat.le_refl _) hl.1 rfl (Nat.le_of_ble_eq_true rfl) d_Ro_dropAt_20) hS (fun v σ1 H locs hv P hS => ?_)
      obtain ⟨⟨a, -, rfl⟩, k2, Fr⟩ := hv
      rw [er_map] at k2
      refine lv_pop S.1 S.2.1 d_Ro_dropAt_23 rfl ?_
      refine lv_aload_n S.1 S.2.1 d_Ro_dropAt_24 rfl (lv_at hl 0 rfl) ?_
      refine lv_iconst (v := 1) S.1 S.2.1 d_Ro_dropAt_25 (by decide) ?_
      have g0 : σ1 t = some (10, oWe hw br wk row mv x0) := Fr _ _ M0 (fun z => by rcases z with z | z <;> (simp only at z; omega))
      refine pf_Ro_29_We S K P hS g0 (Nat.le_of_ble_eq_true rfl) rfl rfl d_Ro_dropAt_26 (fun H locs P hS => ?_)
      exact so_vret S hr hlk P hS (Nat.le_refl _) (Nat.le_refl _) ⟨rfl, so_us, ⟨k2.fr (ag_up g0 (fun z => by rcases z with z | z <;> (simp only at z; omega))), fun e he => ((M.2 e (mem_er he)).fr Fr (tL_lt (by omega) (by omega))).ag (ag_up g0 (by show ¬ 1000 ≤ _; simp only; omega))⟩, (Fr.mono tL_R).up g0 (Or.inl rfl)⟩ d_Ro_dropAt_29
set_option maxHeartbeats 400000 in
set_option maxRecDepth 100000 in
theorem c_Ro_length_So (l : Launch) {s0 : State} {D : va_G} {ca : Nat → ClassId} (hB : so_B tbl s0 D vcl (tyl ca)) {σ : so_S} {DE t row : Nat} {x0 : Int32} {hw br wk : Int32} {L : List En} (M0 : σ t = some (11, oSo hw br wk row x0)) (M : RwR ca DE σ 1 row L) : so_D l s0 D vcl y_Ro_length b_Ro_length 1 (some .int) 1 [.ref t] σ (fun v => v = some (.int (nI L.length))) := by
  refine so_ofR hB (by decide) (Nat.le_of_ble_eq_true rfl) ?_
  intro p e s m below meth c ls S K E hr hlk P hS hl
  have hl : lv_has ls 1 [(0, .ref t)] := hl
  obtain ⟨md, ed, cap, f, Q0, hf⟩ := M.1
  have h1 := Q0.1
  rw [List.length_map] at h1
  refine lv_aload_n S.1 S.2.1 d_Ro_length_0 rfl (lv_at hl 0 rfl) ?_
  refine gf_Ro_10_So S K P M0 rfl d_Ro_length_1 ?_
  refine so_callR (cv_Ro_16_AL S hB K E P hS h1 (c_AL_size (te := 0) (cap := 0) (f := fun _ => none) l hB h1) rfl (by decide) (Nat.zero_le _) (Nat.zero_le _) hl.1 rfl (Nat.le_of_ble_eq_true rfl) d_Ro_length_4) (fun v hv => ?_)
  subst hv
  exact so_iretR S hr hlk rfl d_Ro_length_7
set_option maxHeartbeats 400000 in
set_option maxRecDepth 100000 in
theorem c_Ro_entryAt_So (l : Launch) {s0 : State} {D : va_G} {ca : Nat → ClassId} (hB : so_B tbl s0 D vcl (tyl ca)) {σ : so_S} {DE t row : Nat} {x0 : Int32} {hw br wk : Int32} {L : List En} (M0 : σ t = some (11, oSo hw br wk row x0)) (M : RwR ca DE σ 1 row L) (hL : L.length < 1000) (x : Int32) : so_D l s0 D vcl y_Ro_entryAt b_Ro_entryAt 2 (some (.object "HoldMaps$Entry")) 3 [.ref t, .int x] σ (fun v => v = some (va_rf ((atI L x).map (fun e => e.1)))) := by
  refine so_ofR hB (by decide) (Nat.le_of_ble_eq_true rfl) ?_
  intro p e s m below meth c ls S K E hr hlk P hS hl
  have hl : lv_has ls 2 [(0, .ref t), (1, .int x)] := hl
  obtain ⟨md, ed, cap, f, Q0, hf⟩ := M.1
  have h1 := Q0.1
  rw [List.length_map] at h1
  refine lv_iload_n S.1 S.2.1 d_Ro_entryAt_0 rfl (lv_at hl 1 rfl) ?_
  refine lv_if_lt (tgt := 29) S.1 S.2.1 d_Ro_entryAt_1 rfl (fun h1b => ?_) (fun h1b => ?_)
  · refine lv_null S.1 S.2.1 d_Ro_entryAt_29 ?_
    refine so_aretR (v := none) S hr (Or.inl ⟨_, rfl⟩) hlk ?_ d_Ro_entryAt_30
    first
      | rw [atI_neg h1b]; rfl
      | rw [atI_ge h12]; rfl
  · refine lv_iload_n S.1 S.2.1 d_Ro_entryAt_4 rfl (lv_at hl 1 rfl) ?_
    refine lv_aload_n S.1 S.2.1 d_Ro_entryAt_5 rfl (lv_at hl 0 rfl) ?_
    refine gf_Ro_10_So S K P M0 rfl d_Ro_entryAt_6 ?_
    refine so_callR (cv_Ro_16_AL S hB K E P hS h1 (c_AL_size (te := 0) (cap := 0) (f := fun _ => none) l hB h1) rfl (by decide) (Nat.zero_le _) (Nat.zero_le _) hl.1 rfl (Nat.le_of_ble_eq_true rfl) d_Ro_entryAt_9) (fun v hv => ?_)
    subst hv
    refine lv_icmp_ge (tgt := 29) S.1 S.2.1 d_Ro_entryAt_12 rfl (fun h12 => ?_) (fun h12 => ?_)
    · refine lv_null S.1 S.2.1 d_Ro_entryAt_29 ?_
      refine so_aretR (v := none) S hr (Or.inl ⟨_, rfl⟩) hlk ?_ d_Ro_entryAt_30
      first
        | rw [atI_neg h1b]; rfl
        | rw [atI_ge h12]; rfl
    · refine lv_aload_n S.1 S.2.1 d_Ro_entryAt_15 rfl (lv_at hl 0 rfl) ?_
      refine gf_Ro_10_So S K P M0 rfl d_Ro_entryAt_16 ?_
      refine lv_iload_n S.1 S.2.1 d_Ro_entryAt_19 rfl (lv_at hl 1 rfl) ?_
      obtain ⟨j, hj, rfl⟩ := ix_in (by omega) rfl h1b h12
      obtain ⟨md, ed, cap, f, k1, k2, k3, k4, k5, k6⟩ := M.1.row (by rw [List.length_map]; omega)
      rw [List.length_map] at k1 k3
      have hfj : f j = some L[j].1 := k6 j _ (by rw [List.getElem?_map, List.getElem?_eq_getElem hj]; rfl)
      refine so_callR (cv_Ro_20_AL S hB K E P hS k1 (c_AL_get l hB k1 k2 (by omega) k3 j hj) rfl (by decide) (Nat.zero_le _) (Nat.zero_le _) hl.1 rfl (Nat.le_of_ble_eq_true rfl) d_Ro_entryAt_20) (fun v hv => ?_)
      subst hv
      rw [hfj]
      refine so_castE (a := L[j].1) S K P (M.2 _ (List.getElem_mem hj)).isE wd_453 d_Ro_entryAt_23 ?_
      refine lv_goto (tgt := 30) S.1 S.2.1 d_Ro_entryAt_26 rfl ?_
      refine so_aretR (v := some L[j].1) S hr (Or.inl ⟨_, rfl⟩) hlk ?_ d_Ro_entryAt_30
      rw [atI_nI hj (by omega)]; rfl
set_option maxHeartbeats 400000 in
set_option maxRecDepth 100000 in
theorem c_Ro_dropAt_So (l : Launch) {s0 : State} {D : va_G} {ca : Nat → ClassId} (hB : so_B tbl s0 D vcl (tyl ca)) {σ : so_S} {DE t row : Nat} {x0 : Int32} {hw br wk : Int32} {L : List En} (M0 : σ t = some (11, oSo hw br wk row x0)) (M : RwR ca DE σ 1 row L) (hL : L.length < 1000) (j : Nat) (hj : j < L.length) : so_C l s0 D vcl y_Ro_dropAt b_Ro_dropAt 2 none 3 0 0 [.ref t, .int (nI j)] σ (fun v σ1 => v = none ∧ σ1 t = some (11, oSo hw 1 wk row x0) ∧ RwR ca DE σ1 1 row (L.eraseIdx j) ∧ fT (tR 1) σ σ1) := by
  refine so_of hB (by decide) (Nat.le_of_ble_eq_true rfl) ?_
  intro p e s m below meth c ls S K E hr hlk hnm P hS hl
  have hl : lv_has ls 2 [(0, .ref t), (1, .int (nI j))] := hl
  obtain ⟨md, ed, cap, f, Q0, hf⟩ := M.1
  have h1 := Q0.1
  rw [List.length_map] at h1
  refine lv_iload_n S.1 S.2.1 d_Ro_dropAt_0 rfl (lv_at hl 1 rfl) ?_
  refine lv_if_lt (tgt := 29) S.1 S.2.1 d_Ro_dropAt_1 rfl (fun h1b => ?_) (fun h1b => ?_)
  · first
      | exact absurd h1b (nI_pos (by omega))
      | exact absurd h12 (nI_ge hj (by omega))
  · refine lv_iload_n S.1 S.2.1 d_Ro_dropAt_4 rfl (lv_at hl 1 rfl) ?_
    refine lv_aload_n S.1 S.2.1 d_Ro_dropAt_5 rfl (lv_at hl 0 rfl) ?_
    refine gf_Ro_10_So S K P M0 rfl d_Ro_dropAt_6 ?_
    refine so_callR (cv_Ro_16_AL S hB K E P hS h1 (c_AL_size (te := 0) (cap := 0) (f := fun _ => none) l hB h1) rfl (by decide) (Nat.zero_le _) (Nat.zero_le _) hl.1 rfl (Nat.le_of_ble_eq_true rfl) d_Ro_dropAt_9) (fun v hv => ?_)
    subst hv
    refine lv_icmp_ge (tgt := 29) S.1 S.2.1 d_Ro_dropAt_12 rfl (fun h12 => ?_) (fun h12 => ?_)
    · first
        | exact absurd h1b (nI_pos (by omega))
        | exact absurd h12 (nI_ge hj (by omega))
    · refine lv_aload_n S.1 S.2.1 d_Ro_dropAt_15 rfl (lv_at hl 0 rfl) ?_
      refine gf_Ro_10_So S K P M0 rfl d_Ro_dropAt_16 ?_
      refine lv_iload_n S.1 S.2.1 d_Ro_dropAt_19 rfl (lv_at hl 1 rfl) ?_
      refine so_call (cv_Ro_26_AL S hB K E P hS h1 (c_AL_remove l hB (show 20 + 1 ≠ 30 + 1 by decide) (by decide) (by decide) M.1 M.E j (by rw [List.length_map]; exact hj)) rfl (by decide) (Nat.le_refl _) (Nat.le_refl _) hl.1 rfl (Nat.le_of_ble_eq_true rfl) d_Ro_dropAt_20) hS (fun v σ1 H locs hv P hS => ?_)
      obtain ⟨⟨a, -, rfl⟩, k2, Fr⟩ := hv
      rw [er_map] at k2
      refine lv_pop S.1 S.2.1 d_Ro_dropAt_23 rfl ?_
      refine lv_aload_n S.1 S.2.1 d_Ro_dropAt_24 rfl (lv_at hl 0 rfl) ?_
      refine lv_iconst (v := 1) S.1 S.2.1 d_Ro_dropAt_25 (by decide) ?_
      have g0 : σ1 t = some (11, oSo hw br wk row x0) := Fr _ _ M0 (fun z => by rcases z with z | z <;> (simp only at z; omega))
      refine pf_Ro_29_So S K P hS g0 (Nat.le_of_ble_eq_true rfl) rfl rfl d_Ro_dropAt_26 (fun H locs P hS => ?_)
      exact so_vret S hr hlk P hS (Nat.le_refl _) (Nat.le_refl _) ⟨rfl, so_us, ⟨k2.fr (ag_up g0 (fun z => by rcases z with z | z <;> (simp only at z; omega))), fun e he => ((M.2 e (mem_er he)).fr Fr (tL_lt (by omega) (by omega))).ag (ag_up g0 (by show ¬ 1000 ≤ _; simp only; omega))⟩, (Fr.mono tL_R).up g0 (Or.inl rfl)⟩ d_Ro_dropAt_29
set_option maxHeartbeats 400000 in
set_option maxRecDepth 100000 in
theorem c_Ro_append_So (l : Launch) {s0 : State} {D : va_G} {ca : Nat → ClassId} (hB : so_B tbl s0 D vcl (tyl ca)) {σ : so_S} {mi : Nat} {DE t row : Nat} {x0 : Int32} {hw br wk : Int32} {L : List En} (M0 : σ t = some (11, oSo hw br wk row x0)) (M : RwR ca DE σ 1 row L) (J : jX s0 D ca DE mi) (hL : L.length < 40) (en : En) (he : enT σ 1 en) : so_C l s0 D vcl y_Ro_append b_Ro_append 2 none 7 1 64 [.ref t, .ref en.1] σ (fun v σ1 => v = none ∧ σ1 t = some (11, oSo hw 1 wk row x0) ∧ RwR ca DE σ1 1 row (L ++ [en]) ∧ fT (tR 1) σ σ1) := by
  refine so_of hB (by decide) (Nat.le_of_ble_eq_true rfl) ?_
  intro p e s m below meth c ls S K E hr hlk hnm P hS hl
  have hl : lv_has ls 2 [(0, .ref t), (1, .ref en.1)] := hl
  obtain ⟨md, ed, cap, f, Q0, hf⟩ := M.1
  have h1 := Q0.1
  rw [List.length_map] at h1
  refine lv_aload_n S.1 S.2.1 d_Ro_append_0 rfl (lv_at hl 0 rfl) ?_
  refine gf_Ro_10_So S K P M0 rfl d_Ro_append_1 ?_
  refine lv_aload_n S.1 S.2.1 d_Ro_append_4 rfl (lv_at hl 1 rfl) ?_
  refine so_call (cv_Ro_33_AL S hB K E P hS h1 (c_AL_add l hB J (show 20 + 1 ≠ 30 + 1 by decide) (by decide) (by decide) M.1 (by rw [List.length_map]; exact hL) M.E en.1 he.isE) rfl (by decide) (Nat.le_refl _) (Nat.le_refl _) hl.1 rfl (Nat.le_of_ble_eq_true rfl) d_Ro_append_5) hS (fun v σ1 H locs hv P hS => ?_)
  obtain ⟨rfl, k2, Fr⟩ := hv
  rw [show L.map (fun e => e.1) ++ [en.1] = (L ++ [en]).map (fun e => e.1) by rw [List.map_append]; rfl] at k2
  refine lv_pop S.1 S.2.1 d_Ro_append_8 rfl ?_
  refine lv_aload_n S.1 S.2.1 d_Ro_append_9 rfl (lv_at hl 0 rfl) ?_
  refine lv_iconst (v := 1) S.1 S.2.1 d_Ro_append_10 (by decide) ?_
  have g0 : σ1 t = some (11, oSo hw br wk row x0) := Fr _ _ M0 (fun z => by rcases z with z | z <;> (simp only at z; omega))
  refine pf_Ro_29_So S K P hS g0 (Nat.le_of_ble_eq_true rfl) rfl rfl d_Ro_append_11 (fun H locs P hS => ?_)
  refine so_vret S hr hlk P hS (Nat.le_refl _) (Nat.le_refl _) ⟨rfl, so_us, ⟨k2.fr (ag_up g0 (fun z => by rcases z with z | z <;> (simp only at z; omega))), fun x hx => ?_⟩, (Fr.mono tL_R).up g0 (Or.inl rfl)⟩ d_Ro_append_14
  have hx2 : enT σ 1 x := by
    rcases List.mem_append.mp hx with h | h
    · exact M.2 x h
    · rw [List.mem_singleton.mp h]; exact he
  exact (hx2.fr Fr (tL_lt (by omega) (by omega))).ag (ag_up g0 (by show ¬ 1000 ≤ _; simp only; omega))
set_option maxHeartbeats 400000 in
set_option maxRecDepth 100000 in
theorem c_Ro_length_Pl (l : Launch) {s0 : State} {D : va_G} {ca : Nat → ClassId} (hB : so_B tbl s0 D vcl (tyl ca)) {σ : so_S} {DE t row : Nat}  {hw br wk : Int32} {L : List En} (M0 : σ t = some (13, oPl hw br wk row)) (M : RwR ca DE σ 3 row L) : so_D l s0 D vcl y_Ro_length b_Ro_length 1 (some .int) 1 [.ref t] σ (fun v => v = some (.int (nI L.length))) := by
  refine so_ofR hB (by decide) (Nat.le_of_ble_eq_true rfl) ?_
  intro p e s m below meth c ls S K E hr hlk P hS hl
  have hl : lv_has ls 1 [(0, .ref t)] := hl
  obtain ⟨md, ed, cap, f, Q0, hf⟩ := M.1
  have h1 := Q0.1
  rw [List.length_map] at h1
  refine lv_aload_n S.1 S.2.1 d_Ro_length_0 rfl (lv_at hl 0 rfl) ?_
  refine gf_Ro_10_Pl S K P M0 rfl d_Ro_length_1 ?_
  refine so_callR (cv_Ro_16_AL S hB K E P hS h1 (c_AL_size (te := 0) (cap := 0) (f := fun _ => none) l hB h1) rfl (by decide) (Nat.zero_le _) (Nat.zero_le _) hl.1 rfl (Nat.le_of_ble_eq_true rfl) d_Ro_length_4) (fun v hv => ?_)
  subst hv
  exact so_iretR S hr hlk rfl d_Ro_length_7
set_option maxHeartbeats 400000 in
set_option maxRecDepth 100000 in
theorem c_Ro_entryAt_Pl (l : Launch) {s0 : State} {D : va_G} {ca : Nat → ClassId} (hB : so_B tbl s0 D vcl (tyl ca)) {σ : so_S} {DE t row : Nat}  {hw br wk : Int32} {L : List En} (M0 : σ t = some (13, oPl hw br wk row)) (M : RwR ca DE σ 3 row L) (hL : L.length < 1000) (x : Int32) : so_D l s0 D vcl y_Ro_entryAt b_Ro_entryAt 2 (some (.object "HoldMaps$Entry")) 3 [.ref t, .int x] σ (fun v => v = some (va_rf ((atI L x).map (fun e => e.1)))) := by
  refine so_ofR hB (by decide) (Nat.le_of_ble_eq_true rfl) ?_
  intro p e s m below meth c ls S K E hr hlk P hS hl
  have hl : lv_has ls 2 [(0, .ref t), (1, .int x)] := hl
  obtain ⟨md, ed, cap, f, Q0, hf⟩ := M.1
  have h1 := Q0.1
  rw [List.length_map] at h1
  refine lv_iload_n S.1 S.2.1 d_Ro_entryAt_0 rfl (lv_at hl 1 rfl) ?_
  refine lv_if_lt (tgt := 29) S.1 S.2.1 d_Ro_entryAt_1 rfl (fun h1b => ?_) (fun h1b => ?_)
  · refine lv_null S.1 S.2.1 d_Ro_entryAt_29 ?_
    refine so_aretR (v := none) S hr (Or.inl ⟨_, rfl⟩) hlk ?_ d_Ro_entryAt_30
    first
      | rw [atI_neg h1b]; rfl
      | rw [atI_ge h12]; rfl
  · refine lv_iload_n S.1 S.2.1 d_Ro_entryAt_4 rfl (lv_at hl 1 rfl) ?_
    refine lv_aload_n S.1 S.2.1 d_Ro_entryAt_5 rfl (lv_at hl 0 rfl) ?_
    refine gf_Ro_10_Pl S K P M0 rfl d_Ro_entryAt_6 ?_
    refine so_callR (cv_Ro_16_AL S hB K E P hS h1 (c_AL_size (te := 0) (cap := 0) (f := fun _ => none) l hB h1) rfl (by decide) (Nat.zero_le _) (Nat.zero_le _) hl.1 rfl (Nat.le_of_ble_eq_true rfl) d_Ro_entryAt_9) (fun v hv => ?_)
    subst hv
    refine lv_icmp_ge (tgt := 29) S.1 S.2.1 d_Ro_entryAt_12 rfl (fun h12 => ?_) (fun h12 => ?_)
    · refine lv_null S.1 S.2.1 d_Ro_entryAt_29 ?_
      refine so_aretR (v := none) S hr (Or.inl ⟨_, rfl⟩) hlk ?_ d_Ro_entryAt_30
      first
        | rw [atI_neg h1b]; rfl
        | rw [atI_ge h12]; rfl
    · refine lv_aload_n S.1 S.2.1 d_Ro_entryAt_15 rfl (lv_at hl 0 rfl) ?_
      refine gf_Ro_10_Pl S K P M0 rfl d_Ro_entryAt_16 ?_
      refine lv_iload_n S.1 S.2.1 d_Ro_entryAt_19 rfl (lv_at hl 1 rfl) ?_
      obtain ⟨j, hj, rfl⟩ := ix_in (by omega) rfl h1b h12
      obtain ⟨md, ed, cap, f, k1, k2, k3, k4, k5, k6⟩ := M.1.row (by rw [List.length_map]; omega)
      rw [List.length_map] at k1 k3
      have hfj : f j = some L[j].1 := k6 j _ (by rw [List.getElem?_map, List.getElem?_eq_getElem hj]; rfl)
      refine so_callR (cv_Ro_20_AL S hB K E P hS k1 (c_AL_get l hB k1 k2 (by omega) k3 j hj) rfl (by decide) (Nat.zero_le _) (Nat.zero_le _) hl.1 rfl (Nat.le_of_ble_eq_true rfl) d_Ro_entryAt_20) (fun v hv => ?_)
      subst hv
      rw [hfj]
      refine so_castE (a := L[j].1) S K P (M.2 _ (List.getElem_mem hj)).isE wd_453 d_Ro_entryAt_23 ?_
      refine lv_goto (tgt := 30) S.1 S.2.1 d_Ro_entryAt_26 rfl ?_
      refine so_aretR (v := some L[j].1) S hr (Or.inl ⟨_, rfl⟩) hlk ?_ d_Ro_entryAt_30
      rw [atI_nI hj (by omega)]; rfl
set_option maxHeartbeats 400000 in
set_option maxRecDepth 100000 in
theorem c_Ro_dropAt_Pl (l : Launch) {s0 : State} {D : va_G} {ca : Nat → ClassId} (hB : so_B tbl s0 D vcl (tyl ca)) {σ : so_S} {DE t row : Nat}  {hw br wk : Int32} {L : List En} (M0 : σ t = some (13, oPl hw br wk row)) (M : RwR ca DE σ 3 row L) (hL : L.length < 1000) (j : Nat) (hj : j < L.length) : so_C l s0 D vcl y_Ro_dropAt b_Ro_dropAt 2 none 3 0 0 [.ref t, .int (nI j)] σ (fun v σ1 => v = none ∧ σ1 t = some (13, oPl hw 1 wk row) ∧ RwR ca DE σ1 3 row (L.eraseIdx j) ∧ fT (tR 3) σ σ1) := by
  refine so_of hB (by decide) (Nat.le_of_ble_eq_true rfl) ?_
  intro p e s m below meth c ls S K E hr hlk hnm P hS hl
  have hl : lv_has ls 2 [(0, .ref t), (1, .int (nI j))] := hl
  obtain ⟨md, ed, cap, f, Q0, hf⟩ := M.1
  have h1 := Q0.1
  rw [List.length_map] at h1
  refine lv_iload_n S.1 S.2.1 d_Ro_dropAt_0 rfl (lv_at hl 1 rfl) ?_
  refine lv_if_lt (tgt := 29) S.1 S.2.1 d_Ro_dropAt_1 rfl (fun h1b => ?_) (fun h1b => ?_)
  · first
      | exact absurd h1b (nI_pos (by omega))
      | exact absurd h12 (nI_ge hj (by omega))
  · refine lv_iload_n S.1 S.2.1 d_Ro_dropAt_4 rfl (lv_at hl 1 rfl) ?_
    refine lv_aload_n S.1 S.2.1 d_Ro_dropAt_5 rfl (lv_at hl 0 rfl) ?_
    refine gf_Ro_10_Pl S K P M0 rfl d_Ro_dropAt_6 ?_
    refine so_callR (cv_Ro_16_AL S hB K E P hS h1 (c_AL_size (te := 0) (cap := 0) (f := fun _ => none) l hB h1) rfl (by decide) (Nat.zero_le _) (Nat.zero_le _) hl.1 rfl (Nat.le_of_ble_eq_true rfl) d_Ro_dropAt_9) (fun v hv => ?_)
    subst hv
    refine lv_icmp_ge (tgt := 29) S.1 S.2.1 d_Ro_dropAt_12 rfl (fun h12 => ?_) (fun h12 => ?_)
    · first
        | exact absurd h1b (nI_pos (by omega))
        | exact absurd h12 (nI_ge hj (by omega))
    · refine lv_aload_n S.1 S.2.1 d_Ro_dropAt_15 rfl (lv_at hl 0 rfl) ?_
      refine gf_Ro_10_Pl S K P M0 rfl d_Ro_dropAt_16 ?_
      refine lv_iload_n S.1 S.2.1 d_Ro_dropAt_19 rfl (lv_at hl 1 rfl) ?_
      refine so_call (cv_Ro_26_AL S hB K E P hS h1 (c_AL_remove l hB (show 20 + 3 ≠ 30 + 3 by decide) (by decide) (by decide) M.1 M.E j (by rw [List.length_map]; exact hj)) rfl (by decide) (Nat.le_refl _) (Nat.le_refl _) hl.1 rfl (Nat.le_of_ble_eq_true rfl) d_Ro_dropAt_20) hS (fun v σ1 H locs hv P hS => ?_)
      obtain ⟨⟨a, -, rfl⟩, k2, Fr⟩ := hv
      rw [er_map] at k2
      refine lv_pop S.1 S.2.1 d_Ro_dropAt_23 rfl ?_
      refine lv_aload_n S.1 S.2.1 d_Ro_dropAt_24 rfl (lv_at hl 0 rfl) ?_
      refine lv_iconst (v := 1) S.1 S.2.1 d_Ro_dropAt_25 (by decide) ?_
      have g0 : σ1 t = some (13, oPl hw br wk row) := Fr _ _ M0 (fun z => by rcases z with z | z <;> (simp only at z; omega))
      refine pf_Ro_29_Pl S K P hS g0 (Nat.le_of_ble_eq_true rfl) rfl rfl d_Ro_dropAt_26 (fun H locs P hS => ?_)
      exact so_vret S hr hlk P hS (Nat.le_refl _) (Nat.le_refl _) ⟨rfl, so_us, ⟨k2.fr (ag_up g0 (fun z => by rcases z with z | z <;> (simp only at z; omega))), fun e he => ((M.2 e (mem_er he)).fr Fr (tL_lt (by omega) (by omega))).ag (ag_up g0 (by show ¬ 1000 ≤ _; simp only; omega))⟩, (Fr.mono tL_R).up g0 (Or.inl rfl)⟩ d_Ro_dropAt_29
set_option maxHeartbeats 400000 in
set_option maxRecDepth 100000 in
theorem c_Ro_length_La (l : Launch) {s0 : State} {D : va_G} {ca : Nat → ClassId} (hB : so_B tbl s0 D vcl (tyl ca)) {σ : so_S} {DE t row : Nat}  {hw br wk : Int32} {L : List En} (M0 : σ t = some (14, oLa hw br wk row)) (M : RwR ca DE σ 4 row L) : so_D l s0 D vcl y_Ro_length b_Ro_length 1 (some .int) 1 [.ref t] σ (fun v => v = some (.int (nI L.length))) := by
  refine so_ofR hB (by decide) (Nat.le_of_ble_eq_true rfl) ?_
  intro p e s m below meth c ls S K E hr hlk P hS hl
  have hl : lv_has ls 1 [(0, .ref t)] := hl
  obtain ⟨md, ed, cap, f, Q0, hf⟩ := M.1
  have h1 := Q0.1
  rw [List.length_map] at h1
  refine lv_aload_n S.1 S.2.1 d_Ro_length_0 rfl (lv_at hl 0 rfl) ?_
  refine gf_Ro_10_La S K P M0 rfl d_Ro_length_1 ?_
  refine so_callR (cv_Ro_16_AL S hB K E P hS h1 (c_AL_size (te := 0) (cap := 0) (f := fun _ => none) l hB h1) rfl (by decide) (Nat.zero_le _) (Nat.zero_le _) hl.1 rfl (Nat.le_of_ble_eq_true rfl) d_Ro_length_4) (fun v hv => ?_)
  subst hv
  exact so_iretR S hr hlk rfl d_Ro_length_7
set_option maxHeartbeats 400000 in
set_option maxRecDepth 100000 in
theorem c_Ro_entryAt_La (l : Launch) {s0 : State} {D : va_G} {ca : Nat → ClassId} (hB : so_B tbl s0 D vcl (tyl ca)) {σ : so_S} {DE t row : Nat}  {hw br wk : Int32} {L : List En} (M0 : σ t = some (14, oLa hw br wk row)) (M : RwR ca DE σ 4 row L) (hL : L.length < 1000) (x : Int32) : so_D l s0 D vcl y_Ro_entryAt b_Ro_entryAt 2 (some (.object "HoldMaps$Entry")) 3 [.ref t, .int x] σ (fun v => v = some (va_rf ((atI L x).map (fun e => e.1)))) := by
  refine so_ofR hB (by decide) (Nat.le_of_ble_eq_true rfl) ?_
  intro p e s m below meth c ls S K E hr hlk P hS hl
  have hl : lv_has ls 2 [(0, .ref t), (1, .int x)] := hl
  obtain ⟨md, ed, cap, f, Q0, hf⟩ := M.1
  have h1 := Q0.1
  rw [List.length_map] at h1
  refine lv_iload_n S.1 S.2.1 d_Ro_entryAt_0 rfl (lv_at hl 1 rfl) ?_
  refine lv_if_lt (tgt := 29) S.1 S.2.1 d_Ro_entryAt_1 rfl (fun h1b => ?_) (fun h1b => ?_)
  · refine lv_null S.1 S.2.1 d_Ro_entryAt_29 ?_
    refine so_aretR (v := none) S hr (Or.inl ⟨_, rfl⟩) hlk ?_ d_Ro_entryAt_30
    first
      | rw [atI_neg h1b]; rfl
      | rw [atI_ge h12]; rfl
  · refine lv_iload_n S.1 S.2.1 d_Ro_entryAt_4 rfl (lv_at hl 1 rfl) ?_
    refine lv_aload_n S.1 S.2.1 d_Ro_entryAt_5 rfl (lv_at hl 0 rfl) ?_
    refine gf_Ro_10_La S K P M0 rfl d_Ro_entryAt_6 ?_
    refine so_callR (cv_Ro_16_AL S hB K E P hS h1 (c_AL_size (te := 0) (cap := 0) (f := fun _ => none) l hB h1) rfl (by decide) (Nat.zero_le _) (Nat.zero_le _) hl.1 rfl (Nat.le_of_ble_eq_true rfl) d_Ro_entryAt_9) (fun v hv => ?_)
    subst hv
    refine lv_icmp_ge (tgt := 29) S.1 S.2.1 d_Ro_entryAt_12 rfl (fun h12 => ?_) (fun h12 => ?_)
    · refine lv_null S.1 S.2.1 d_Ro_entryAt_29 ?_
      refine so_aretR (v := none) S hr (Or.inl ⟨_, rfl⟩) hlk ?_ d_Ro_entryAt_30
      first
        | rw [atI_neg h1b]; rfl
        | rw [atI_ge h12]; rfl
    · refine lv_aload_n S.1 S.2.1 d_Ro_entryAt_15 rfl (lv_at hl 0 rfl) ?_
      refine gf_Ro_10_La S K P M0 rfl d_Ro_entryAt_16 ?_
      refine lv_iload_n S.1 S.2.1 d_Ro_entryAt_19 rfl (lv_at hl 1 rfl) ?_
      obtain ⟨j, hj, rfl⟩ := ix_in (by omega) rfl h1b h12
      obtain ⟨md, ed, cap, f, k1, k2, k3, k4, k5, k6⟩ := M.1.row (by rw [List.length_map]; omega)
      rw [List.length_map] at k1 k3
      have hfj : f j = some L[j].1 := k6 j _ (by rw [List.getElem?_map, List.getElem?_eq_getElem hj]; rfl)
      refine so_callR (cv_Ro_20_AL S hB K E P hS k1 (c_AL_get l hB k1 k2 (by omega) k3 j hj) rfl (by decide) (Nat.zero_le _) (Nat.zero_le _) hl.1 rfl (Nat.le_of_ble_eq_true rfl) d_Ro_entryAt_20) (fun v hv => ?_)
      subst hv
      rw [hfj]
      refine so_castE (a := L[j].1) S K P (M.2 _ (List.getElem_mem hj)).isE wd_453 d_Ro_entryAt_23 ?_
      refine lv_goto (tgt := 30) S.1 S.2.1 d_Ro_entryAt_26 rfl ?_
      refine so_aretR (v := some L[j].1) S hr (Or.inl ⟨_, rfl⟩) hlk ?_ d_Ro_entryAt_30
      rw [atI_nI hj (by omega)]; rfl
set_option maxHeartbeats 400000 in
set_option maxRecDepth 100000 in
theorem c_Ro_dropAt_La (l : Launch) {s0 : State} {D : va_G} {ca : Nat → ClassId} (hB : so_B tbl s0 D vcl (tyl ca)) {σ : so_S} {DE t row : Nat}  {hw br wk : Int32} {L : List En} (M0 : σ t = some (14, oLa hw br wk row)) (M : RwR ca DE σ 4 row L) (hL : L.length < 1000) (j : Nat) (hj : j < L.length) : so_C l s0 D vcl y_Ro_dropAt b_Ro_dropAt 2 none 3 0 0 [.ref t, .int (nI j)] σ (fun v σ1 => v = none ∧ σ1 t = some (14, oLa hw 1 wk row) ∧ RwR ca DE σ1 4 row (L.eraseIdx j) ∧ fT (tR 4) σ σ1) := by
  refine so_of hB (by decide) (Nat.le_of_ble_eq_true rfl) ?_
  intro p e s m below meth c ls S K E hr hlk hnm P hS hl
  have hl : lv_has ls 2 [(0, .ref t), (1, .int (nI j))] := hl
  obtain ⟨md, ed, cap, f, Q0, hf⟩ := M.1
  have h1 := Q0.1
  rw [List.length_map] at h1
  refine lv_iload_n S.1 S.2.1 d_Ro_dropAt_0 rfl (lv_at hl 1 rfl) ?_
  refine lv_if_lt (tgt := 29) S.1 S.2.1 d_Ro_dropAt_1 rfl (fun h1b => ?_) (fun h1b => ?_)
  · first
      | exact absurd h1b (nI_pos (by omega))
      | exact absurd h12 (nI_ge hj (by omega))
  · refine lv_iload_n S.1 S.2.1 d_Ro_dropAt_4 rfl (lv_at hl 1 rfl) ?_
    refine lv_aload_n S.1 S.2.1 d_Ro_dropAt_5 rfl (lv_at hl 0 rfl) ?_
    refine gf_Ro_10_La S K P M0 rfl d_Ro_dropAt_6 ?_
    refine so_callR (cv_Ro_16_AL S hB K E P hS h1 (c_AL_size (te := 0) (cap := 0) (f := fun _ => none) l hB h1) rfl (by decide) (Nat.zero_le _) (Nat.zero_le _) hl.1 rfl (Nat.le_of_ble_eq_true rfl) d_Ro_dropAt_9) (fun v hv => ?_)
    subst hv
    refine lv_icmp_ge (tgt := 29) S.1 S.2.1 d_Ro_dropAt_12 rfl (fun h12 => ?_) (fun h12 => ?_)
    · first
        | exact absurd h1b (nI_pos (by omega))
        | exact absurd h12 (nI_ge hj (by omega))
    · refine lv_aload_n S.1 S.2.1 d_Ro_dropAt_15 rfl (lv_at hl 0 rfl) ?_
      refine gf_Ro_10_La S K P M0 rfl d_Ro_dropAt_16 ?_
      refine lv_iload_n S.1 S.2.1 d_Ro_dropAt_19 rfl (lv_at hl 1 rfl) ?_
      refine so_call (cv_Ro_26_AL S hB K E P hS h1 (c_AL_remove l hB (show 20 + 4 ≠ 30 + 4 by decide) (by decide) (by decide) M.1 M.E j (by rw [List.length_map]; exact hj)) rfl (by decide) (Nat.le_refl _) (Nat.le_refl _) hl.1 rfl (Nat.le_of_ble_eq_true rfl) d_Ro_dropAt_20) hS (fun v σ1 H locs hv P hS => ?_)
      obtain ⟨⟨a, -, rfl⟩, k2, Fr⟩ := hv
      rw [er_map] at k2
      refine lv_pop S.1 S.2.1 d_Ro_dropAt_23 rfl ?_
      refine lv_aload_n S.1 S.2.1 d_Ro_dropAt_24 rfl (lv_at hl 0 rfl) ?_
      refine lv_iconst (v := 1) S.1 S.2.1 d_Ro_dropAt_25 (by decide) ?_
      have g0 : σ1 t = some (14, oLa hw br wk row) := Fr _ _ M0 (fun z => by rcases z with z | z <;> (simp only at z; omega))
      refine pf_Ro_29_La S K P hS g0 (Nat.le_of_ble_eq_true rfl) rfl rfl d_Ro_dropAt_26 (fun H locs P hS => ?_)
      exact so_vret S hr hlk P hS (Nat.le_refl _) (Nat.le_refl _) ⟨rfl, so_us, ⟨k2.fr (ag_up g0 (fun z => by rcases z with z | z <;> (simp only at z; omega))), fun e he => ((M.2 e (mem_er he)).fr Fr (tL_lt (by omega) (by omega))).ag (ag_up g0 (by show ¬ 1000 ≤ _; simp only; omega))⟩, (Fr.mono tL_R).up g0 (Or.inl rfl)⟩ d_Ro_dropAt_29
set_option maxHeartbeats 400000 in
set_option maxRecDepth 100000 in
theorem c_Ro_append_La (l : Launch) {s0 : State} {D : va_G} {ca : Nat → ClassId} (hB : so_B tbl s0 D vcl (tyl ca)) {σ : so_S} {mi : Nat} {DE t row : Nat}  {hw br wk : Int32} {L : List En} (M0 : σ t = some (14, oLa hw br wk row)) (M : RwR ca DE σ 4 row L) (J : jX s0 D ca DE mi) (hL : L.length < 40) (en : En) (he : enT σ 4 en) : so_C l s0 D vcl y_Ro_append b_Ro_append 2 none 7 1 64 [.ref t, .ref en.1] σ (fun v σ1 => v = none ∧ σ1 t = some (14, oLa hw 1 wk row) ∧ RwR ca DE σ1 4 row (L ++ [en]) ∧ fT (tR 4) σ σ1) := by
  refine so_of hB (by decide) (Nat.le_of_ble_eq_true rfl) ?_
  intro p e s m below meth c ls S K E hr hlk hnm P hS hl
  have hl : lv_has ls 2 [(0, .ref t), (1, .ref en.1)] := hl
  obtain ⟨md, ed, cap, f, Q0, hf⟩ := M.1
  have h1 := Q0.1
  rw [List.length_map] at h1
  refine lv_aload_n S.1 S.2.1 d_Ro_append_0 rfl (lv_at hl 0 rfl) ?_
  refine gf_Ro_10_La S K P M0 rfl d_Ro_append_1 ?_
  refine lv_aload_n S.1 S.2.1 d_Ro_append_4 rfl (lv_at hl 1 rfl) ?_
  refine so_call (cv_Ro_33_AL S hB K E P hS h1 (c_AL_add l hB J (show 20 + 4 ≠ 30 + 4 by decide) (by decide) (by decide) M.1 (by rw [List.length_map]; exact hL) M.E en.1 he.isE) rfl (by decide) (Nat.le_refl _) (Nat.le_refl _) hl.1 rfl (Nat.le_of_ble_eq_true rfl) d_Ro_append_5) hS (fun v σ1 H locs hv P hS => ?_)
  obtain ⟨rfl, k2, Fr⟩ := hv
  rw [show L.map (fun e => e.1) ++ [en.1] = (L ++ [en]).map (fun e => e.1) by rw [List.map_append]; rfl] at k2
  refine lv_pop S.1 S.2.1 d_Ro_append_8 rfl ?_
  refine lv_aload_n S.1 S.2.1 d_Ro_append_9 rfl (lv_at hl 0 rfl) ?_
  refine lv_iconst (v := 1) S.1 S.2.1 d_Ro_append_10 (by decide) ?_
  have g0 : σ1 t = some (14, oLa hw br wk row) := Fr _ _ M0 (fun z => by rcases z with z | z <;> (simp only at z; omega))
  refine pf_Ro_29_La S K P hS g0 (Nat.le_of_ble_eq_true rfl) rfl rfl d_Ro_append_11 (fun H locs P hS => ?_)
  refine so_vret S hr hlk P hS (Nat.le_refl _) (Nat.le_refl _) ⟨rfl, so_us, ⟨k2.fr (ag_up g0 (fun z => by rcases z with z | z <;> (simp only at z; omega))), fun x hx => ?_⟩, (Fr.mono tL_R).up g0 (Or.inl rfl)⟩ d_Ro_append_14
  have hx2 : enT σ 4 x := by
    rcases List.mem_append.mp hx with h | h
    · exact M.2 x h
    · rw [List.mem_singleton.mp h]; exact he
  exact (hx2.fr Fr (tL_lt (by omega) (by omega))).ag (ag_up g0 (by show ¬ 1000 ≤ _; simp only; omega))

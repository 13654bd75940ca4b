/-! Tables: what writes: SoftMap, LatestMap, PlacesMap. -/
def unM (L : List En) : Prop := ∀ (i j : Nat) (a b : En), L[i]? = some a → L[j]? = some b → a.2.2.1 = b.2.2.1 → i = j
section RW
variable {ca : Nat → ClassId} {DE : Nat} {σ σ1 : so_S} {k row : Nat} {L : List En}
theorem RwR.ag (h : RwR ca DE σ k row L) (hg : agT (fun t => tL (20 + k) (30 + k) t ∨ 1000 ≤ t) σ σ1) : RwR ca DE σ1 k row L := ⟨h.1.fr (hg.sub (fun t z => Or.inl z)), fun e he => (h.2 e he).ag (hg.sub (fun t z => Or.inr z))⟩
theorem RwR.one (h : RwR ca DE σ k row L) (hk : k < 5) {a mk : Nat} {x y : va_E} (hfr : ∀ e ∈ L, e.2.2.1 ≠ mk) (ha : σ a = some (1000 * (k + 1) + mk, x)) : RwR ca DE (so_up σ a (1000 * (k + 1) + mk, y)) k row L := by
  refine ⟨h.1.fr (ag_up ha (fun z => by rcases z with z | z <;> (simp only at z; omega))), fun e he => ?_⟩
  have h1 := h.2 e he
  refine ⟨h1.1, ?_⟩
  rw [so_un (so_ne h1.2 ha (show 1000 * (k + 1) + e.2.2.1 ≠ 1000 * (k + 1) + mk from fun z => hfr e he (by omega)))]
  exact h1.2
theorem RwR.upd (h : RwR ca DE σ k row L) (hk : k < 5) {j : Nat} {en en2 : En} (hj : L[j]? = some en) (hU : unM L) (h1 : en2.1 = en.1) (h2 : en2.2.2.1 = en.2.2.1) : RwR ca DE (so_up σ en.1 (1000 * (k + 1) + en.2.2.1, oE en2)) k row (L.set j en2) := by
  have hen := h.2 en (List.mem_of_getElem? hj)
  have em : (L.set j en2).map (fun e => e.1) = L.map (fun e => e.1) := by
    apply List.ext_getElem?
    intro i
    rw [List.getElem?_map, List.getElem?_map, List.getElem?_set]
    split
    · rename_i e1
      subst e1
      rw [hj]
      split
      · show some en2.1 = some en.1
        rw [h1]
      · rename_i h3
        exact absurd (List.getElem?_eq_some_iff.mp hj).1 h3
    · rfl
  refine ⟨?_, fun e he => ?_⟩
  · rw [em]
    exact h.1.fr (ag_up hen.2 (fun z => by rcases z with z | z <;> (simp only at z; omega)))
  · obtain ⟨i, hi⟩ := List.mem_iff_getElem?.mp he
    rw [List.getElem?_set] at hi
    split at hi
    · split at hi
      · cases hi
        refine ⟨by rw [h2]; exact hen.1, ?_⟩
        rw [h1, so_us, h2]
      · cases hi
    · rename_i hne
      have hm := h.2 e (List.mem_of_getElem? hi)
      refine ⟨hm.1, ?_⟩
      rw [so_un (so_ne hm.2 hen.2 (show 1000 * (k + 1) + e.2.2.1 ≠ 1000 * (k + 1) + en.2.2.1 from fun z => hne (hU j i en e hj hi (by omega))))]
      exact hm.2
end RW
set_option maxHeartbeats 400000 in
set_option maxRecDepth 100000 in
theorem c_So_add (l : Launch) {s0 : State} {D : va_G} {ca : Nat → ClassId} (hB : so_B tbl s0 D vcl (tyl ca)) {σ : so_S} {DE mi t row tm : Nat} {hw br wk : Int32} {L : List En} (M0 : σ t = some (11, oSo hw br wk row (nI tm))) (M : RwR ca DE σ 1 row L) (J : jX s0 D ca DE mi) (hL : L.length < 40) (en : En) (he : enT σ 1 en) (hfr : ∀ x ∈ L, x.2.2.1 ≠ en.2.2.1) : so_C l s0 D vcl y_So_add b_So_add 2 none 8 1 64 [.ref t, .ref en.1] σ (fun v σ1 => v = none ∧ σ1 t = some (11, oSo hw 1 wk row (nI tm)) ∧ RwR ca DE σ1 1 row (L ++ [(en.1, en.2.1, en.2.2.1, en.2.2.2.1, tm)]) ∧ fT (tM 1) σ σ1) := by
  refine so_of hB (by decide) (Nat.le_of_ble_eq_true rfl) ?_
  intro p e s m below meth c ls S K E hr hlk hnm P hS hl
  have hl : lv_has ls 2 [(0, .ref t), (1, .ref en.1)] := hl
  refine lv_aload_n S.1 S.2.1 d_So_add_0 rfl (lv_at hl 1 rfl) ?_
  refine lv_aload_n S.1 S.2.1 d_So_add_1 rfl (lv_at hl 0 rfl) ?_
  refine gf_So_9_So S K P M0 rfl d_So_add_2 ?_
  refine pf_So_15_En S K P hS he.2 (Nat.le_of_ble_eq_true rfl) rfl rfl d_So_add_5 (fun H locs P hS => ?_)
  obtain ⟨σ2, hσ2⟩ : ∃ q, q = so_up σ en.1 (1000 * (1 + 1) + en.2.2.1, oE (en.1, en.2.1, en.2.2.1, en.2.2.2.1, tm)) := ⟨_, rfl⟩
  have P : so_P D vcl s0.heap.size σ2 H := by rw [hσ2]; exact P
  have Mb : RwR ca DE σ2 1 row L := by rw [hσ2]; exact M.one (by decide) hfr he.2
  have M0b : σ2 t = some (11, oSo hw br wk row (nI tm)) := by rw [hσ2, so_un (so_ne M0 he.2 (show 11 ≠ 1000 * (1 + 1) + en.2.2.1 by omega))]; exact M0
  have heb : enT σ2 1 (en.1, en.2.1, en.2.2.1, en.2.2.2.1, tm) := ⟨he.1, by rw [hσ2]; exact so_us⟩
  have Frb : fT (tM 1) σ σ2 := by rw [hσ2]; exact fT.rf.up he.2 (Or.inr (Or.inr (Or.inr (Or.inr (Or.inr ⟨by show 1000 * (1 + 1) ≤ 1000 * (1 + 1) + _; omega, by show 1000 * (1 + 1) + _ < _; have := he.1; omega⟩)))))
  refine lv_aload_n S.1 S.2.1 d_So_add_8 rfl (lv_at hl 0 rfl) ?_
  refine lv_aload_n S.1 S.2.1 d_So_add_9 rfl (lv_at hl 1 rfl) ?_
  refine so_call (cv_So_20_So S hB K E P hS M0b (c_Ro_append_So l hB M0b Mb J hL (en.1, en.2.1, en.2.2.1, en.2.2.2.1, tm) heb) rfl (by decide) (Nat.le_refl _) (Nat.le_refl _) hl.1 rfl (Nat.le_of_ble_eq_true rfl) d_So_add_10) hS (fun v σ1 H locs hv P hS => ?_)
  obtain ⟨rfl, k1, k2, k3⟩ := hv
  exact so_vret S hr hlk P hS (Nat.le_refl _) (Nat.le_refl _) ⟨rfl, k1, k2, Frb.tr (k3.mono (fun t h => by rcases h with h | h | h; exact Or.inl h; exact Or.inr (Or.inl h); exact Or.inr (Or.inr (Or.inl h))))⟩ d_So_add_13
set_option maxHeartbeats 400000 in
set_option maxRecDepth 100000 in
theorem c_So_use (l : Launch) {s0 : State} {D : va_G} {ca : Nat → ClassId} (hB : so_B tbl s0 D vcl (tyl ca)) {σ : so_S} {DE t row tm : Nat} {hw br wk : Int32} {L : List En} (M0 : σ t = some (11, oSo hw br wk row (nI tm))) (M : RwR ca DE σ 1 row L) (hL : L.length < 1000) (hU : unM L) (j : Nat) (en : En) (hj : L[j]? = some en) : so_C l s0 D vcl y_So_use b_So_use 3 none 4 0 0 [.ref t, .int (nI j)] σ (fun v σ1 => v = none ∧ σ1 t = some (11, oSo hw br wk row (nI tm)) ∧ RwR ca DE σ1 1 row (L.set j (en.1, en.2.1, en.2.2.1, en.2.2.2.1, tm)) ∧ fT (tM 1) σ σ1) := by
  refine so_of hB (by decide) (Nat.le_of_ble_eq_true rfl) ?_
  intro p e s m below meth c ls S K E hr hlk hnm P hS hl
  have hl : lv_has ls 3 [(0, .ref t), (1, .int (nI j))] := hl
  have hjl := (List.getElem?_eq_some_iff.mp hj).1
  have he := M.2 en (List.mem_of_getElem? hj)
  refine lv_aload_n S.1 S.2.1 d_So_use_0 rfl (lv_at hl 0 rfl) ?_
  refine lv_iload_n S.1 S.2.1 d_So_use_1 rfl (lv_at hl 1 rfl) ?_
  refine so_callR (cv_So_24_So S hB K E P hS M0 (c_Ro_entryAt_So l hB M0 M hL (nI j)) rfl (by decide) (Nat.zero_le _) (Nat.zero_le _) hl.1 rfl (Nat.le_of_ble_eq_true rfl) d_So_use_2) (fun v hv => ?_)
  subst hv
  rw [atI_o (by omega) (by omega), hj]
  refine lv_astore_nQ (r := some en.1) S.1 S.2.1 d_So_use_5 rfl hl (by decide) rfl (fun ls hl => ?_)
  refine lv_aload_nQ (r := some en.1) S.1 S.2.1 d_So_use_6 rfl (lv_at hl 0 rfl) ?_
  refine lv_ifnullQ (r := some en.1) (tgt := 18) S.1 S.2.1 d_So_use_7 rfl (fun h => by cases h) (fun q h => ?_)
  cases h
  refine lv_aload_nQ (r := some en.1) S.1 S.2.1 d_So_use_10 rfl (lv_at hl 0 rfl) ?_
  refine lv_aload_n S.1 S.2.1 d_So_use_11 rfl (lv_at hl 1 rfl) ?_
  refine gf_So_9_So S K P M0 rfl d_So_use_12 ?_
  refine pf_So_15_En S K P hS he.2 (Nat.le_of_ble_eq_true rfl) rfl rfl d_So_use_15 (fun H locs P hS => ?_)
  exact so_vret S hr hlk P hS (Nat.le_refl _) (Nat.le_refl _) ⟨rfl, by rw [so_un (so_ne M0 he.2 (show 11 ≠ 1000 * (1 + 1) + en.2.2.1 by omega))]; exact M0, M.upd (by decide) hj hU (en2 := (en.1, en.2.1, en.2.2.1, en.2.2.2.1, tm)) rfl rfl, fT.rf.up he.2 (Or.inr (Or.inr (Or.inr (Or.inr (Or.inr ⟨by show 1000 * (1 + 1) ≤ 1000 * (1 + 1) + _; omega, by show 1000 * (1 + 1) + _ < _; have := he.1; omega⟩)))))⟩ d_So_use_18
set_option maxHeartbeats 400000 in
set_option maxRecDepth 100000 in
theorem c_La_add (l : Launch) {s0 : State} {D : va_G} {ca : Nat → ClassId} (hB : so_B tbl s0 D vcl (tyl ca)) {σ : so_S} {DE mi t row : Nat} {hw br wk : Int32} {L : List En} (M0 : σ t = some (14, oLa hw br wk row)) (M : RwR ca DE σ 4 row L) (J : jX s0 D ca DE mi) (hL : L.length < 40) (en : En) (he : enT σ 4 en) : so_C l s0 D vcl y_La_add b_La_add 2 none 8 1 64 [.ref t, .ref en.1] σ (fun v σ1 => v = none ∧ σ1 t = some (14, oLa hw 1 wk row) ∧ RwR ca DE σ1 4 row (if 6 < L.length + 1 then (L ++ [en]).tail else L ++ [en]) ∧ fT (tR 4) σ σ1) := by
  refine so_of hB (by decide) (Nat.le_of_ble_eq_true rfl) ?_
  intro p e s m below meth c ls S K E hr hlk hnm P hS hl
  have hl : lv_has ls 2 [(0, .ref t), (1, .ref en.1)] := hl
  refine lv_aload_n S.1 S.2.1 d_La_add_0 rfl (lv_at hl 0 rfl) ?_
  refine lv_aload_n S.1 S.2.1 d_La_add_1 rfl (lv_at hl 1 rfl) ?_
  refine so_call (cv_La_9_La S hB K E P hS M0 (c_Ro_append_La l hB M0 M J hL en he) rfl (by decide) (Nat.le_refl _) (Nat.le_refl _) hl.1 rfl (Nat.le_of_ble_eq_true rfl) d_La_add_2) hS (fun v σ1 H locs hv P hS => ?_)
  obtain ⟨rfl, g0, k2, k3⟩ := hv
  obtain ⟨md, ed, cap, f, Q0, hf⟩ := k2.1
  have h1 := Q0.1
  rw [List.length_map] at h1
  have hln : (L ++ [en]).length = L.length + 1 := by rw [List.length_append]; rfl
  refine lv_aload_n S.1 S.2.1 d_La_add_5 rfl (lv_at hl 0 rfl) ?_
  refine gf_La_15_La S K P g0 rfl d_La_add_6 ?_
  refine so_callR (cv_La_19_AL S hB K E P hS h1 (c_AL_size (te := 0) (cap := 0) (f := fun _ => none) l hB h1) rfl (by decide) (Nat.le_refl _) (Nat.le_refl _) hl.1 rfl (Nat.le_of_ble_eq_true rfl) d_La_add_9) (fun v hv => ?_)
  subst hv
  refine lv_bipush (v := 6) S.1 S.2.1 d_La_add_12 (by decide) ?_
  refine lv_icmp_le (tgt := 22) S.1 S.2.1 d_La_add_14 rfl (fun h14 => ?_) (fun h14 => ?_)
  · have h14 : ¬ 6 < L.length + 1 := by
      rw [hln] at h14
      exact fun z => absurd h14 (nI_ge (a := 6) z (by omega))
    exact so_vret S hr hlk P hS (Nat.le_refl _) (Nat.le_refl _) ⟨rfl, g0, by rw [if_neg h14]; exact k2, k3⟩ d_La_add_22
  · refine lv_aload_n S.1 S.2.1 d_La_add_17 rfl (lv_at hl 0 rfl) ?_
    refine lv_iconst (v := 0) S.1 S.2.1 d_La_add_18 (by decide) ?_
    have h14 : 6 < L.length + 1 := by
      rw [hln] at h14
      exact Nat.not_le.mp fun z => h14 (nI_le (b := 6) z (by omega))
    refine so_call (cv_La_25_La S hB K E P hS g0 (c_Ro_dropAt_La l hB g0 k2 (by omega) 0 (by omega)) rfl (by decide) (Nat.le_refl _) (Nat.le_refl _) hl.1 rfl (Nat.le_of_ble_eq_true rfl) d_La_add_19) hS (fun v σ2 H locs hv P hS => ?_)
    obtain ⟨rfl, g1, q2, q3⟩ := hv
    exact so_vret S hr hlk P hS (Nat.le_refl _) (Nat.le_refl _) ⟨rfl, g1, by rw [if_pos h14, ← List.eraseIdx_zero]; exact q2, k3.tr q3⟩ d_La_add_22
set_option maxHeartbeats 400000 in
set_option maxRecDepth 100000 in
theorem c_La_use (l : Launch) {s0 : State} {D : va_G} {ca : Nat → ClassId} (hB : so_B tbl s0 D vcl (tyl ca)) {σ : so_S} {DE mi t row : Nat} {hw br wk : Int32} {L : List En} (M0 : σ t = some (14, oLa hw br wk row)) (M : RwR ca DE σ 4 row L) (J : jX s0 D ca DE mi) (hL : L.length < 40) (j : Nat) (en : En) (hj : L[j]? = some en) : so_C l s0 D vcl y_La_use b_La_use 3 none 8 1 64 [.ref t, .int (nI j)] σ (fun v σ1 => v = none ∧ (if j + 1 < L.length then (σ1 t = some (14, oLa hw 1 wk row) ∧ RwR ca DE σ1 4 row (L.eraseIdx j ++ [en])) else (σ1 t = some (14, oLa hw br wk row) ∧ RwR ca DE σ1 4 row L)) ∧ fT (tR 4) σ σ1) := by
  refine so_of hB (by decide) (Nat.le_of_ble_eq_true rfl) ?_
  intro p e s m below meth c ls S K E hr hlk hnm P hS hl
  have hl : lv_has ls 3 [(0, .ref t), (1, .int (nI j))] := hl
  have hjl := (List.getElem?_eq_some_iff.mp hj).1
  have he := M.2 en (List.mem_of_getElem? hj)
  obtain ⟨md, ed, cap, f, h1, k2, k3, k4, k5, k6⟩ := M.1.row (by rw [List.length_map]; omega)
  rw [List.length_map] at h1 k3
  have hfj : f j = some en.1 := k6 j _ (by rw [List.getElem?_map, hj]; rfl)
  refine lv_iload_n S.1 S.2.1 d_La_use_0 rfl (lv_at hl 1 rfl) ?_
  refine lv_if_lt (tgt := 39) S.1 S.2.1 d_La_use_1 rfl (fun h1b => ?_) (fun h1b => ?_)
  · first
      | exact absurd h1b (nI_pos (by omega))
      | (have h14 : ¬ j + 1 < L.length := fun z => absurd h14 (nI_ge (show j < L.length - 1 by omega) (by omega))
         exact so_vret S hr hlk P hS (Nat.zero_le _) (Nat.zero_le _) ⟨rfl, by rw [if_neg h14]; exact ⟨M0, M⟩, fT.rf⟩ d_La_use_39)
  · refine lv_iload_n S.1 S.2.1 d_La_use_4 rfl (lv_at hl 1 rfl) ?_
    refine lv_aload_n S.1 S.2.1 d_La_use_5 rfl (lv_at hl 0 rfl) ?_
    refine gf_La_15_La S K P M0 rfl d_La_use_6 ?_
    refine so_callR (cv_La_19_AL S hB K E P hS h1 (c_AL_size (te := 0) (cap := 0) (f := fun _ => none) l hB h1) rfl (by decide) (Nat.zero_le _) (Nat.zero_le _) hl.1 rfl (Nat.le_of_ble_eq_true rfl) d_La_use_9) (fun v hv => ?_)
    subst hv
    refine lv_iconst (v := 1) S.1 S.2.1 d_La_use_12 (by decide) ?_
    refine lv_isub S.1 S.2.1 d_La_use_13 ?_
    rw [nI_p (show 1 ≤ L.length by omega)]
    refine lv_icmp_ge (tgt := 39) S.1 S.2.1 d_La_use_14 rfl (fun h14 => ?_) (fun h14 => ?_)
    · first
        | exact absurd h1b (nI_pos (by omega))
        | (have h14 : ¬ j + 1 < L.length := fun z => absurd h14 (nI_ge (show j < L.length - 1 by omega) (by omega))
           exact so_vret S hr hlk P hS (Nat.zero_le _) (Nat.zero_le _) ⟨rfl, by rw [if_neg h14]; exact ⟨M0, M⟩, fT.rf⟩ d_La_use_39)
    · refine lv_aload_n S.1 S.2.1 d_La_use_17 rfl (lv_at hl 0 rfl) ?_
      refine gf_La_15_La S K P M0 rfl d_La_use_18 ?_
      refine lv_iload_n S.1 S.2.1 d_La_use_21 rfl (lv_at hl 1 rfl) ?_
      have h14 : j + 1 < L.length := by
        have : ¬ L.length - 1 ≤ j := fun z => h14 (nI_le z (by omega))
        omega
      refine so_callR (cv_La_29_AL S hB K E P hS h1 (c_AL_get l hB h1 k2 (by omega) k3 j hjl) rfl (by decide) (Nat.zero_le _) (Nat.zero_le _) hl.1 rfl (Nat.le_of_ble_eq_true rfl) d_La_use_22) (fun v hv => ?_)
      subst hv
      rw [hfj]
      refine so_castE (a := en.1) S K P he.isE wd_666 d_La_use_25 ?_
      refine lv_astore_n S.1 S.2.1 d_La_use_28 rfl hl (by decide) rfl (fun ls hl => ?_)
      refine lv_aload_n S.1 S.2.1 d_La_use_29 rfl (lv_at hl 1 rfl) ?_
      refine lv_iload_n S.1 S.2.1 d_La_use_30 rfl (lv_at hl 2 rfl) ?_
      refine so_call (cv_La_25_La S hB K E P hS M0 (c_Ro_dropAt_La l hB M0 M (by omega) j hjl) rfl (by decide) (Nat.zero_le _) (Nat.zero_le _) hl.1 rfl (Nat.le_of_ble_eq_true rfl) d_La_use_31) hS (fun v σ1 H locs hv P hS => ?_)
      obtain ⟨rfl, g0, q2, q3⟩ := hv
      have he1 : enT σ1 4 en := he.fr q3 (fun t h => by rcases h with h | h | h <;> omega)
      refine lv_aload_n S.1 S.2.1 d_La_use_34 rfl (lv_at hl 1 rfl) ?_
      refine lv_aload_n S.1 S.2.1 d_La_use_35 rfl (lv_at hl 0 rfl) ?_
      refine so_call (cv_La_9_La S hB K E P hS g0 (c_Ro_append_La l hB g0 q2 J (by rw [List.length_eraseIdx_of_lt hjl]; omega) en he1) rfl (by decide) (by show 0 + 0 + 1 ≤ 1; omega) (by show 0 + 0 + 64 ≤ 64; omega) hl.1 rfl (Nat.le_of_ble_eq_true rfl) d_La_use_36) hS (fun v σ2 H locs hv P hS => ?_)
      obtain ⟨rfl, g1, r2, r3⟩ := hv
      exact so_vret S hr hlk P hS (by show 0 + 0 + 1 ≤ 1; omega) (by show 0 + 0 + 64 ≤ 64; omega) ⟨rfl, by rw [if_pos h14]; exact ⟨g1, r2⟩, q3.tr r3⟩ d_La_use_39
set_option maxHeartbeats 400000 in
set_option maxRecDepth 100000 in
theorem c_Pl_add (l : Launch) {s0 : State} {D : va_G} {ca : Nat → ClassId} (hB : so_B tbl s0 D vcl (tyl ca)) {σ : so_S} {DE mi t row : Nat} {hw br wk : Int32} {L : List En} (M0 : σ t = some (13, oPl hw br wk row)) (M : RwR ca DE σ 3 row L) (J : jX s0 D ca DE mi) (hL : L.length < 40) (hK : ∀ x ∈ L, x.2.1 < 2 ^ 31) (en : En) (he : enT σ 3 en) (hek : en.2.1 < 2 ^ 31) : so_C l s0 D vcl y_Pl_add b_Pl_add 3 none 6 1 64 [.ref t, .ref en.1] σ (fun v σ1 => v = none ∧ σ1 t = some (13, oPl hw 1 wk row) ∧ RwR ca DE σ1 3 row (L.insertIdx (tw (fun x : En => decide (x.2.1 < en.2.1)) L) en) ∧ fT (tR 3) σ σ1) := by
  refine so_of hB (by decide) (Nat.le_of_ble_eq_true rfl) ?_
  intro p e s m below meth c ls S K E hr hlk hnm P hS hl
  have hl : lv_has ls 3 [(0, .ref t), (1, .ref en.1)] := hl
  obtain ⟨md, ed, cap, f, Q0, hf⟩ := M.1
  have h1 := Q0.1
  rw [List.length_map] at h1
  have tail : ∀ (ls : Array Slot) (i : Nat), lv_has ls 3 [(2, .int (nI i)), (0, .ref t), (1, .ref en.1)] → i = tw (fun x : En => decide (x.2.1 < en.2.1)) L → W p l e (so_rm 6 1 64) s m #[.ref t, .ref en.1] below meth c s.heap [] 0 0 (MQ below (so_Q s0 D vcl (fun v σ1 => v = none ∧ σ1 t = some (13, oPl hw 1 wk row) ∧ RwR ca DE σ1 3 row (L.insertIdx (tw (fun x : En => decide (x.2.1 < en.2.1)) L) en) ∧ fT (tR 3) σ σ1)) #[.ref t, .ref en.1] s 1 64 (so_A s0.heap.size)) (F0 m 40 ls []) := by
    intro ls i hl hi
    have hil : i ≤ L.length := by rw [hi]; exact tw_le _ _
    refine lv_aload_n S.1 S.2.1 d_Pl_add_40 rfl (lv_at hl 1 rfl) ?_
    refine gf_Pl_9_Pl S K P M0 rfl d_Pl_add_41 ?_
    refine lv_iload_n S.1 S.2.1 d_Pl_add_44 rfl (lv_at hl 0 rfl) ?_
    refine lv_aload_n S.1 S.2.1 d_Pl_add_45 rfl (lv_at hl 2 rfl) ?_
    refine so_call (cv_Pl_31_AL S hB K E P hS h1 (c_AL_add3 l hB J (show 20 + 3 ≠ 30 + 3 by decide) (by decide) (by decide) M.1 (by rw [List.length_map]; exact hL) M.E en.1 he.isE i (by rw [List.length_map]; exact hil)) rfl (by decide) (Nat.le_refl _) (Nat.le_refl _) hl.1 rfl (Nat.le_of_ble_eq_true rfl) d_Pl_add_46) hS (fun v σ1 H locs hv P hS => ?_)
    obtain ⟨rfl, k2, Fr⟩ := hv
    rw [in_map (f := fun e : En => e.1)] at k2
    have g0 : σ1 t = some (13, oPl hw br wk row) := Fr _ _ M0 (fun z => by rcases z with z | z <;> (simp only at z; omega))
    refine lv_aload_n S.1 S.2.1 d_Pl_add_49 rfl (lv_at hl 1 rfl) ?_
    refine lv_iconst (v := 1) S.1 S.2.1 d_Pl_add_50 (by decide) ?_
    refine pf_Pl_35_Pl S K P hS g0 (Nat.le_of_ble_eq_true rfl) rfl rfl d_Pl_add_51 (fun H locs P hS => ?_)
    refine so_vret S hr hlk P hS (Nat.le_refl _) (Nat.le_refl _) ⟨rfl, so_us, ⟨?_, fun x hx => ?_⟩, (Fr.mono tL_R).up g0 (Or.inl rfl)⟩ d_Pl_add_54
    · rw [← hi]
      exact k2.fr (ag_up g0 (fun z => by rcases z with z | z <;> (simp only at z; omega)))
    · have hx2 : enT σ 3 x := by
        rcases (List.mem_insertIdx (by rw [← hi]; exact hil)).mp hx with h | h
        · rw [h]; exact he
        · exact M.2 x h
      exact (hx2.fr Fr (tL_lt (by omega) (by omega))).ag (ag_up g0 (by show ¬ 1000 ≤ _; simp only; omega))
  refine lv_iconst (v := 0) S.1 S.2.1 d_Pl_add_0 (by decide) ?_
  refine lv_istore_n S.1 S.2.1 d_Pl_add_1 rfl hl (by decide) rfl (fun ls hl => ?_)
  refine so_lpR (Wf := fun ls (_ : Nat) => W p l e _ s m _ below meth c _ _ _ _ _ (F0 m 2 ls [])) (fun n1 ls i => n1 = L.length - i ∧ i ≤ L.length ∧ (∀ (j : Nat) (x : En), j < i → L[j]? = some x → decide (x.2.1 < en.2.1) = true) ∧ lv_has ls 3 [(2, .int (nI i)), (0, .ref t), (1, .ref en.1)]) ?_ _ ls 0 ⟨rfl, Nat.zero_le _, fun j en hj => absurd hj (Nat.not_lt_zero _), hl⟩
  clear hl
  intro n1 ls i ⟨hn1, hi1, hall, hl⟩ ih
  refine lv_iload_n S.1 S.2.1 d_Pl_add_2 rfl (lv_at hl 0 rfl) ?_
  refine lv_aload_n S.1 S.2.1 d_Pl_add_3 rfl (lv_at hl 1 rfl) ?_
  refine gf_Pl_9_Pl S K P M0 rfl d_Pl_add_4 ?_
  refine so_callR (cv_Pl_15_AL S hB K E P hS h1 (c_AL_size (te := 0) (cap := 0) (f := fun _ => none) l hB h1) rfl (by decide) (Nat.zero_le _) (Nat.zero_le _) hl.1 rfl (Nat.le_of_ble_eq_true rfl) d_Pl_add_7) (fun v hv => ?_)
  subst hv
  refine lv_icmp_ge (tgt := 40) S.1 S.2.1 d_Pl_add_10 rfl (fun h10 => ?_) (fun h10 => ?_)
  · refine tail ls i hl (Eq.symm (tw_is hi1 hall (fun x hx => ?_)))
    first
      | (rw [List.getElem?_eq_none (Nat.not_lt.mp fun z => absurd h10 (nI_ge z (by omega)))] at hx; cases hx)
      | (rw [List.getElem?_eq_getElem hlt] at hx
         cases hx
         exact decide_eq_false (fun z => absurd h31 (nI_ge z hek)))
  · have hlt : i < L.length := Nat.not_le.mp fun z => h10 (nI_le z (by omega))
    obtain ⟨md, ed, cap, f, h1, k2, k3, k4, k5, k6⟩ := M.1.row (by rw [List.length_map]; omega)
    rw [List.length_map] at h1 k3
    have hfj : f i = some L[i].1 := k6 i _ (by rw [List.getElem?_map, List.getElem?_eq_getElem hlt]; rfl)
    have hen := M.2 _ (List.getElem_mem hlt)
    have hkb := hK _ (List.getElem_mem hlt)
    refine lv_aload_n S.1 S.2.1 d_Pl_add_13 rfl (lv_at hl 1 rfl) ?_
    refine gf_Pl_9_Pl S K P M0 rfl d_Pl_add_14 ?_
    refine lv_iload_n S.1 S.2.1 d_Pl_add_17 rfl (lv_at hl 0 rfl) ?_
    refine so_callR (cv_Pl_21_AL S hB K E P hS h1 (c_AL_get l hB h1 k2 (by omega) k3 i hlt) rfl (by decide) (Nat.zero_le _) (Nat.zero_le _) hl.1 rfl (Nat.le_of_ble_eq_true rfl) d_Pl_add_18) (fun v hv => ?_)
    subst hv
    rw [hfj]
    refine so_castE (a := L[i].1) S K P hen.isE wd_619 d_Pl_add_21 ?_
    refine gf_Pl_27_En S K P hen.2 rfl d_Pl_add_24 ?_
    refine lv_aload_n S.1 S.2.1 d_Pl_add_27 rfl (lv_at hl 2 rfl) ?_
    refine gf_Pl_27_En S K P he.2 rfl d_Pl_add_28 ?_
    refine lv_icmp_ge (tgt := 40) S.1 S.2.1 d_Pl_add_31 rfl (fun h31 => ?_) (fun h31 => ?_)
    · refine tail ls i hl (Eq.symm (tw_is hi1 hall (fun x hx => ?_)))
      first
        | (rw [List.getElem?_eq_none (Nat.not_lt.mp fun z => absurd h10 (nI_ge z (by omega)))] at hx; cases hx)
        | (rw [List.getElem?_eq_getElem hlt] at hx
           cases hx
           exact decide_eq_false (fun z => absurd h31 (nI_ge z hek)))
    · refine lv_iinc (k := 0) S.1 S.2.1 d_Pl_add_34 hl rfl rfl (by decide) rfl (fun ls hl => ?_)
      refine lv_goto (tgt := 2) S.1 S.2.1 d_Pl_add_37 rfl ?_
      rw [nI_a] at hl
      refine ih (L.length - (i + 1)) ls (i + 1) (by omega) ⟨rfl, by omega, fun j x hj hx => ?_, hl⟩
      rcases Nat.lt_succ_iff_lt_or_eq.mp hj with h | h
      · exact hall j x h hx
      · rw [h, List.getElem?_eq_getElem hlt] at hx
        cases hx
        exact decide_eq_true (Nat.not_le.mp fun z => h31 (nI_le z hkb))

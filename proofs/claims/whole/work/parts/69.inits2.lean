/-! SoftMap.usedFirstAfter; the constructors of the maps. -/
theorem mn_lo {f : Nat → Nat} {lo n : Nat} (h : ¬ lo ≤ f n) : mnI f lo (n + 1) = mnI f lo n := by
  show (match mnI f lo n with | none => _ | some b => _) = _
  cases mnI f lo n with
  | none => exact if_neg h
  | some b => exact if_neg (fun z => h z.1)
set_option maxHeartbeats 400000 in
set_option maxRecDepth 100000 in
theorem c_So_usedFirstAfter (l : Launch) {s0 : State} {D : va_G} {ca : Nat → ClassId} (hB : so_B tbl s0 D vcl (tyl ca)) {σ : so_S} {DE t row : Nat} {hw br wk x0 : Int32} {L : List En} (M0 : σ t = some (11, oSo hw br wk row x0)) (M : RwR ca DE σ 1 row L) (hL : L.length < 1000) (hu : ∀ x ∈ L, x.2.2.2.2 < 2 ^ 31) (lo : Nat) (hlo : lo < 2 ^ 31) : so_D l s0 D vcl y_So_usedFirstAfter b_So_usedFirstAfter 5 (some .int) 3 [.ref t, .int (nI lo)] σ (fun v => v = some (.int (rI (mnI (ug (L.map (fun x => x.2.2.2.2))) (lo + 1) L.length)))) := by
  refine so_ofR hB (by decide) (Nat.le_of_ble_eq_true rfl) ?_
  intro p e s m below meth c ls S K E hr hlk P hS hl
  have hl : lv_has ls 5 [(0, .ref t), (1, .int (nI lo))] := hl
  have hug : ∀ (i : Nat) (h : i < L.length), ug (L.map (fun x : En => x.2.2.2.2)) i = L[i].2.2.2.2 := fun i h => by
    unfold ug
    rw [List.getElem?_map, List.getElem?_eq_getElem h]
    rfl
  have hL2 : ∀ i, i < L.length → ug (L.map (fun x : En => x.2.2.2.2)) i < 2 ^ 31 := fun i h => by rw [hug i h]; exact hu _ (List.getElem_mem h)
  refine lv_iconst (v := (-1)) S.1 S.2.1 d_So_usedFirstAfter_0 (by decide) ?_
  refine lv_istore_n S.1 S.2.1 d_So_usedFirstAfter_1 rfl hl (by decide) rfl (fun ls hl => ?_)
  refine lv_iconst (v := 0) S.1 S.2.1 d_So_usedFirstAfter_2 (by decide) ?_
  refine lv_istore_n S.1 S.2.1 d_So_usedFirstAfter_3 rfl hl (by decide) rfl (fun ls hl => ?_)
  generalize hgu : ug (L.map (fun x : En => x.2.2.2.2)) = gu at hug hL2 ⊢
  refine so_lpR (Wf := fun ls (_ : Nat) => W p l e _ s m _ below meth c _ _ _ _ _ (F0 m 4 ls [])) (fun n1 ls i => n1 = L.length - i ∧ i ≤ L.length ∧ lv_has ls 5 [(3, .int (nI i)), (2, .int (rI (mnI gu (lo + 1) i))), (0, .ref t), (1, .int (nI lo))]) ?_ _ ls 0 ⟨rfl, Nat.zero_le _, hl⟩
  clear hl hgu
  intro n1 ls i ⟨hn1, hi1, hl⟩ ih
  obtain ⟨md, ed, cap, f, Q0, hf⟩ := M.1
  have h1 := Q0.1
  rw [List.length_map] at h1
  have nx : ∀ (ls : Array Slot), i < L.length → lv_has ls 5 [(3, .int (nI i)), (2, .int (rI (mnI gu (lo + 1) (i + 1)))), (0, .ref t), (1, .int (nI lo))] → W p l e (so_rm 3 0 0) s m #[.ref t, .int (nI lo)] below meth c s.heap [] 0 0 (MQ below (so_R (fun v => v = some (.int (rI (mnI gu (lo + 1) L.length))))) #[.ref t, .int (nI lo)] s 0 0 (fun _ => False)) (F0 m 63 ls []) := by
    intro ls hlt hl
    refine lv_iinc (k := 0) S.1 S.2.1 d_So_usedFirstAfter_63 hl rfl rfl (by decide) rfl (fun ls hl => ?_)
    refine lv_goto (tgt := 4) S.1 S.2.1 d_So_usedFirstAfter_66 rfl ?_
    rw [nI_a] at hl
    exact ih (L.length - (i + 1)) ls (i + 1) (by omega) ⟨rfl, by omega, hl⟩
  refine lv_iload_n S.1 S.2.1 d_So_usedFirstAfter_4 rfl (lv_at hl 0 rfl) ?_
  refine lv_aload_n S.1 S.2.1 d_So_usedFirstAfter_5 rfl (lv_at hl 2 rfl) ?_
  refine gf_So_28_So S K P M0 rfl d_So_usedFirstAfter_6 ?_
  refine so_callR (cv_So_32_AL S hB K E P hS h1 (c_AL_size (te := 0) (cap := 0) (f := fun _ => none) l hB h1) rfl (by decide) (Nat.zero_le _) (Nat.zero_le _) hl.1 rfl (Nat.le_of_ble_eq_true rfl) d_So_usedFirstAfter_9) (fun v hv => ?_)
  subst hv
  refine lv_icmp_ge (tgt := 69) S.1 S.2.1 d_So_usedFirstAfter_12 rfl (fun h12 => ?_) (fun h12 => ?_)
  · have hi : i = L.length := by
      have : ¬ i < L.length := fun z => absurd h12 (nI_ge z (by omega))
      omega
    refine lv_iload_n S.1 S.2.1 d_So_usedFirstAfter_69 rfl (lv_at hl 1 rfl) ?_
    refine so_iretR S hr hlk ?_ d_So_usedFirstAfter_70
    rw [hi]
  · have hlt : i < L.length := Nat.not_le.mp fun z => h12 (nI_le z (by omega))
    obtain ⟨md, ed, cap, f, h1, k2, k3, k4, k5, k6⟩ := M.1.row (by rw [List.length_map]; omega)
    rw [List.length_map] at h1 k3
    have hff : ∀ (j : Nat) (h : j < L.length), f j = some L[j].1 := fun j h => k6 j _ (by rw [List.getElem?_map, List.getElem?_eq_getElem h]; rfl)
    have hen : ∀ (j : Nat) (h : j < L.length), enT σ 1 L[j] := fun j h => M.2 _ (List.getElem_mem h)
    refine lv_aload_n S.1 S.2.1 d_So_usedFirstAfter_15 rfl (lv_at hl 2 rfl) ?_
    refine gf_So_28_So S K P M0 rfl d_So_usedFirstAfter_16 ?_
    refine lv_iload_n S.1 S.2.1 d_So_usedFirstAfter_19 rfl (lv_at hl 0 rfl) ?_
    refine so_callR (cv_So_38_AL S hB K E P hS h1 (c_AL_get l hB h1 k2 (by omega) k3 i hlt) rfl (by decide) (Nat.zero_le _) (Nat.zero_le _) hl.1 rfl (Nat.le_of_ble_eq_true rfl) d_So_usedFirstAfter_20) (fun v hv => ?_)
    subst hv
    rw [hff i hlt]
    refine so_castE (a := L[i].1) S K P (hen i hlt).isE wd_825 d_So_usedFirstAfter_23 ?_
    refine gf_So_15_En S K P (hen i hlt).2 rfl d_So_usedFirstAfter_26 ?_
    rw [← hug i hlt]
    refine lv_istore S.1 S.2.1 d_So_usedFirstAfter_29 hl (by decide) rfl (fun ls hl => ?_)
    refine lv_iload S.1 S.2.1 d_So_usedFirstAfter_31 (lv_at hl 0 rfl) ?_
    refine lv_iload_n S.1 S.2.1 d_So_usedFirstAfter_33 rfl (lv_at hl 4 rfl) ?_
    refine lv_icmp_le (tgt := 63) S.1 S.2.1 d_So_usedFirstAfter_34 rfl (fun h34 => ?_) (fun h34 => ?_)
    · refine nx ls hlt ?_
      have e1 : mnI gu (lo + 1) (i + 1) = mnI gu (lo + 1) i := mn_lo (fun z => absurd h34 (nI_ge (show lo < gu i by omega) (hL2 i hlt)))
      rw [e1]
      exact lv_sub hl [1, 2, 3, 4] rfl
    · have hgt : lo + 1 ≤ gu i := Nat.not_lt.mp fun z => h34 (nI_le (show gu i ≤ lo by omega) hlo)
      refine lv_iload_n S.1 S.2.1 d_So_usedFirstAfter_37 rfl (lv_at hl 2 rfl) ?_
      refine lv_iconst (v := (-1)) S.1 S.2.1 d_So_usedFirstAfter_38 (by decide) ?_
      refine lv_icmp_eq (tgt := 61) S.1 S.2.1 d_So_usedFirstAfter_39 rfl (fun h39 => ?_) (fun h39 => ?_)
      · have hb : mnI gu (lo + 1) i = none := by
          cases h : mnI gu (lo + 1) i with
          | none => rfl
          | some b =>
            rw [h] at h39
            exact absurd (show nI b < 0 by rw [show nI b = -1 from h39]; decide) (nI_pos (by have := (mn_some h).1; omega))
        have e1 : mnI gu (lo + 1) (i + 1) = some i := by
          show (match mnI gu (lo + 1) i with | none => _ | some b => _) = _
          rw [hb]
          exact if_pos hgt
        refine lv_iload_n S.1 S.2.1 d_So_usedFirstAfter_61 rfl (lv_at hl 1 rfl) ?_
        refine lv_istore_n S.1 S.2.1 d_So_usedFirstAfter_62 rfl hl (by decide) rfl (fun ls hl => ?_)
        refine nx ls hlt ?_
        rw [e1]
        exact lv_sub hl [2, 0, 3, 4] rfl
      · obtain ⟨b, hb⟩ : ∃ b, mnI gu (lo + 1) i = some b := by
          cases h : mnI gu (lo + 1) i with
          | none => rw [h] at h39; exact absurd rfl h39
          | some b => exact ⟨b, rfl⟩
        have hbl := mn_some hb
        rw [hb] at hl
        have hl : lv_has ls 5 [(4, .int (nI (gu i))), (3, .int (nI i)), (2, .int (nI b)), (0, .ref t), (1, .int (nI lo))] := hl
        have hbL : b < L.length := by omega
        refine lv_iload S.1 S.2.1 d_So_usedFirstAfter_42 (lv_at hl 0 rfl) ?_
        refine lv_aload_n S.1 S.2.1 d_So_usedFirstAfter_44 rfl (lv_at hl 3 rfl) ?_
        refine gf_So_28_So S K P M0 rfl d_So_usedFirstAfter_45 ?_
        refine lv_iload_n S.1 S.2.1 d_So_usedFirstAfter_48 rfl (lv_at hl 2 rfl) ?_
        refine so_callR (cv_So_38_AL S hB K E P hS h1 (c_AL_get l hB h1 k2 (by omega) k3 b hbL) rfl (by decide) (Nat.zero_le _) (Nat.zero_le _) hl.1 rfl (Nat.le_of_ble_eq_true rfl) d_So_usedFirstAfter_49) (fun v hv => ?_)
        subst hv
        rw [hff b hbL]
        refine so_castE (a := L[b].1) S K P (hen b hbL).isE wd_825 d_So_usedFirstAfter_52 ?_
        refine gf_So_15_En S K P (hen b hbL).2 rfl d_So_usedFirstAfter_55 ?_
        rw [← hug b hbL]
        refine lv_icmp_ge (tgt := 63) S.1 S.2.1 d_So_usedFirstAfter_58 rfl (fun h58 => ?_) (fun h58 => ?_)
        · refine nx ls hlt ?_
          have e1 : mnI gu (lo + 1) (i + 1) = some b := by
            show (match mnI gu (lo + 1) i with | none => _ | some b => _) = _
            rw [hb]
            exact if_neg (fun z => absurd h58 (nI_ge z.2 (hL2 b (by omega))))
          rw [e1]
          exact lv_sub hl [1, 2, 3, 4] rfl
        · have e1 : mnI gu (lo + 1) (i + 1) = some i := by
            show (match mnI gu (lo + 1) i with | none => _ | some b => _) = _
            rw [hb]
            exact if_pos ⟨hgt, Nat.not_le.mp fun z => h58 (nI_le z (hL2 i hlt))⟩
          refine lv_iload_n S.1 S.2.1 d_So_usedFirstAfter_61 rfl (lv_at hl 1 rfl) ?_
          refine lv_istore_n S.1 S.2.1 d_So_usedFirstAfter_62 rfl hl (by decide) rfl (fun ls hl => ?_)
          refine nx ls hlt ?_
          rw [e1]
          exact lv_sub hl [2, 0, 3, 4] rfl
set_option maxHeartbeats 400000 in
set_option maxRecDepth 100000 in
theorem c_Ta_init (l : Launch) {s0 : State} {D : va_G} {ca : Nat → ClassId} (hB : so_B tbl s0 D vcl (tyl ca)) {σ : so_S} {t : Nat} : so_D l s0 D vcl y_Ta_init b_Ta_init 1 none 1 [.ref t] σ (fun v => v = none) := by
  refine so_ofR hB (by decide) (Nat.le_of_ble_eq_true rfl) ?_
  intro p e s m below meth c ls S K E hr hlk P hS hl
  have hl : lv_has ls 1 [(0, .ref t)] := hl
  refine lv_aload_n S.1 S.2.1 d_Ta_init_0 rfl (lv_at hl 0 rfl) ?_
  refine W.objInit S.1 S.2.1 S.2.2.2.1 (S.2.2.2.2 _ wd_71) (S.2.2.2.2 _ wd_34) (S.2.2.2.2 _ wd_35) rfl (hl.1.trans S.2.2.1.symm) rfl d_Ta_init_1 (Nat.le_of_ble_eq_true rfl) (Nat.le_of_ble_eq_true rfl) ?_
  exact so_vretR S hr hlk rfl d_Ta_init_4
set_option maxHeartbeats 400000 in
set_option maxRecDepth 100000 in
theorem c_Ro_init_We (l : Launch) {s0 : State} {D : va_G} {ca : Nat → ClassId} (hB : so_B tbl s0 D vcl (tyl ca)) {σ : so_S} {DE mi t : Nat} (J : jX s0 D ca DE mi) (M0 : σ t = some (10, .inr (4, [.int 0, .int 0, .int 0, .null, .null, .int 0]))) : so_C l s0 D vcl y_Ro_init b_Ro_init 1 none 4 1 3 [.ref t] σ (fun v σ1 => v = none ∧ ∃ q, σ q = none ∧ σ1 t = some (10, .inr (4, [.int 0, .int 0, .int 0, .ref q, .null, .int 0])) ∧ ALP ca DE σ1 q 20 30 [] ∧ fT (tR 0) σ σ1) := by
  refine so_of hB (by decide) (Nat.le_of_ble_eq_true rfl) ?_
  intro p e s m below meth c ls S K E hr hlk hnm P hS hl
  have hl : lv_has ls 1 [(0, .ref t)] := hl
  refine lv_aload_n S.1 S.2.1 d_Ro_init_0 rfl (lv_at hl 0 rfl) ?_
  refine so_callR (ci_Ro_1 S hB E P hS (c_Ta_init l hB) rfl (by decide) (Nat.zero_le _) (Nat.zero_le _) hl.1 rfl (Nat.le_of_ble_eq_true rfl) d_Ro_init_1) (fun v hv => ?_)
  subst hv
  refine lv_aload_n S.1 S.2.1 d_Ro_init_4 rfl (lv_at hl 0 rfl) ?_
  refine so_new (ci := 9) 20 S K P hS E.2.1 i_AL t_AL t_AL_ok (S.2.2.2.2 _ wd_72) (S.2.2.2.2 _ wd_73) (S.2.2.2.2 _ wd_8) rfl (fs := [.int 0, .null, .int 0]) (fun j hj => by rcases j with _ | _ | _ | j <;> first | rfl | omega) (by show _ ≤ _; decide) (by show _ ≤ _; decide) d_Ro_init_5 (fun q H hq P hS => ?_)
  have htq : t ≠ q := fun z => by rw [← z, M0] at hq; cases hq
  refine lv_dup S.1 S.2.1 d_Ro_init_8 rfl ?_
  refine so_call (ci_Ro_9 S hB E P hS (c_AL_init l hB J 30 so_us) rfl (by decide) (Nat.le_of_ble_eq_true rfl) (Nat.le_of_ble_eq_true rfl) hl.1 rfl (Nat.le_of_ble_eq_true rfl) d_Ro_init_9) hS (fun v σ1 H locs hv P hS => ?_)
  obtain ⟨rfl, k1, k2⟩ := hv
  have g0 : σ1 t = some (10, .inr (4, [.int 0, .int 0, .int 0, .null, .null, .int 0])) := by rw [k2 t htq, so_un htq]; exact M0
  refine pf_Ro_10_We S K P hS hnm g0 (Nat.le_of_ble_eq_true rfl) rfl rfl d_Ro_init_12 (fun H locs P hS => ?_)
  refine so_vret S hr hlk P hS (Nat.le_of_ble_eq_true rfl) (Nat.le_of_ble_eq_true rfl) ⟨rfl, q, hq, so_us, k1.fr (ag_up g0 (fun z => by rcases z with z | z <;> (simp only at z; omega))), fun r x hr hx => ?_⟩ d_Ro_init_15
  have hrt : r ≠ t := fun z => hx (by rw [z, M0] at hr; cases hr; exact Or.inl rfl)
  have hrq : r ≠ q := fun z => by rw [z, hq] at hr; cases hr
  rw [so_un hrt, k2 r hrq, so_un hrq]
  exact hr
set_option maxHeartbeats 400000 in
set_option maxRecDepth 100000 in
theorem c_Ro_init_So (l : Launch) {s0 : State} {D : va_G} {ca : Nat → ClassId} (hB : so_B tbl s0 D vcl (tyl ca)) {σ : so_S} {DE mi t : Nat} (J : jX s0 D ca DE mi) (M0 : σ t = some (11, .inr (5, [.int 0, .int 0, .int 0, .null, .int 0]))) : so_C l s0 D vcl y_Ro_init b_Ro_init 1 none 4 1 3 [.ref t] σ (fun v σ1 => v = none ∧ ∃ q, σ q = none ∧ σ1 t = some (11, .inr (5, [.int 0, .int 0, .int 0, .ref q, .int 0])) ∧ ALP ca DE σ1 q 21 31 [] ∧ fT (tR 1) σ σ1) := by
  refine so_of hB (by decide) (Nat.le_of_ble_eq_true rfl) ?_
  intro p e s m below meth c ls S K E hr hlk hnm P hS hl
  have hl : lv_has ls 1 [(0, .ref t)] := hl
  refine lv_aload_n S.1 S.2.1 d_Ro_init_0 rfl (lv_at hl 0 rfl) ?_
  refine so_callR (ci_Ro_1 S hB E P hS (c_Ta_init l hB) rfl (by decide) (Nat.zero_le _) (Nat.zero_le _) hl.1 rfl (Nat.le_of_ble_eq_true rfl) d_Ro_init_1) (fun v hv => ?_)
  subst hv
  refine lv_aload_n S.1 S.2.1 d_Ro_init_4 rfl (lv_at hl 0 rfl) ?_
  refine so_new (ci := 9) 21 S K P hS E.2.1 i_AL t_AL t_AL_ok (S.2.2.2.2 _ wd_72) (S.2.2.2.2 _ wd_73) (S.2.2.2.2 _ wd_8) rfl (fs := [.int 0, .null, .int 0]) (fun j hj => by rcases j with _ | _ | _ | j <;> first | rfl | omega) (by show _ ≤ _; decide) (by show _ ≤ _; decide) d_Ro_init_5 (fun q H hq P hS => ?_)
  have htq : t ≠ q := fun z => by rw [← z, M0] at hq; cases hq
  refine lv_dup S.1 S.2.1 d_Ro_init_8 rfl ?_
  refine so_call (ci_Ro_9 S hB E P hS (c_AL_init l hB J 31 so_us) rfl (by decide) (Nat.le_of_ble_eq_true rfl) (Nat.le_of_ble_eq_true rfl) hl.1 rfl (Nat.le_of_ble_eq_true rfl) d_Ro_init_9) hS (fun v σ1 H locs hv P hS => ?_)
  obtain ⟨rfl, k1, k2⟩ := hv
  have g0 : σ1 t = some (11, .inr (5, [.int 0, .int 0, .int 0, .null, .int 0])) := by rw [k2 t htq, so_un htq]; exact M0
  refine pf_Ro_10_So S K P hS hnm g0 (Nat.le_of_ble_eq_true rfl) rfl rfl d_Ro_init_12 (fun H locs P hS => ?_)
  refine so_vret S hr hlk P hS (Nat.le_of_ble_eq_true rfl) (Nat.le_of_ble_eq_true rfl) ⟨rfl, q, hq, so_us, k1.fr (ag_up g0 (fun z => by rcases z with z | z <;> (simp only at z; omega))), fun r x hr hx => ?_⟩ d_Ro_init_15
  have hrt : r ≠ t := fun z => hx (by rw [z, M0] at hr; cases hr; exact Or.inl rfl)
  have hrq : r ≠ q := fun z => by rw [z, hq] at hr; cases hr
  rw [so_un hrt, k2 r hrq, so_un hrq]
  exact hr
set_option maxHeartbeats 400000 in
set_option maxRecDepth 100000 in
theorem c_So_init (l : Launch) {s0 : State} {D : va_G} {ca : Nat → ClassId} (hB : so_B tbl s0 D vcl (tyl ca)) {σ : so_S} {DE mi t : Nat} (J : jX s0 D ca DE mi) (M0 : σ t = some (11, .inr (5, [.int 0, .int 0, .int 0, .null, .int 0]))) : so_C l s0 D vcl y_So_init b_So_init 1 none 5 1 3 [.ref t] σ (fun v σ1 => v = none ∧ ∃ q, σ q = none ∧ σ1 t = some (11, .inr (5, [.int 0, .int 0, .int 0, .ref q, .int 0])) ∧ ALP ca DE σ1 q 21 31 [] ∧ fT (tR 1) σ σ1) := by
  refine so_of hB (by decide) (Nat.le_of_ble_eq_true rfl) ?_
  intro p e s m below meth c ls S K E hr hlk hnm P hS hl
  have hl : lv_has ls 1 [(0, .ref t)] := hl
  refine lv_aload_n S.1 S.2.1 d_So_init_0 rfl (lv_at hl 0 rfl) ?_
  refine so_call (ci_So_3 S hB E P hS (c_Ro_init_So l hB J M0) rfl (by decide) (Nat.le_refl _) (Nat.le_refl _) hl.1 rfl (Nat.le_of_ble_eq_true rfl) d_So_init_1) hS (fun v σ1 H locs hv P hS => ?_)
  obtain ⟨rfl, hv⟩ := hv
  exact so_vret S hr hlk P hS (Nat.le_refl _) (Nat.le_refl _) ⟨rfl, hv⟩ d_So_init_4
set_option maxHeartbeats 400000 in
set_option maxRecDepth 100000 in
theorem c_Ro_init_Pl (l : Launch) {s0 : State} {D : va_G} {ca : Nat → ClassId} (hB : so_B tbl s0 D vcl (tyl ca)) {σ : so_S} {DE mi t : Nat} (J : jX s0 D ca DE mi) (M0 : σ t = some (13, .inr (7, [.int 0, .int 0, .int 0, .null]))) : so_C l s0 D vcl y_Ro_init b_Ro_init 1 none 4 1 3 [.ref t] σ (fun v σ1 => v = none ∧ ∃ q, σ q = none ∧ σ1 t = some (13, .inr (7, [.int 0, .int 0, .int 0, .ref q])) ∧ ALP ca DE σ1 q 23 33 [] ∧ fT (tR 3) σ σ1) := by
  refine so_of hB (by decide) (Nat.le_of_ble_eq_true rfl) ?_
  intro p e s m below meth c ls S K E hr hlk hnm P hS hl
  have hl : lv_has ls 1 [(0, .ref t)] := hl
  refine lv_aload_n S.1 S.2.1 d_Ro_init_0 rfl (lv_at hl 0 rfl) ?_
  refine so_callR (ci_Ro_1 S hB E P hS (c_Ta_init l hB) rfl (by decide) (Nat.zero_le _) (Nat.zero_le _) hl.1 rfl (Nat.le_of_ble_eq_true rfl) d_Ro_init_1) (fun v hv => ?_)
  subst hv
  refine lv_aload_n S.1 S.2.1 d_Ro_init_4 rfl (lv_at hl 0 rfl) ?_
  refine so_new (ci := 9) 23 S K P hS E.2.1 i_AL t_AL t_AL_ok (S.2.2.2.2 _ wd_72) (S.2.2.2.2 _ wd_73) (S.2.2.2.2 _ wd_8) rfl (fs := [.int 0, .null, .int 0]) (fun j hj => by rcases j with _ | _ | _ | j <;> first | rfl | omega) (by show _ ≤ _; decide) (by show _ ≤ _; decide) d_Ro_init_5 (fun q H hq P hS => ?_)
  have htq : t ≠ q := fun z => by rw [← z, M0] at hq; cases hq
  refine lv_dup S.1 S.2.1 d_Ro_init_8 rfl ?_
  refine so_call (ci_Ro_9 S hB E P hS (c_AL_init l hB J 33 so_us) rfl (by decide) (Nat.le_of_ble_eq_true rfl) (Nat.le_of_ble_eq_true rfl) hl.1 rfl (Nat.le_of_ble_eq_true rfl) d_Ro_init_9) hS (fun v σ1 H locs hv P hS => ?_)
  obtain ⟨rfl, k1, k2⟩ := hv
  have g0 : σ1 t = some (13, .inr (7, [.int 0, .int 0, .int 0, .null])) := by rw [k2 t htq, so_un htq]; exact M0
  refine pf_Ro_10_Pl S K P hS hnm g0 (Nat.le_of_ble_eq_true rfl) rfl rfl d_Ro_init_12 (fun H locs P hS => ?_)
  refine so_vret S hr hlk P hS (Nat.le_of_ble_eq_true rfl) (Nat.le_of_ble_eq_true rfl) ⟨rfl, q, hq, so_us, k1.fr (ag_up g0 (fun z => by rcases z with z | z <;> (simp only at z; omega))), fun r x hr hx => ?_⟩ d_Ro_init_15
  have hrt : r ≠ t := fun z => hx (by rw [z, M0] at hr; cases hr; exact Or.inl rfl)
  have hrq : r ≠ q := fun z => by rw [z, hq] at hr; cases hr
  rw [so_un hrt, k2 r hrq, so_un hrq]
  exact hr
set_option maxHeartbeats 400000 in
set_option maxRecDepth 100000 in
theorem c_Pl_init (l : Launch) {s0 : State} {D : va_G} {ca : Nat → ClassId} (hB : so_B tbl s0 D vcl (tyl ca)) {σ : so_S} {DE mi t : Nat} (J : jX s0 D ca DE mi) (M0 : σ t = some (13, .inr (7, [.int 0, .int 0, .int 0, .null]))) : so_C l s0 D vcl y_Pl_init b_Pl_init 1 none 5 1 3 [.ref t] σ (fun v σ1 => v = none ∧ ∃ q, σ q = none ∧ σ1 t = some (13, .inr (7, [.int 0, .int 0, .int 0, .ref q])) ∧ ALP ca DE σ1 q 23 33 [] ∧ fT (tR 3) σ σ1) := by
  refine so_of hB (by decide) (Nat.le_of_ble_eq_true rfl) ?_
  intro p e s m below meth c ls S K E hr hlk hnm P hS hl
  have hl : lv_has ls 1 [(0, .ref t)] := hl
  refine lv_aload_n S.1 S.2.1 d_Pl_init_0 rfl (lv_at hl 0 rfl) ?_
  refine so_call (ci_Pl_3 S hB E P hS (c_Ro_init_Pl l hB J M0) rfl (by decide) (Nat.le_refl _) (Nat.le_refl _) hl.1 rfl (Nat.le_of_ble_eq_true rfl) d_Pl_init_1) hS (fun v σ1 H locs hv P hS => ?_)
  obtain ⟨rfl, hv⟩ := hv
  exact so_vret S hr hlk P hS (Nat.le_refl _) (Nat.le_refl _) ⟨rfl, hv⟩ d_Pl_init_4
set_option maxHeartbeats 400000 in
set_option maxRecDepth 100000 in
theorem c_Ro_init_La (l : Launch) {s0 : State} {D : va_G} {ca : Nat → ClassId} (hB : so_B tbl s0 D vcl (tyl ca)) {σ : so_S} {DE mi t : Nat} (J : jX s0 D ca DE mi) (M0 : σ t = some (14, .inr (8, [.int 0, .int 0, .int 0, .null]))) : so_C l s0 D vcl y_Ro_init b_Ro_init 1 none 4 1 3 [.ref t] σ (fun v σ1 => v = none ∧ ∃ q, σ q = none ∧ σ1 t = some (14, .inr (8, [.int 0, .int 0, .int 0, .ref q])) ∧ ALP ca DE σ1 q 24 34 [] ∧ fT (tR 4) σ σ1) := by
  refine so_of hB (by decide) (Nat.le_of_ble_eq_true rfl) ?_
  intro p e s m below meth c ls S K E hr hlk hnm P hS hl
  have hl : lv_has ls 1 [(0, .ref t)] := hl
  refine lv_aload_n S.1 S.2.1 d_Ro_init_0 rfl (lv_at hl 0 rfl) ?_
  refine so_callR (ci_Ro_1 S hB E P hS (c_Ta_init l hB) rfl (by decide) (Nat.zero_le _) (Nat.zero_le _) hl.1 rfl (Nat.le_of_ble_eq_true rfl) d_Ro_init_1) (fun v hv => ?_)
  subst hv
  refine lv_aload_n S.1 S.2.1 d_Ro_init_4 rfl (lv_at hl 0 rfl) ?_
  refine so_new (ci := 9) 24 S K P hS E.2.1 i_AL t_AL t_AL_ok (S.2.2.2.2 _ wd_72) (S.2.2.2.2 _ wd_73) (S.2.2.2.2 _ wd_8) rfl (fs := [.int 0, .null, .int 0]) (fun j hj => by rcases j with _ | _ | _ | j <;> first | rfl | omega) (by show _ ≤ _; decide) (by show _ ≤ _; decide) d_Ro_init_5 (fun q H hq P hS => ?_)
  have htq : t ≠ q := fun z => by rw [← z, M0] at hq; cases hq
  refine lv_dup S.1 S.2.1 d_Ro_init_8 rfl ?_
  refine so_call (ci_Ro_9 S hB E P hS (c_AL_init l hB J 34 so_us) rfl (by decide) (Nat.le_of_ble_eq_true rfl) (Nat.le_of_ble_eq_true rfl) hl.1 rfl (Nat.le_of_ble_eq_true rfl) d_Ro_init_9) hS (fun v σ1 H locs hv P hS => ?_)
  obtain ⟨rfl, k1, k2⟩ := hv
  have g0 : σ1 t = some (14, .inr (8, [.int 0, .int 0, .int 0, .null])) := by rw [k2 t htq, so_un htq]; exact M0
  refine pf_Ro_10_La S K P hS hnm g0 (Nat.le_of_ble_eq_true rfl) rfl rfl d_Ro_init_12 (fun H locs P hS => ?_)
  refine so_vret S hr hlk P hS (Nat.le_of_ble_eq_true rfl) (Nat.le_of_ble_eq_true rfl) ⟨rfl, q, hq, so_us, k1.fr (ag_up g0 (fun z => by rcases z with z | z <;> (simp only at z; omega))), fun r x hr hx => ?_⟩ d_Ro_init_15
  have hrt : r ≠ t := fun z => hx (by rw [z, M0] at hr; cases hr; exact Or.inl rfl)
  have hrq : r ≠ q := fun z => by rw [z, hq] at hr; cases hr
  rw [so_un hrt, k2 r hrq, so_un hrq]
  exact hr
set_option maxHeartbeats 400000 in
set_option maxRecDepth 100000 in
theorem c_La_init (l : Launch) {s0 : State} {D : va_G} {ca : Nat → ClassId} (hB : so_B tbl s0 D vcl (tyl ca)) {σ : so_S} {DE mi t : Nat} (J : jX s0 D ca DE mi) (M0 : σ t = some (14, .inr (8, [.int 0, .int 0, .int 0, .null]))) : so_C l s0 D vcl y_La_init b_La_init 1 none 5 1 3 [.ref t] σ (fun v σ1 => v = none ∧ ∃ q, σ q = none ∧ σ1 t = some (14, .inr (8, [.int 0, .int 0, .int 0, .ref q])) ∧ ALP ca DE σ1 q 24 34 [] ∧ fT (tR 4) σ σ1) := by
  refine so_of hB (by decide) (Nat.le_of_ble_eq_true rfl) ?_
  intro p e s m below meth c ls S K E hr hlk hnm P hS hl
  have hl : lv_has ls 1 [(0, .ref t)] := hl
  refine lv_aload_n S.1 S.2.1 d_La_init_0 rfl (lv_at hl 0 rfl) ?_
  refine so_call (ci_La_3 S hB E P hS (c_Ro_init_La l hB J M0) rfl (by decide) (Nat.le_refl _) (Nat.le_refl _) hl.1 rfl (Nat.le_of_ble_eq_true rfl) d_La_init_1) hS (fun v σ1 H locs hv P hS => ?_)
  obtain ⟨rfl, hv⟩ := hv
  exact so_vret S hr hlk P hS (Nat.le_refl _) (Nat.le_refl _) ⟨rfl, hv⟩ d_La_init_4
set_option maxHeartbeats 400000 in
set_option maxRecDepth 100000 in
theorem c_We_init (l : Launch) {s0 : State} {D : va_G} {ca : Nat → ClassId} (hB : so_B tbl s0 D vcl (tyl ca)) {σ : so_S} {DE mi t : Nat} (J : jX s0 D ca DE mi) (M0 : σ t = some (10, .inr (4, [.int 0, .int 0, .int 0, .null, .null, .int 0]))) : so_C l s0 D vcl y_We_init b_We_init 1 none 5 2 6 [.ref t] σ (fun v σ1 => v = none ∧ ∃ q mv, σ1 t = some (10, oWe 0 0 0 q mv (nI 4)) ∧ ALP ca DE σ1 q 20 30 [] ∧ ALP ca DE σ1 mv 80 90 [] ∧ fT tW σ σ1) := by
  refine so_of hB (by decide) (Nat.le_of_ble_eq_true rfl) ?_
  intro p e s m below meth c ls S K E hr hlk hnm P hS hl
  have hl : lv_has ls 1 [(0, .ref t)] := hl
  refine lv_aload_n S.1 S.2.1 d_We_init_0 rfl (lv_at hl 0 rfl) ?_
  refine so_call (ci_We_3 S hB E P hS (c_Ro_init_We l hB J M0) rfl (by decide) (Nat.le_of_ble_eq_true rfl) (Nat.le_of_ble_eq_true rfl) hl.1 rfl (Nat.le_of_ble_eq_true rfl) d_We_init_1) hS (fun v σ1 H locs hv P hS => ?_)
  obtain ⟨rfl, q0, hq0, a0, a1, Fr1⟩ := hv
  refine lv_aload_n S.1 S.2.1 d_We_init_4 rfl (lv_at hl 0 rfl) ?_
  refine so_new (ci := 9) 80 S K P hS E.2.1 i_AL t_AL t_AL_ok (S.2.2.2.2 _ wd_98) (S.2.2.2.2 _ wd_73) (S.2.2.2.2 _ wd_8) rfl (fs := [.int 0, .null, .int 0]) (fun j hj => by rcases j with _ | _ | _ | j <;> first | rfl | omega) (by show _ ≤ _; decide) (by show _ ≤ _; decide) d_We_init_5 (fun q H hq P hS => ?_)
  have htq : t ≠ q := fun z => by rw [← z, a0] at hq; cases hq
  have a1 := a1.fr (ag_nw hq (y := (80, .inr (9, [.int 0, .null, .int 0]))))
  refine lv_dup S.1 S.2.1 d_We_init_8 rfl ?_
  refine so_call (ci_We_11 S hB E P hS (c_AL_init l hB J 90 so_us) rfl (by decide) (Nat.le_of_ble_eq_true rfl) (Nat.le_of_ble_eq_true rfl) hl.1 rfl (Nat.le_of_ble_eq_true rfl) d_We_init_9) hS (fun v σ2 H locs hv P hS => ?_)
  obtain ⟨rfl, k1, k2⟩ := hv
  have g0 : σ2 t = some (10, .inr (4, [.int 0, .int 0, .int 0, .ref q0, .null, .int 0])) := by rw [k2 t htq, so_un htq]; exact a0
  have ag2 : ∀ r, r ≠ q → σ2 r = σ1 r := fun r h => by rw [k2 r h, so_un h]
  have a1 : ALP ca DE σ2 q0 20 30 [] := a1.fr (fun r x hr hx => by
    rw [k2 r (fun z => by rw [z, so_us] at hr; cases hr; rcases hx with hx | hx <;> (simp only at hx; omega))]
    exact hr)
  refine pf_We_12_We S K P hS hnm g0 (Nat.le_of_ble_eq_true rfl) rfl rfl d_We_init_12 (fun H locs P hS => ?_)
  refine lv_aload_n S.1 S.2.1 d_We_init_15 rfl (lv_at hl 0 rfl) ?_
  refine lv_iconst (v := 4) S.1 S.2.1 d_We_init_16 (by decide) ?_
  refine pf_We_18_We S K P hS so_us (Nat.le_of_ble_eq_true rfl) rfl rfl d_We_init_17 (fun H locs P hS => ?_)
  have dj : ∀ {z : Nat × Nat}, ¬ tL z.1 z.2 10 → ∀ (σx : so_S) {x y : so_E}, σx t = some x → x.1 = 10 → agT (tL z.1 z.2) σx (so_up σx t y) := fun h σx x y h1 h2 => ag_up h1 (by rw [h2]; exact h)
  refine so_vret S hr hlk P hS (Nat.le_of_ble_eq_true rfl) (Nat.le_of_ble_eq_true rfl) ⟨rfl, q0, q, so_us, (a1.fr (dj (z := (20, 30)) (fun z => by rcases z with z | z <;> cases z) _ g0 rfl)).fr (dj (z := (20, 30)) (fun z => by rcases z with z | z <;> cases z) _ so_us rfl), (k1.fr (dj (z := (80, 90)) (fun z => by rcases z with z | z <;> cases z) _ g0 rfl)).fr (dj (z := (80, 90)) (fun z => by rcases z with z | z <;> cases z) _ so_us rfl), fun r x hr hx => ?_⟩ d_We_init_20
  have h3 : σ1 r = some x := Fr1 r x hr (fun z => hx (by rcases z with z | z | z; exact Or.inl z; exact Or.inr (Or.inl z); exact Or.inr (Or.inr (Or.inl z))))
  have hrt : r ≠ t := fun z => hx (by rw [z, a0] at h3; cases h3; exact Or.inl rfl)
  have hrq : r ≠ q := fun z => by rw [z, hq] at h3; cases h3
  rw [so_un hrt, so_un hrt, ag2 r hrq]
  exact h3
set_option maxHeartbeats 400000 in
set_option maxRecDepth 100000 in
theorem c_Id_init (l : Launch) {s0 : State} {D : va_G} {ca : Nat → ClassId} (hB : so_B tbl s0 D vcl (tyl ca)) {σ : so_S} {t : Nat} (M0 : σ t = some (12, .inr (6, [.int 0, .int 0, .int 0, .null, .int 0]))) : so_C l s0 D vcl y_Id_init b_Id_init 1 none 2 1 16 [.ref t] σ (fun v σ1 => v = none ∧ ∃ q, σ1 t = some (12, oId 0 0 0 q 0) ∧ IdR ca σ1 q (fun _ => none) ∧ fT (tR 2) σ σ1) := by
  refine so_of hB (by decide) (Nat.le_of_ble_eq_true rfl) ?_
  intro p e s m below meth c ls S K E hr hlk hnm P hS hl
  have hl : lv_has ls 1 [(0, .ref t)] := hl
  refine lv_aload_n S.1 S.2.1 d_Id_init_0 rfl (lv_at hl 0 rfl) ?_
  refine so_callR (ci_Id_3 S hB E P hS (c_Ta_init l hB) rfl (by decide) (Nat.zero_le _) (Nat.zero_le _) hl.1 rfl (Nat.le_of_ble_eq_true rfl) d_Id_init_1) (fun v hv => ?_)
  subst hv
  refine lv_aload_n S.1 S.2.1 d_Id_init_4 rfl (lv_at hl 0 rfl) ?_
  refine lv_bipush (v := 16) S.1 S.2.1 d_Id_init_5 (by decide) ?_
  refine so_newq 32 S K P hS E.2.1 (S.2.2.2.2 _ wd_159) (S.2.2.2.2 _ wd_160) 5 rfl (N' := 16) (by decide) (by decide) (by decide) (Nat.le_of_ble_eq_true rfl) (Nat.le_of_ble_eq_true rfl) d_Id_init_7 (fun q H hq P hS => ?_)
  have htq : t ≠ q := fun z => by rw [← z, M0] at hq; cases hq
  refine pf_Id_11_Id S K P hS hnm (show so_up σ q _ t = some (12, .inr (6, [.int 0, .int 0, .int 0, .null, .int 0])) by rw [so_un htq]; exact M0) (Nat.le_of_ble_eq_true rfl) rfl rfl d_Id_init_10 (fun H locs P hS => ?_)
  refine so_vret S hr hlk P hS (Nat.le_of_ble_eq_true rfl) (Nat.le_of_ble_eq_true rfl) ⟨rfl, q, so_us, ⟨by rw [so_un (Ne.symm htq), so_us]; rfl, fun i _ x hx => by cases hx⟩, fun r x hr hx => ?_⟩ d_Id_init_13
  have hrt : r ≠ t := fun z => hx (by rw [z, M0] at hr; cases hr; exact Or.inl rfl)
  have hrq : r ≠ q := fun z => by rw [z, hq] at hr; cases hr
  rw [so_un hrt, so_un hrq]
  exact hr

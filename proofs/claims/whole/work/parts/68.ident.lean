/-! IdentityMap. -/
def slP (sl : Nat → Option En) : Nat → Option (Nat × Nat) := fun i => (sl i).map (fun x => (x.2.1, x.2.2.2.1))
theorem slP_n {sl : Nat → Option En} {i : Nat} : slP sl i = none ↔ sl i = none := by
  unfold slP
  cases sl i <;> simp
theorem slP_up {sl : Nat → Option En} {i : Nat} {x : Option En} : slP (va_up sl i x) = va_up (slP sl) i (x.map (fun x => (x.2.1, x.2.2.2.1))) := by
  funext j
  unfold slP va_up
  split <;> rfl
theorem ad_up {sl : Nat → Option En} {i : Nat} {x : Option En} : (fun j => (va_up sl i x j).map (fun y : En => y.1)) = va_up (fun j => (sl j).map (fun y : En => y.1)) i (x.map (fun y : En => y.1)) := by
  funext j
  unfold va_up
  split <;> rfl
theorem cn_slP {sl : Nat → Option En} : ∀ n, cn (slP sl) n = cn sl n
  | 0 => rfl
  | n + 1 => by
    unfold cn
    rw [cn_slP n]
    unfold slP
    cases sl n <;> rfl
def fmI (x : Int32) : Int32 := if (x ^^^ 16) < 0 ∧ ¬ x - x / 16 * 16 = 0 then x - x / 16 * 16 + 16 else x - x / 16 * 16
theorem fm16 {a b : Nat} (ha : a < 16) (hb : b < 16) : fmI (nI a - nI b) = nI ((a + 16 - b) % 16) := (show ∀ a, a < 16 → ∀ b, b < 16 → fmI (nI a - nI b) = nI ((a + 16 - b) % 16) by decide +kernel) a ha b hb
def clE : Nat → (Nat → Option En) → Nat → Nat → Nat → Option En
  | 0, sl, _, _ => sl
  | n + 1, sl, free, s => match sl s with
    | none => sl
    | some e => if (7 * e.2.1 % 16 + 16 - free) % 16 = 0 ∨ (s + 16 - free) % 16 < (7 * e.2.1 % 16 + 16 - free) % 16 then clE n (va_up (va_up sl free (some e)) s none) s ((s + 1) % 16) else clE n sl free ((s + 1) % 16)
theorem clE_clo : ∀ (n : Nat) (sl : Nat → Option En) (free s : Nat), slP (clE n sl free s) = clo n (slP sl) free s
  | 0, _, _, _ => rfl
  | n + 1, sl, free, s => by
    cases hs : sl s with
    | none =>
      have e1 : clE (n + 1) sl free s = sl := by unfold clE; rw [hs]
      rw [e1, clo_none (slP_n.mpr hs)]
    | some e =>
      have e2 : slP sl s = some (e.2.1, e.2.2.2.1) := by unfold slP; rw [hs]; rfl
      unfold clE clo
      rw [hs, e2]
      show slP (if _ then _ else _) = if _ then _ else _
      split
      · rw [clE_clo n, slP_up, slP_up]
        rfl
      · rw [clE_clo n]
theorem clE_none {n : Nat} {sl : Nat → Option En} {free s : Nat} (h : sl s = none) : clE n sl free s = sl := by
  cases n with
  | zero => rfl
  | succ n => unfold clE; rw [h]
theorem clE_mv {n : Nat} {sl : Nat → Option En} {free s : Nat} {e : En} (h : sl s = some e) (hc : (7 * e.2.1 % 16 + 16 - free) % 16 = 0 ∨ (s + 16 - free) % 16 < (7 * e.2.1 % 16 + 16 - free) % 16) : clE (n + 1) sl free s = clE n (va_up (va_up sl free (some e)) s none) s ((s + 1) % 16) := by
  show (match sl s with | none => sl | some e => _) = _
  rw [h]
  exact if_pos hc
theorem clE_st {n : Nat} {sl : Nat → Option En} {free s : Nat} {e : En} (h : sl s = some e) (hc : ¬ ((7 * e.2.1 % 16 + 16 - free) % 16 = 0 ∨ (s + 16 - free) % 16 < (7 * e.2.1 % 16 + 16 - free) % 16)) : clE (n + 1) sl free s = clE n sl free ((s + 1) % 16) := by
  show (match sl s with | none => sl | some e => _) = _
  rw [h]
  exact if_neg hc
set_option maxHeartbeats 400000 in
set_option maxRecDepth 100000 in
theorem c_Ma_floorMod (l : Launch) {s0 : State} {D : va_G} {ca : Nat → ClassId} (hB : so_B tbl s0 D vcl (tyl ca)) {σ : so_S} (x : Int32) : so_D l s0 D vcl y_Ma_floorMod b_Ma_floorMod 3 (some .int) 0 [.int x, .int 16] σ (fun v => v = some (.int (fmI x))) := by
  refine so_ofRF hB (by decide +kernel) (Nat.le_of_ble_eq_true rfl) ?_
  intro p e s m below meth c ls S K E hr hlk P hS hl
  have hl : lv_has ls 3 [(0, .int x), (1, .int 16)] := hl
  refine lv_iload_n S.1 S.2.1 d_Ma_floorMod_0 rfl (lv_at hl 0 rfl) ?_
  refine lv_iload_n S.1 S.2.1 d_Ma_floorMod_1 rfl (lv_at hl 1 rfl) ?_
  refine lv_irem S.1 S.2.1 d_Ma_floorMod_2 (by decide) ?_
  refine lv_istore_n S.1 S.2.1 d_Ma_floorMod_3 rfl hl (by decide) rfl (fun ls hl => ?_)
  refine lv_iload_n S.1 S.2.1 d_Ma_floorMod_4 rfl (lv_at hl 1 rfl) ?_
  refine lv_iload_n S.1 S.2.1 d_Ma_floorMod_5 rfl (lv_at hl 2 rfl) ?_
  refine lv_ixor S.1 S.2.1 d_Ma_floorMod_6 ?_
  refine lv_if_ge (tgt := 18) S.1 S.2.1 d_Ma_floorMod_7 rfl (fun h7 => ?_) (fun h7 => ?_)
  · refine lv_iload_n S.1 S.2.1 d_Ma_floorMod_18 rfl (lv_at hl 0 rfl) ?_
    refine so_iretR S hr hlk ?_ d_Ma_floorMod_19
    unfold fmI
    first
      | rw [if_neg (fun z => absurd z.1 (Int32.not_lt.mpr h7))]
      | rw [if_neg (fun z => z.2 h11)]
  · refine lv_iload_n S.1 S.2.1 d_Ma_floorMod_10 rfl (lv_at hl 0 rfl) ?_
    refine lv_if_eq (tgt := 18) S.1 S.2.1 d_Ma_floorMod_11 rfl (fun h11 => ?_) (fun h11 => ?_)
    · refine lv_iload_n S.1 S.2.1 d_Ma_floorMod_18 rfl (lv_at hl 0 rfl) ?_
      refine so_iretR S hr hlk ?_ d_Ma_floorMod_19
      unfold fmI
      first
        | rw [if_neg (fun z => absurd z.1 (Int32.not_lt.mpr h7))]
        | rw [if_neg (fun z => z.2 h11)]
    · refine lv_iload_n S.1 S.2.1 d_Ma_floorMod_14 rfl (lv_at hl 0 rfl) ?_
      refine lv_iload_n S.1 S.2.1 d_Ma_floorMod_15 rfl (lv_at hl 2 rfl) ?_
      refine lv_iadd S.1 S.2.1 d_Ma_floorMod_16 ?_
      refine so_iretR S hr hlk ?_ d_Ma_floorMod_17
      unfold fmI
      rw [if_pos ⟨Int32.not_le.mp h7, h11⟩]
set_option maxHeartbeats 400000 in
set_option maxRecDepth 100000 in
theorem c_Id_firstSlot (l : Launch) {s0 : State} {D : va_G} {ca : Nat → ClassId} (hB : so_B tbl s0 D vcl (tyl ca)) {σ : so_S} {k : Nat} (en : En) (he : enT σ k en) (hk : en.2.1 < 32) : so_D l s0 D vcl y_Id_firstSlot b_Id_firstSlot 1 (some .int) 0 [.ref en.1] σ (fun v => v = some (.int (nI (7 * en.2.1 % 16)))) := by
  refine so_ofR hB (by decide) (Nat.le_of_ble_eq_true rfl) ?_
  intro p e s m below meth c ls S K E hr hlk P hS hl
  have hl : lv_has ls 1 [(0, .ref en.1)] := hl
  refine lv_bipush (v := 7) S.1 S.2.1 d_Id_firstSlot_0 (by decide) ?_
  refine lv_aload_n S.1 S.2.1 d_Id_firstSlot_2 rfl (lv_at hl 0 rfl) ?_
  refine gf_Id_37_En S K P he.2 rfl d_Id_firstSlot_3 ?_
  refine lv_imul S.1 S.2.1 d_Id_firstSlot_6 ?_
  rw [show (7 : Int32) * nI en.2.1 = nI (7 * en.2.1) from nI_mul 7 _]
  refine lv_bipush (v := 16) S.1 S.2.1 d_Id_firstSlot_7 (by decide) ?_
  refine lv_irem S.1 S.2.1 d_Id_firstSlot_9 (by decide) ?_
  rw [rem16 (by omega)]
  exact so_iretR S hr hlk rfl d_Id_firstSlot_10
set_option maxHeartbeats 400000 in
set_option maxRecDepth 100000 in
theorem c_Id_liesBehind (l : Launch) {s0 : State} {D : va_G} {ca : Nat → ClassId} (hB : so_B tbl s0 D vcl (tyl ca)) {σ : so_S} (a f u : Nat) (ha : a < 16) (hf : f < 16) (hu : u < 16) : so_D l s0 D vcl y_Id_liesBehind b_Id_liesBehind 4 (some .boolean) 1 [.int (nI a), .int (nI f), .int (nI u)] σ (fun v => v = some (.int (bI (decide (¬ ((a + 16 - f) % 16 = 0 ∨ (u + 16 - f) % 16 < (a + 16 - f) % 16)))))) := by
  refine so_ofR hB (by decide) (Nat.le_of_ble_eq_true rfl) ?_
  intro p e s m below meth c ls S K E hr hlk P hS hl
  have hl : lv_has ls 4 [(0, .int (nI a)), (1, .int (nI f)), (2, .int (nI u))] := hl
  refine lv_iload_n S.1 S.2.1 d_Id_liesBehind_0 rfl (lv_at hl 0 rfl) ?_
  refine lv_iload_n S.1 S.2.1 d_Id_liesBehind_1 rfl (lv_at hl 1 rfl) ?_
  refine lv_isub S.1 S.2.1 d_Id_liesBehind_2 ?_
  refine lv_bipush (v := 16) S.1 S.2.1 d_Id_liesBehind_3 (by decide) ?_
  refine so_callR (cs_Id_44 S hB E P hS (c_Ma_floorMod l hB (nI a - nI f)) rfl (by decide) (Nat.zero_le _) (Nat.zero_le _) hl.1 rfl (Nat.le_of_ble_eq_true rfl) d_Id_liesBehind_5) (fun v hv => ?_)
  subst hv
  rw [fm16 ha hf]
  refine lv_istore_n S.1 S.2.1 d_Id_liesBehind_8 rfl hl (by decide) rfl (fun ls hl => ?_)
  refine lv_iload_n S.1 S.2.1 d_Id_liesBehind_9 rfl (lv_at hl 0 rfl) ?_
  refine lv_if_le (tgt := 29) S.1 S.2.1 d_Id_liesBehind_10 rfl (fun h10 => ?_) (fun h10 => ?_)
  · refine lv_iconst (v := 0) S.1 S.2.1 d_Id_liesBehind_29 (by decide) ?_
    refine so_zretR S hr rfl hlk ?_ d_Id_liesBehind_30
    have hb : decide (¬ ((a + 16 - f) % 16 = 0 ∨ (u + 16 - f) % 16 < (a + 16 - f) % 16)) = false := decide_eq_false (fun z => z (Or.inl (Nat.le_zero.mp (Nat.not_lt.mp fun q => (nI_nle q (by omega)) h10))))
    rw [hb]
    rfl
  · refine lv_iload_n S.1 S.2.1 d_Id_liesBehind_13 rfl (lv_at hl 0 rfl) ?_
    refine lv_iload_n S.1 S.2.1 d_Id_liesBehind_14 rfl (lv_at hl 3 rfl) ?_
    refine lv_iload_n S.1 S.2.1 d_Id_liesBehind_15 rfl (lv_at hl 2 rfl) ?_
    refine lv_isub S.1 S.2.1 d_Id_liesBehind_16 ?_
    refine lv_bipush (v := 16) S.1 S.2.1 d_Id_liesBehind_17 (by decide) ?_
    refine so_callR (cs_Id_44 S hB E P hS (c_Ma_floorMod l hB (nI u - nI f)) rfl (by decide) (Nat.zero_le _) (Nat.zero_le _) hl.1 rfl (Nat.le_of_ble_eq_true rfl) d_Id_liesBehind_19) (fun v hv => ?_)
    subst hv
    rw [fm16 hu hf]
    refine lv_icmp_gt (tgt := 29) S.1 S.2.1 d_Id_liesBehind_22 rfl (fun h22 => ?_) (fun h22 => ?_)
    · refine lv_iconst (v := 0) S.1 S.2.1 d_Id_liesBehind_29 (by decide) ?_
      refine so_zretR S hr rfl hlk ?_ d_Id_liesBehind_30
      have hb : decide (¬ ((a + 16 - f) % 16 = 0 ∨ (u + 16 - f) % 16 < (a + 16 - f) % 16)) = false := decide_eq_false (fun z => z (Or.inr ((nI_ltI (by omega) (by omega)).mp h22)))
      rw [hb]
      rfl
    · refine lv_iconst (v := 1) S.1 S.2.1 d_Id_liesBehind_25 (by decide) ?_
      refine lv_goto (tgt := 30) S.1 S.2.1 d_Id_liesBehind_26 rfl ?_
      refine so_zretR S hr rfl hlk ?_ d_Id_liesBehind_30
      have hb : decide (¬ ((a + 16 - f) % 16 = 0 ∨ (u + 16 - f) % 16 < (a + 16 - f) % 16)) = true := decide_eq_true (fun z => Or.elim z (fun z => h10 (by rw [z]; decide)) (fun z => h22 (nI_lt z (by omega))))
      rw [hb]
      rfl
set_option maxHeartbeats 400000 in
set_option maxRecDepth 100000 in
theorem c_Id_add (l : Launch) {s0 : State} {D : va_G} {ca : Nat → ClassId} (hB : so_B tbl s0 D vcl (tyl ca)) {σ : so_S} {t sa : Nat} {hw br wk : Int32} {sl : Nat → Option En} (M0 : σ t = some (12, oId hw br wk sa (nI (cn sl 16)))) (M : IdR ca σ sa sl) (en : En) (he : enT σ 2 en) (hk : en.2.1 < 32) (hfree : ∃ d, d < 16 ∧ sl ((7 * en.2.1 % 16 + d) % 16) = none) : so_C l s0 D vcl y_Id_add b_Id_add 5 none 1 0 0 [.ref t, .ref en.1] σ (fun v σ1 => v = none ∧ (∃ u, u < 16 ∧ isPr (slP sl) (7 * en.2.1 % 16) u ∧ σ1 t = some (12, oId hw 1 wk sa (nI (cn (va_up sl u (some en)) 16))) ∧ IdR ca σ1 sa (va_up sl u (some en))) ∧ fT (tR 2) σ σ1) := by
  refine so_of hB (by decide) (Nat.le_of_ble_eq_true rfl) ?_
  intro p e s m below meth c ls S K E hr hlk hnm P hS hl
  have hl : lv_has ls 5 [(0, .ref t), (1, .ref en.1)] := hl
  refine lv_aload_n S.1 S.2.1 d_Id_add_0 rfl (lv_at hl 1 rfl) ?_
  refine so_callR (cs_Id_25 S hB E P hS (c_Id_firstSlot l hB en he hk) rfl (by decide) (Nat.zero_le _) (Nat.zero_le _) hl.1 rfl (Nat.le_of_ble_eq_true rfl) d_Id_add_1) (fun v hv => ?_)
  subst hv
  refine lv_istore_n S.1 S.2.1 d_Id_add_4 rfl hl (by decide) rfl (fun ls hl => ?_)
  refine lv_iconst (v := 0) S.1 S.2.1 d_Id_add_5 (by decide) ?_
  refine lv_istore_n S.1 S.2.1 d_Id_add_6 rfl hl (by decide) rfl (fun ls hl => ?_)
  have ha16 : 7 * en.2.1 % 16 < 16 := Nat.mod_lt _ (by decide)
  generalize 7 * en.2.1 % 16 = a at hl hfree ha16 ⊢
  refine so_lpR (Wf := fun ls (_ : Nat) => W p l e _ s m _ below meth c _ _ _ _ _ (F0 m 7 ls [])) (fun n1 ls i => n1 = 16 - i ∧ i ≤ 16 ∧ (∀ d, d < i → sl ((a + d) % 16) ≠ none) ∧ lv_has ls 5 [(3, .int (nI i)), (2, .int (nI a)), (0, .ref t), (1, .ref en.1)]) ?_ _ ls 0 ⟨rfl, Nat.zero_le _, fun d hd => absurd hd (Nat.not_lt_zero _), hl⟩
  clear hl
  intro n1 ls i ⟨hn1, hi1, hall, hl⟩ ih
  refine lv_iload_n S.1 S.2.1 d_Id_add_7 rfl (lv_at hl 0 rfl) ?_
  refine lv_bipush (v := 16) S.1 S.2.1 d_Id_add_8 (by decide) ?_
  refine lv_icmp_ge (tgt := 61) S.1 S.2.1 d_Id_add_10 rfl (fun h10 => ?_) (fun h10 => ?_)
  · obtain ⟨d, hd, hd2⟩ := hfree
    have hi : 16 ≤ i := Nat.not_lt.mp fun z => absurd h10 (nI_ge (b := 16) z (by omega))
    exact absurd hd2 (hall d (by omega))
  · have hlt : i < 16 := Nat.not_le.mp fun z => h10 (nI_le (a := 16) z (by omega))
    refine lv_iload_n S.1 S.2.1 d_Id_add_13 rfl (lv_at hl 1 rfl) ?_
    refine lv_iload_n S.1 S.2.1 d_Id_add_14 rfl (lv_at hl 0 rfl) ?_
    refine lv_iadd S.1 S.2.1 d_Id_add_15 ?_
    refine lv_bipush (v := 16) S.1 S.2.1 d_Id_add_16 (by decide) ?_
    rw [nI_add]
    refine lv_irem S.1 S.2.1 d_Id_add_18 (by decide) ?_
    rw [rem16 (by have := ha16; omega)]
    refine lv_istore S.1 S.2.1 d_Id_add_19 hl (by decide) rfl (fun ls hl => ?_)
    refine lv_aload_n S.1 S.2.1 d_Id_add_21 rfl (lv_at hl 3 rfl) ?_
    refine gf_Id_11_Id S K P M0 rfl d_Id_add_22 ?_
    refine lv_iload S.1 S.2.1 d_Id_add_25 (lv_at hl 0 rfl) ?_
    refine so_aaldN S K P M.1 5 rfl (show (a + i) % 16 < 16 by omega) (by decide) d_Id_add_27 ?_
    refine lv_ifnonnullQ (tgt := 55) S.1 S.2.1 d_Id_add_28 rfl (fun q h28 => ?_) (fun h28 => ?_)
    · refine lv_iinc (k := 1) S.1 S.2.1 d_Id_add_55 hl rfl rfl (by decide) rfl (fun ls hl => ?_)
      refine lv_goto (tgt := 7) S.1 S.2.1 d_Id_add_58 rfl ?_
      rw [nI_a] at hl
      refine ih (16 - (i + 1)) ls (i + 1) (by omega) ⟨rfl, by omega, fun d hd => ?_, lv_sub hl [0, 2, 3, 4] rfl⟩
      rcases Nat.lt_succ_iff_lt_or_eq.mp hd with h | h
      · exact hall d h
      · rw [h]
        intro z
        rw [z] at h28
        cases h28
    · have hsn : sl ((a + i) % 16) = none := by
        cases h : sl ((a + i) % 16) with
        | none => rfl
        | some z => rw [h] at h28; cases h28
      refine lv_aload_n S.1 S.2.1 d_Id_add_31 rfl (lv_at hl 3 rfl) ?_
      refine gf_Id_11_Id S K P M0 rfl d_Id_add_32 ?_
      refine lv_iload S.1 S.2.1 d_Id_add_35 (lv_at hl 0 rfl) ?_
      refine lv_aload_n S.1 S.2.1 d_Id_add_37 rfl (lv_at hl 4 rfl) ?_
      refine so_aastN S K P hS M.1 5 rfl (r := some en.1) (fun v h => by cases h; exact ⟨_, 3, _, _, he.2, rfl, va_Nw.of rfl (S.2.2.2.2 _ wd_1071)⟩) (show (a + i) % 16 < 16 by omega) (by decide) d_Id_add_38 (fun H locs P hS => ?_)
      rw [show va_up (fun j => (sl j).map (fun y : En => y.1)) ((a + i) % 16) (some en.1) = fun j => (va_up sl ((a + i) % 16) (some en) j).map (fun y : En => y.1) from (ad_up (x := some en)).symm] at P
      have hts := so_ne M0 M.1 (show 12 ≠ 32 by decide)
      have g0 : so_up σ sa (32, aR ca 5 16 (fun j => (va_up sl ((a + i) % 16) (some en) j).map (fun y : En => y.1))) t = some (12, oId hw br wk sa (nI (cn sl 16))) := by rw [so_un hts]; exact M0
      refine lv_aload_n S.1 S.2.1 d_Id_add_39 rfl (lv_at hl 3 rfl) ?_
      refine lv_dup S.1 S.2.1 d_Id_add_40 rfl ?_
      refine gf_Id_17_Id S K P g0 rfl d_Id_add_41 ?_
      refine lv_iconst (v := 1) S.1 S.2.1 d_Id_add_44 (by decide) ?_
      refine lv_iadd S.1 S.2.1 d_Id_add_45 ?_
      rw [nI_1, ← cn_up (x := en) (show (a + i) % 16 < 16 by omega) hsn]
      refine pf_Id_17_Id S K P hS g0 (Nat.le_of_ble_eq_true rfl) rfl rfl d_Id_add_46 (fun H locs P hS => ?_)
      refine lv_aload_n S.1 S.2.1 d_Id_add_49 rfl (lv_at hl 3 rfl) ?_
      refine lv_iconst (v := 1) S.1 S.2.1 d_Id_add_50 (by decide) ?_
      refine pf_Id_29_Id S K P hS so_us (Nat.le_of_ble_eq_true rfl) rfl rfl d_Id_add_51 (fun H locs P hS => ?_)
      have hsa := Ne.symm hts
      refine so_vret S hr hlk P hS (Nat.le_refl _) (Nat.le_refl _) ⟨rfl, ⟨(a + i) % 16, by omega, ⟨i, hlt, rfl, slP_n.mpr hsn, fun d hd => fun z => hall d hd (slP_n.mp z)⟩, so_us, ⟨by rw [so_un hsa, so_un hsa, so_us], fun j hj x hx => ?_⟩⟩, ((fT.rf.up M.1 (Or.inr (Or.inr rfl))).up g0 (Or.inl rfl)).up so_us (Or.inl rfl)⟩ d_Id_add_54
      have hx2 : enT σ 2 x := by
        unfold va_up at hx
        split at hx
        · cases hx; exact he
        · exact M.2 j hj x hx
      refine ⟨hx2.1, ?_⟩
      rw [so_un (so_ne hx2.2 M0 (show 1000 * (2 + 1) + x.2.2.1 ≠ 12 by omega)), so_un (so_ne hx2.2 M0 (show 1000 * (2 + 1) + x.2.2.1 ≠ 12 by omega)), so_un (so_ne hx2.2 M.1 (show 1000 * (2 + 1) + x.2.2.1 ≠ 32 by omega))]
      exact hx2.2
set_option maxHeartbeats 400000 in
set_option maxRecDepth 100000 in
theorem c_Id_closeUp (l : Launch) {s0 : State} {D : va_G} {ca : Nat → ClassId} (hB : so_B tbl s0 D vcl (tyl ca)) {σ : so_S} {t sa : Nat} {hw br wk n : Int32} {sl : Nat → Option En} (M0 : σ t = some (12, oId hw br wk sa n)) (M : IdR ca σ sa sl) (hk : ∀ i x, sl i = some x → x.2.1 < 32) (g : Nat) (hg : g < 16) (hgn : sl g = none) : so_C l s0 D vcl y_Id_closeUp b_Id_closeUp 6 none 2 0 0 [.ref t, .int (nI g)] σ (fun v σ1 => v = none ∧ σ1 t = some (12, oId hw br wk sa n) ∧ IdR ca σ1 sa (clE 15 sl g ((g + 1) % 16)) ∧ fT (tR 2) σ σ1) := by
  refine so_of hB (by decide) (Nat.le_of_ble_eq_true rfl) ?_
  intro p e s m below meth c ls S K E hr hlk hnm P hS hl
  have hl : lv_has ls 6 [(0, .ref t), (1, .int (nI g))] := hl
  refine lv_iload_n S.1 S.2.1 d_Id_closeUp_0 rfl (lv_at hl 1 rfl) ?_
  refine lv_istore_n S.1 S.2.1 d_Id_closeUp_1 rfl hl (by decide) rfl (fun ls hl => ?_)
  refine lv_iconst (v := 1) S.1 S.2.1 d_Id_closeUp_2 (by decide) ?_
  refine lv_istore_n S.1 S.2.1 d_Id_closeUp_3 rfl hl (by decide) rfl (fun ls hl => ?_)
  refine so_lp (Wf := fun ls H locs σ3 (_ : Nat × Nat × (Nat → Option En)) => W p l e _ s m _ below meth c H locs _ _ _ (F0 m 4 ls [])) (fun n1 ls H locs σ3 a => n1 = 16 - a.1 ∧ 1 ≤ a.1 ∧ a.1 ≤ 16 ∧ a.2.1 < 16 ∧ lv_has ls 6 [(3, .int (nI a.1)), (2, .int (nI a.2.1)), (0, .ref t), (1, .int (nI g))] ∧ so_P D vcl s0.heap.size σ3 H ∧ va_S (so_A s0.heap.size) s.heap H locs ∧ σ3 t = some (12, oId hw br wk sa n) ∧ IdR ca σ3 sa a.2.2 ∧ (∀ i x, a.2.2 i = some x → x.2.1 < 32) ∧ clE 15 sl g ((g + 1) % 16) = clE (16 - a.1) a.2.2 a.2.1 ((g + a.1) % 16) ∧ fT (tR 2) σ σ3) ?_ _ ls _ _ σ (1, g, sl) ⟨rfl, Nat.le_refl _, Nat.le_of_ble_eq_true rfl, hg, hl, P, hS, M0, M, hk, rfl, fT.rf⟩
  clear hl P hS M0 M hk hgn
  rintro n1 ls H locs σ3 ⟨i, fr, sl2⟩ ⟨hn1, hi0, hi1, hfr, hl, P, hS, M0, M, hk, hcl, Fr⟩ ih
  simp only at hn1 hi0 hi1 hfr hl M hk hcl ih
  refine lv_iload_n S.1 S.2.1 d_Id_closeUp_4 rfl (lv_at hl 0 rfl) ?_
  refine lv_bipush (v := 16) S.1 S.2.1 d_Id_closeUp_5 (by decide) ?_
  refine lv_icmp_ge (tgt := 72) S.1 S.2.1 d_Id_closeUp_7 rfl (fun h7 => ?_) (fun h7 => ?_)
  · have hi : i = 16 := by
      have : ¬ i < 16 := fun z => absurd h7 (nI_ge (b := 16) z (by omega))
      omega
    rw [hi] at hcl
    exact so_vret S hr hlk P hS (Nat.le_refl _) (Nat.le_refl _) ⟨rfl, M0, by rw [hcl]; exact M, Fr⟩ d_Id_closeUp_72
  · have hlt : i < 16 := Nat.not_le.mp fun z => h7 (nI_le (a := 16) z (by omega))
    have hn15 : 16 - i = (16 - (i + 1)) + 1 := by omega
    rw [hn15] at hcl
    refine lv_iload_n S.1 S.2.1 d_Id_closeUp_10 rfl (lv_at hl 3 rfl) ?_
    refine lv_iload_n S.1 S.2.1 d_Id_closeUp_11 rfl (lv_at hl 0 rfl) ?_
    refine lv_iadd S.1 S.2.1 d_Id_closeUp_12 ?_
    refine lv_bipush (v := 16) S.1 S.2.1 d_Id_closeUp_13 (by decide) ?_
    rw [nI_add]
    refine lv_irem S.1 S.2.1 d_Id_closeUp_15 (by decide) ?_
    rw [rem16 (by omega)]
    have hs16 : (g + i) % 16 < 16 := by omega
    have hs1 : ((g + i) % 16 + 1) % 16 = (g + (i + 1)) % 16 := by omega
    generalize (g + i) % 16 = u at hs16 hs1 hcl ⊢
    refine lv_istore S.1 S.2.1 d_Id_closeUp_16 hl (by decide) rfl (fun ls hl => ?_)
    refine lv_aload_n S.1 S.2.1 d_Id_closeUp_18 rfl (lv_at hl 3 rfl) ?_
    refine gf_Id_11_Id S K P M0 rfl d_Id_closeUp_19 ?_
    refine lv_iload S.1 S.2.1 d_Id_closeUp_22 (lv_at hl 0 rfl) ?_
    refine so_aaldN S K P M.1 5 rfl hs16 (by decide) d_Id_closeUp_24 ?_
    refine lv_astoreQ S.1 S.2.1 d_Id_closeUp_25 hl (by decide) rfl (fun ls hl => ?_)
    refine lv_aloadQ S.1 S.2.1 d_Id_closeUp_27 (lv_at hl 0 rfl) ?_
    refine lv_ifnonnullQ (tgt := 33) S.1 S.2.1 d_Id_closeUp_29 rfl (fun q h29 => ?_) (fun h29 => ?_)
    · obtain ⟨en, hs, hq⟩ : ∃ en, sl2 u = some en ∧ en.1 = q := by
        cases h : sl2 u with
        | none => rw [h] at h29; cases h29
        | some z => rw [h] at h29; cases h29; exact ⟨z, rfl, rfl⟩
      subst hq
      rw [hs] at hl
      have hl : lv_has ls 6 [(5, .ref en.1), (4, .int (nI u)), (3, .int (nI i)), (2, .int (nI fr)), (0, .ref t), (1, .int (nI g))] := hl
      have hen := M.2 u hs16 en hs
      have hkey := hk u en hs
      refine lv_aload S.1 S.2.1 d_Id_closeUp_33 (lv_at hl 0 rfl) ?_
      refine so_callR (cs_Id_25 S hB E P hS (c_Id_firstSlot l hB en hen hkey) rfl (by decide) (Nat.zero_le _) (Nat.zero_le _) hl.1 rfl (Nat.le_of_ble_eq_true rfl) d_Id_closeUp_35) (fun v hv => ?_)
      subst hv
      refine lv_iload_n S.1 S.2.1 d_Id_closeUp_38 rfl (lv_at hl 3 rfl) ?_
      refine lv_iload S.1 S.2.1 d_Id_closeUp_39 (lv_at hl 1 rfl) ?_
      refine so_callR (cs_Id_40 S hB E P hS (c_Id_liesBehind l hB (7 * en.2.1 % 16) fr u (by omega) hfr hs16) rfl (by decide) (Nat.zero_le _) (Nat.zero_le _) hl.1 rfl (Nat.le_of_ble_eq_true rfl) d_Id_closeUp_41) (fun v hv => ?_)
      subst hv
      refine lv_if_ne (tgt := 66) S.1 S.2.1 d_Id_closeUp_44 rfl (fun h44 => ?_) (fun h44 => ?_)
      · have hno : ¬ ((7 * en.2.1 % 16 + 16 - fr) % 16 = 0 ∨ (u + 16 - fr) % 16 < (7 * en.2.1 % 16 + 16 - fr) % 16) := by
          apply of_decide_eq_true
          cases hb : decide (¬ ((7 * en.2.1 % 16 + 16 - fr) % 16 = 0 ∨ (u + 16 - fr) % 16 < (7 * en.2.1 % 16 + 16 - fr) % 16)) with
          | true => rfl
          | false => rw [hb] at h44; exact absurd rfl h44
        rw [clE_st hs hno, hs1] at hcl
        refine lv_iinc (k := 2) S.1 S.2.1 d_Id_closeUp_66 hl rfl rfl (by decide) rfl (fun ls hl => ?_)
        refine lv_goto (tgt := 4) S.1 S.2.1 d_Id_closeUp_69 rfl ?_
        rw [nI_a] at hl
        exact ih (16 - (i + 1)) ls _ _ _ (i + 1, fr, sl2) (by omega) ⟨rfl, by show 1 ≤ i + 1; omega, by show i + 1 ≤ 16; omega, hfr, lv_sub hl [0, 3, 4, 5] rfl, P, hS, M0, M, hk, hcl, Fr⟩
      · have hyes : (7 * en.2.1 % 16 + 16 - fr) % 16 = 0 ∨ (u + 16 - fr) % 16 < (7 * en.2.1 % 16 + 16 - fr) % 16 := by
          apply Classical.byContradiction
          intro z
          rw [decide_eq_true z] at h44
          exact absurd h44 (by decide)
        rw [clE_mv hs hyes, hs1] at hcl
        refine lv_aload_n S.1 S.2.1 d_Id_closeUp_47 rfl (lv_at hl 4 rfl) ?_
        refine gf_Id_11_Id S K P M0 rfl d_Id_closeUp_48 ?_
        refine lv_iload_n S.1 S.2.1 d_Id_closeUp_51 rfl (lv_at hl 3 rfl) ?_
        refine lv_aload S.1 S.2.1 d_Id_closeUp_52 (lv_at hl 0 rfl) ?_
        refine so_aastN S K P hS M.1 5 rfl (r := some en.1) (fun v h => by cases h; exact ⟨_, 3, _, _, hen.2, rfl, va_Nw.of rfl (S.2.2.2.2 _ wd_1071)⟩) hfr (by decide) d_Id_closeUp_54 (fun H locs P hS => ?_)
        rw [show va_up (fun j => (sl2 j).map (fun y : En => y.1)) fr (some en.1) = fun j => (va_up sl2 fr (some en) j).map (fun y : En => y.1) from (ad_up (x := some en)).symm] at P
        have hts := so_ne M0 M.1 (show 12 ≠ 32 by decide)
        have g0 : so_up σ3 sa (32, aR ca 5 16 (fun j => (va_up sl2 fr (some en) j).map (fun y : En => y.1))) t = some (12, oId hw br wk sa n) := by rw [so_un hts]; exact M0
        refine lv_aload_n S.1 S.2.1 d_Id_closeUp_55 rfl (lv_at hl 4 rfl) ?_
        refine gf_Id_11_Id S K P g0 rfl d_Id_closeUp_56 ?_
        refine lv_iload S.1 S.2.1 d_Id_closeUp_59 (lv_at hl 1 rfl) ?_
        refine lv_null S.1 S.2.1 d_Id_closeUp_61 ?_
        refine so_aastN S K P hS so_us 5 rfl (r := none) (fun v h => by cases h) hs16 (by decide) d_Id_closeUp_62 (fun H locs P hS => ?_)
        rw [show va_up (fun j => (va_up sl2 fr (some en) j).map (fun y : En => y.1)) u none = fun j => (va_up (va_up sl2 fr (some en)) u none j).map (fun y : En => y.1) from (ad_up (x := none)).symm] at P
        have hl : lv_has ls 6 [(5, .ref en.1), (4, .int (nI u)), (3, .int (nI i)), (2, .int (nI fr)), (0, .ref t), (1, .int (nI g))] := hl
        refine lv_iload S.1 S.2.1 d_Id_closeUp_63 (lv_at hl 1 rfl) ?_
        refine lv_istore_n S.1 S.2.1 d_Id_closeUp_65 rfl hl (by decide) rfl (fun ls hl => ?_)
        refine lv_iinc (k := 3) S.1 S.2.1 d_Id_closeUp_66 hl rfl rfl (by decide) rfl (fun ls hl => ?_)
        refine lv_goto (tgt := 4) S.1 S.2.1 d_Id_closeUp_69 rfl ?_
        rw [nI_a] at hl
        have hsub : ∀ j x, va_up (va_up sl2 fr (some en)) u none j = some x → x = en ∨ sl2 j = some x := by
          intro j x hx
          unfold va_up at hx
          split at hx
          · cases hx
          · split at hx
            · cases hx; exact Or.inl rfl
            · exact Or.inr hx
        refine ih (16 - (i + 1)) ls _ _ _ (i + 1, u, va_up (va_up sl2 fr (some en)) u none) (by omega) ⟨rfl, by show 1 ≤ i + 1; omega, by show i + 1 ≤ 16; omega, hs16, lv_sub hl [0, 1, 4, 5] rfl, P, hS, by rw [so_un hts]; exact g0, ⟨so_us, fun j hj x hx => ?_⟩, fun j x hx => ?_, hcl, (Fr.up M.1 (Or.inr (Or.inr rfl))).up so_us (Or.inr (Or.inr rfl))⟩
        · have hx2 : enT σ3 2 x := by
            rcases hsub j x hx with h | h
            · rw [h]; exact hen
            · exact M.2 j hj x h
          refine ⟨hx2.1, ?_⟩
          rw [so_un (so_ne hx2.2 M.1 (show 1000 * (2 + 1) + x.2.2.1 ≠ 32 by omega)), so_un (so_ne hx2.2 M.1 (show 1000 * (2 + 1) + x.2.2.1 ≠ 32 by omega))]
          exact hx2.2
        · rcases hsub j x hx with h | h
          · rw [h]; exact hkey
          · exact hk j x h
    · have hsn : sl2 u = none := by
        cases h : sl2 u with
        | none => rfl
        | some z => rw [h] at h29; cases h29
      exact so_vret S hr hlk P hS (Nat.le_refl _) (Nat.le_refl _) ⟨rfl, M0, by rw [hcl, clE_none hsn]; exact M, Fr⟩ d_Id_closeUp_32
set_option maxHeartbeats 400000 in
set_option maxRecDepth 100000 in
theorem c_Id_dropAt (l : Launch) {s0 : State} {D : va_G} {ca : Nat → ClassId} (hB : so_B tbl s0 D vcl (tyl ca)) {σ : so_S} {t sa : Nat} {hw br wk : Int32} {sl : Nat → Option En} (M0 : σ t = some (12, oId hw br wk sa (nI (cn sl 16)))) (M : IdR ca σ sa sl) (hk : ∀ i x, sl i = some x → x.2.1 < 32) (u : Nat) (hu : u < 16) (en : En) (hs : sl u = some en) : so_C l s0 D vcl y_Id_dropAt b_Id_dropAt 3 none 3 0 0 [.ref t, .int (nI (cn sl u))] σ (fun v σ1 => v = none ∧ σ1 t = some (12, oId hw 1 wk sa (nI (cn sl 16 - 1))) ∧ IdR ca σ1 sa (clE 15 (va_up sl u none) u ((u + 1) % 16)) ∧ fT (tR 2) σ σ1) := by
  refine so_of hB (by decide) (Nat.le_of_ble_eq_true rfl) ?_
  intro p e s m below meth c ls S K E hr hlk hnm P hS hl
  have hl : lv_has ls 3 [(0, .ref t), (1, .int (nI (cn sl u)))] := hl
  have hc16 := cn_le sl 16
  have hdn := cn_dn (f := sl) hu hs
  refine lv_aload_n S.1 S.2.1 d_Id_dropAt_0 rfl (lv_at hl 0 rfl) ?_
  refine lv_iload_n S.1 S.2.1 d_Id_dropAt_1 rfl (lv_at hl 1 rfl) ?_
  refine so_callR (cv_Id_21_Id S hB K E P hS M0 (c_Id_slotOf l hB M0 M (nI (cn sl u))) rfl (by decide) (Nat.zero_le _) (Nat.zero_le _) hl.1 rfl (Nat.le_of_ble_eq_true rfl) d_Id_dropAt_2) (fun v hv => ?_)
  have hvu : v = some (.int (nI u)) := by
    rcases hv with ⟨i, x, hi, hx, he, h⟩ | ⟨hno, _⟩
    · have hci := cn_le sl i
      have hcu := cn_le sl u
      have e1 : cn sl i = cn sl u := (nI_eq (by omega) (by omega)).mp he
      have h1 := idN_at hx hi
      have h2 := idN_at hs hu
      have e2 : i = u := by
        rcases Nat.lt_trichotomy i u with h3 | h3 | h3
        · have := cn_mono (f := sl) (show i + 1 ≤ u by omega)
          have e3 : cn sl (i + 1) = cn sl i + 1 := by show cn sl i + _ = _; rw [hx]; rfl
          omega
        · exact h3
        · have := cn_mono (f := sl) (show u + 1 ≤ i by omega)
          have e3 : cn sl (u + 1) = cn sl u + 1 := by show cn sl u + _ = _; rw [hs]; rfl
          omega
      rw [h, e2]
    · exact absurd rfl (hno u en hu hs)
  subst hvu
  refine lv_istore_n S.1 S.2.1 d_Id_dropAt_5 rfl hl (by decide) rfl (fun ls hl => ?_)
  refine lv_iload_n S.1 S.2.1 d_Id_dropAt_6 rfl (lv_at hl 0 rfl) ?_
  refine lv_iconst (v := (-1)) S.1 S.2.1 d_Id_dropAt_7 (by decide) ?_
  refine lv_icmp_eq (tgt := 38) S.1 S.2.1 d_Id_dropAt_8 rfl (fun h8 => absurd (show nI u < 0 by rw [h8]; decide) (nI_pos (by omega))) (fun h8 => ?_)
  refine lv_aload_n S.1 S.2.1 d_Id_dropAt_11 rfl (lv_at hl 1 rfl) ?_
  refine gf_Id_11_Id S K P M0 rfl d_Id_dropAt_12 ?_
  refine lv_iload_n S.1 S.2.1 d_Id_dropAt_15 rfl (lv_at hl 0 rfl) ?_
  refine lv_null S.1 S.2.1 d_Id_dropAt_16 ?_
  refine so_aastN S K P hS M.1 5 rfl (r := none) (fun v h => by cases h) hu (by decide) d_Id_dropAt_17 (fun H locs P hS => ?_)
  rw [show va_up (fun j => (sl j).map (fun y : En => y.1)) u none = fun j => (va_up sl u none j).map (fun y : En => y.1) from (ad_up (x := none)).symm] at P
  have hts := so_ne M0 M.1 (show 12 ≠ 32 by decide)
  have g0 : so_up σ sa (32, aR ca 5 16 (fun j => (va_up sl u none j).map (fun y : En => y.1))) t = some (12, oId hw br wk sa (nI (cn sl 16))) := by rw [so_un hts]; exact M0
  refine lv_aload_n S.1 S.2.1 d_Id_dropAt_18 rfl (lv_at hl 1 rfl) ?_
  refine lv_dup S.1 S.2.1 d_Id_dropAt_19 rfl ?_
  refine gf_Id_17_Id S K P g0 rfl d_Id_dropAt_20 ?_
  refine lv_iconst (v := 1) S.1 S.2.1 d_Id_dropAt_23 (by decide) ?_
  refine lv_isub S.1 S.2.1 d_Id_dropAt_24 ?_
  rw [nI_p (show 1 ≤ cn sl 16 by omega)]
  refine pf_Id_17_Id S K P hS g0 (Nat.le_of_ble_eq_true rfl) rfl rfl d_Id_dropAt_25 (fun H locs P hS => ?_)
  refine lv_aload_n S.1 S.2.1 d_Id_dropAt_28 rfl (lv_at hl 1 rfl) ?_
  refine lv_iconst (v := 1) S.1 S.2.1 d_Id_dropAt_29 (by decide) ?_
  refine pf_Id_29_Id S K P hS so_us (Nat.le_of_ble_eq_true rfl) rfl rfl d_Id_dropAt_30 (fun H locs P hS => ?_)
  obtain ⟨σ2, hσ2⟩ : ∃ q, q = so_up (so_up (so_up σ sa (32, aR ca 5 16 (fun j => (va_up sl u none j).map (fun y : En => y.1)))) t (12, oId hw br wk sa (nI (cn sl 16 - 1)))) t (12, oId hw 1 wk sa (nI (cn sl 16 - 1))) := ⟨_, rfl⟩
  have P : so_P D vcl s0.heap.size σ2 H := by rw [hσ2]; exact P
  have q0 : σ2 t = some (12, oId hw 1 wk sa (nI (cn sl 16 - 1))) := by rw [hσ2]; exact so_us
  have q1 : IdR ca σ2 sa (va_up sl u none) := by
    rw [hσ2]
    refine ⟨by rw [so_un (Ne.symm hts), so_un (Ne.symm hts), so_us], fun j hj x hx => ?_⟩
    have hx2 : enT σ 2 x := by
      unfold va_up at hx
      split at hx
      · cases hx
      · exact M.2 j hj x hx
    refine ⟨hx2.1, ?_⟩
    rw [so_un (so_ne hx2.2 M0 (show 1000 * (2 + 1) + x.2.2.1 ≠ 12 by omega)), so_un (so_ne hx2.2 M0 (show 1000 * (2 + 1) + x.2.2.1 ≠ 12 by omega)), so_un (so_ne hx2.2 M.1 (show 1000 * (2 + 1) + x.2.2.1 ≠ 32 by omega))]
    exact hx2.2
  have Fr2 : fT (tR 2) σ σ2 := by rw [hσ2]; exact ((fT.rf.up M.1 (Or.inr (Or.inr rfl))).up g0 (Or.inl rfl)).up so_us (Or.inl rfl)
  refine lv_aload_n S.1 S.2.1 d_Id_dropAt_33 rfl (lv_at hl 1 rfl) ?_
  refine lv_iload_n S.1 S.2.1 d_Id_dropAt_34 rfl (lv_at hl 0 rfl) ?_
  refine so_call (cv_Id_33_Id S hB K E P hS q0 (c_Id_closeUp l hB q0 q1 (fun i x hx => hk i x (by unfold va_up at hx; split at hx; cases hx; exact hx)) u hu (va_up_self _ _ _)) rfl (by decide) (Nat.le_refl _) (Nat.le_refl _) hl.1 rfl (Nat.le_of_ble_eq_true rfl) d_Id_dropAt_35) hS (fun v σ3 H locs hv P hS => ?_)
  obtain ⟨rfl, r0, r1, r2⟩ := hv
  exact so_vret S hr hlk P hS (Nat.le_refl _) (Nat.le_refl _) ⟨rfl, r0, r1, Fr2.tr r2⟩ d_Id_dropAt_38

/-! The reference's constructor. -/
abbrev oMi (z : Nat → Int32) (v : Nat → Option Nat) : va_E := .inr (10, [.int (z 0), va_rf (v 1), va_rf (v 2), va_rf (v 3), va_rf (v 4), va_rf (v 5), va_rf (v 6), .int (z 7), va_rf (v 8), va_rf (v 9), va_rf (v 10), va_rf (v 11), .int (z 12), va_rf (v 13), .int (z 14), va_rf (v 15), va_rf (v 16), va_rf (v 17)])
def MiR (ca : Nat → ClassId) (σ : so_S) (mo : Nat) (d : Nat → Option Nat) (z : Nat → Int32) : Prop :=
  σ mo = some (50, oMi z d) ∧ (∀ j a, mo_i j = true → d j = some a → σ a = some (50 + j, aI ca (mo_len j) (fun _ => 0))) ∧ ∀ j a, mo_b j = true → d j = some a → σ a = some (50 + j, aZ ca (mo_len j) (fun _ => bI false))
theorem fM.nw {σ σ1 : so_S} (h : fM σ σ1) {a : Nat} {y : so_E} (ha : σ1 a = none) : fM σ (so_up σ1 a y) := by
  intro q w hq hw
  have h2 := h q w hq hw
  rw [so_un (fun e => by rw [e, ha] at h2; cases h2)]
  exact h2
section MI
variable {ca : Nat → ClassId} {σ : so_S} {mo q : Nat} {d : Nat → Option Nat} {z : Nat → Int32}
theorem MiR.st {j : Nat} (M : MiR ca σ mo d z) (hj : mo_i j = true ∨ mo_b j = true) (hq : σ q = none) {x : va_E} (hx1 : mo_i j = true → x = aI ca (mo_len j) (fun _ => 0)) (hx2 : mo_b j = true → x = aZ ca (mo_len j) (fun _ => bI false)) :
    MiR ca (so_up (so_up σ q (50 + j, x)) mo (50, oMi z (va_up d j (some q)))) mo (va_up d j (some q)) z := by
  have hqm : q ≠ mo := fun e => by rw [e, M.1] at hq; cases hq
  have nq : ∀ {a : Nat} {y : so_E}, σ a = some y → a ≠ q := fun h e => by rw [e, hq] at h; cases h
  refine ⟨so_us, fun k a hk hd => ?_, fun k a hk hd => ?_⟩
  · by_cases e : k = j
    · subst e
      rw [va_up_self] at hd
      cases hd
      rw [so_un hqm, so_us, hx1 hk]
    · rw [va_up_ne _ _ e] at hd
      have h := M.2.1 k a hk hd
      have hr := mo_i_r hk
      rw [so_un (so_ne h M.1 (by show 50 + k ≠ 50; omega)), so_un (nq h)]
      exact h
  · by_cases e : k = j
    · subst e
      rw [va_up_self] at hd
      cases hd
      rw [so_un hqm, so_us, hx2 hk]
    · rw [va_up_ne _ _ e] at hd
      have h := M.2.2 k a hk hd
      have hr := mo_b_r hk
      rw [so_un (so_ne h M.1 (by show 50 + k ≠ 50; omega)), so_un (nq h)]
      exact h
theorem MiR.st_z (M : MiR ca σ mo d z) (z1 : Nat → Int32) : MiR ca (so_up σ mo (50, oMi z1 d)) mo d z1 := by
  refine ⟨so_us, fun k a hk hd => ?_, fun k a hk hd => ?_⟩
  · have h := M.2.1 k a hk hd
    have hr := mo_i_r hk
    rw [so_un (so_ne h M.1 (by show 50 + k ≠ 50; omega))]
    exact h
  · have h := M.2.2 k a hk hd
    have hr := mo_b_r hk
    rw [so_un (so_ne h M.1 (by show 50 + k ≠ 50; omega))]
    exact h
end MI
def o_0 : Obs := (fun _ => false, fun _ => 0, fun _ => false, fun _ _ => none)
def q_0 : Mps := ([], ([], []), fun _ => none, fun _ => none, [])
def k_0 : Wks := (fun _ => false, fun _ => false, fun _ => 0)
theorem cn_0 {α : Type} : ∀ n : Nat, cn (fun _ => (none : Option α)) n = 0
  | 0 => rfl
  | n + 1 => by unfold cn; rw [cn_0 n]; rfl
theorem rf_0 {R : Rf} (h4 : ∀ i, R.2.2 4 i = false) (h8 : ∀ i, i < 160 → R.2.1 8 i = -1) (h11 : ∀ i, R.2.1 11 i = 0) (h17 : ∀ i, R.2.1 17 i = 0) (h15 : ∀ i, R.2.2 15 i = false) (h16 : ∀ i, R.2.2 16 i = false) (z12 : R.1 12 = 4) (z14 : R.1 14 = 0) (z7 : R.1 7 = 0) : refR R o_0 q_0 (4, 0, 0) k_0 := by
  have row : ∀ k, rowR R k [] := fun k => ⟨(h11 k).trans rfl, Nat.zero_le _, fun j e h => by cases h⟩
  refine ⟨fun i hi => ⟨h4 i, fun h => by cases h⟩, ⟨row 0, ⟨row 1, fun j x h => (by cases h), rfl⟩, ⟨fun s hs => ?_, ?_⟩, ⟨fun v hv => ?_, ?_⟩, row 4⟩, ⟨z12, z14, z7⟩, fun i hi => ⟨h15 i, h16 i, h17 i⟩⟩
  · show R.2.1 8 (64 + s) < 0
    rw [h8 _ (by omega)]; decide
  · rw [show cn q_0.2.2.1 16 = 0 from cn_0 16]; exact h11 2
  · show R.2.1 8 (96 + v) < 0
    rw [h8 _ (by omega)]; decide
  · rw [show cn q_0.2.2.2.1 8 = 0 from cn_0 8]; exact h11 3
set_option maxHeartbeats 400000 in
theorem c_Mo_init (l : Launch) {s0 : State} {D : va_G} {ca : Nat → ClassId} (hB : so_B tbl s0 D vcl (tyl ca)) {σ : so_S} {mo : Nat} (M0 : σ mo = some (50, oMi (fun _ => 0) (fun _ => none))) : so_C l s0 D vcl y_Mo_init b_Mo_init 2 none 1 15 800 [.ref mo] σ (fun v σ1 => v = none ∧ ∃ ar R1, MoR ca σ1 mo ar R1 ∧ fM σ σ1 ∧ R1.1 0 = 0 ∧ refR R1 o_0 q_0 (4, 0, 0) k_0) := by
  refine so_of hB (by decide) (Nat.le_of_ble_eq_true rfl) ?_
  intro p e s m below meth c ls S K E hr hlk hnm P hS hl
  have F : fM σ σ := fM.rf
  obtain ⟨σ0, hσ0⟩ : ∃ q, q = σ := ⟨σ, rfl⟩
  rw [← hσ0]
  replace F : fM σ0 σ := by rw [hσ0]; exact fM.rf
  have M : MiR ca σ mo (fun _ => none) (fun _ => 0) := ⟨M0, fun j a _ h => (by cases h), fun j a _ h => (by cases h)⟩
  refine lv_aload_n S.1 S.2.1 d_Mo_init_0 rfl (lv_at hl 0 rfl) ?_
  refine W.objInit S.1 S.2.1 S.2.2.2.1 (S.2.2.2.2 _ wd_857) (S.2.2.2.2 _ wd_34) (S.2.2.2.2 _ wd_35) rfl (hl.1.trans S.2.2.1.symm) rfl d_Mo_init_1 (Nat.le_of_ble_eq_true rfl) (Nat.le_of_ble_eq_true rfl) ?_
  refine lv_aload_n S.1 S.2.1 d_Mo_init_4 rfl (lv_at hl 0 rfl) ?_
  refine lv_bipush (v := 32) S.1 S.2.1 d_Mo_init_5 (by decide) ?_
  refine so_newa (atype := .int) 51 S K P hS E.2.1 (S.2.2.2.2 _ wd_59) 0 rfl rfl (fun C h => by cases h) (N' := 32) (a0 := (32, .inl (fun _ => 0))) (fun _ => rfl) (by decide) (by decide) (by decide) (Nat.le_of_ble_eq_true rfl) (Nat.le_of_ble_eq_true rfl) d_Mo_init_7 (fun q1 H hq P hS => ?_)
  have hq1m : mo ≠ q1 := fun e => by rw [← e, M.1] at hq; cases hq
  have M1 : so_up σ q1 (51, aI ca 32 (fun _ => 0)) mo = some (50, oMi (fun _ => 0) (fun _ => none)) := by rw [so_un hq1m]; exact M.1
  refine pf_Mo_7_Mo S K P hS M1 (Nat.le_of_ble_eq_true rfl) rfl rfl d_Mo_init_9 (fun H locs P hS => ?_)
  replace F := (F.nw hq (y := (51, aI ca 32 (fun _ => 0)))).up M1 ⟨Nat.le_refl _, Nat.le_of_ble_eq_true rfl⟩ (y := (50, oMi (fun _ => 0) (va_up (fun _ => none) 1 (some q1))))
  have P : so_P D vcl s0.heap.size (so_up (so_up σ q1 (51, aI ca 32 (fun _ => 0))) mo (50, oMi (fun _ => 0) (va_up (fun _ => none) 1 (some q1)))) H := P
  replace M : MiR ca (so_up (so_up σ q1 (51, aI ca 32 (fun _ => 0))) mo (50, oMi (fun _ => 0) (va_up (fun _ => none) 1 (some q1)))) mo (va_up (fun _ => none) 1 (some q1)) (fun _ => 0) := M.st (j := 1) (by decide) hq (fun h => by first | rfl | cases h) (fun h => by first | rfl | cases h)
  generalize so_up (so_up σ q1 (51, aI ca 32 (fun _ => 0))) mo (50, oMi (fun _ => 0) (va_up (fun _ => none) 1 (some q1))) = σ at M F P
  obtain ⟨dd1, hd1⟩ : ∃ x, x = va_up (fun _ => none) 1 (some q1) := ⟨_, rfl⟩
  rw [← hd1] at M
  refine lv_aload_n S.1 S.2.1 d_Mo_init_12 rfl (lv_at hl 0 rfl) ?_
  refine lv_bipush (v := 32) S.1 S.2.1 d_Mo_init_13 (by decide) ?_
  refine so_newa (atype := .int) 52 S K P hS E.2.1 (S.2.2.2.2 _ wd_59) 0 rfl rfl (fun C h => by cases h) (N' := 32) (a0 := (32, .inl (fun _ => 0))) (fun _ => rfl) (by decide) (by decide) (by decide) (Nat.le_of_ble_eq_true rfl) (Nat.le_of_ble_eq_true rfl) d_Mo_init_15 (fun q2 H hq P hS => ?_)
  have hq2m : mo ≠ q2 := fun e => by rw [← e, M.1] at hq; cases hq
  have M1 : so_up σ q2 (52, aI ca 32 (fun _ => 0)) mo = some (50, oMi (fun _ => 0) dd1) := by rw [so_un hq2m]; exact M.1
  refine pf_Mo_13_Mo S K P hS M1 (Nat.le_of_ble_eq_true rfl) rfl rfl d_Mo_init_17 (fun H locs P hS => ?_)
  replace F := (F.nw hq (y := (52, aI ca 32 (fun _ => 0)))).up M1 ⟨Nat.le_refl _, Nat.le_of_ble_eq_true rfl⟩ (y := (50, oMi (fun _ => 0) (va_up dd1 2 (some q2))))
  have P : so_P D vcl s0.heap.size (so_up (so_up σ q2 (52, aI ca 32 (fun _ => 0))) mo (50, oMi (fun _ => 0) (va_up dd1 2 (some q2)))) H := P
  replace M : MiR ca (so_up (so_up σ q2 (52, aI ca 32 (fun _ => 0))) mo (50, oMi (fun _ => 0) (va_up dd1 2 (some q2)))) mo (va_up dd1 2 (some q2)) (fun _ => 0) := M.st (j := 2) (by decide) hq (fun h => by first | rfl | cases h) (fun h => by first | rfl | cases h)
  generalize so_up (so_up σ q2 (52, aI ca 32 (fun _ => 0))) mo (50, oMi (fun _ => 0) (va_up dd1 2 (some q2))) = σ at M F P
  obtain ⟨dd2, hd2⟩ : ∃ x, x = va_up dd1 2 (some q2) := ⟨_, rfl⟩
  rw [← hd2] at M
  refine lv_aload_n S.1 S.2.1 d_Mo_init_20 rfl (lv_at hl 0 rfl) ?_
  refine lv_bipush (v := 32) S.1 S.2.1 d_Mo_init_21 (by decide) ?_
  refine so_newa (atype := .int) 53 S K P hS E.2.1 (S.2.2.2.2 _ wd_59) 0 rfl rfl (fun C h => by cases h) (N' := 32) (a0 := (32, .inl (fun _ => 0))) (fun _ => rfl) (by decide) (by decide) (by decide) (Nat.le_of_ble_eq_true rfl) (Nat.le_of_ble_eq_true rfl) d_Mo_init_23 (fun q3 H hq P hS => ?_)
  have hq3m : mo ≠ q3 := fun e => by rw [← e, M.1] at hq; cases hq
  have M1 : so_up σ q3 (53, aI ca 32 (fun _ => 0)) mo = some (50, oMi (fun _ => 0) dd2) := by rw [so_un hq3m]; exact M.1
  refine pf_Mo_16_Mo S K P hS M1 (Nat.le_of_ble_eq_true rfl) rfl rfl d_Mo_init_25 (fun H locs P hS => ?_)
  replace F := (F.nw hq (y := (53, aI ca 32 (fun _ => 0)))).up M1 ⟨Nat.le_refl _, Nat.le_of_ble_eq_true rfl⟩ (y := (50, oMi (fun _ => 0) (va_up dd2 3 (some q3))))
  have P : so_P D vcl s0.heap.size (so_up (so_up σ q3 (53, aI ca 32 (fun _ => 0))) mo (50, oMi (fun _ => 0) (va_up dd2 3 (some q3)))) H := P
  replace M : MiR ca (so_up (so_up σ q3 (53, aI ca 32 (fun _ => 0))) mo (50, oMi (fun _ => 0) (va_up dd2 3 (some q3)))) mo (va_up dd2 3 (some q3)) (fun _ => 0) := M.st (j := 3) (by decide) hq (fun h => by first | rfl | cases h) (fun h => by first | rfl | cases h)
  generalize so_up (so_up σ q3 (53, aI ca 32 (fun _ => 0))) mo (50, oMi (fun _ => 0) (va_up dd2 3 (some q3))) = σ at M F P
  obtain ⟨dd3, hd3⟩ : ∃ x, x = va_up dd2 3 (some q3) := ⟨_, rfl⟩
  rw [← hd3] at M
  refine lv_aload_n S.1 S.2.1 d_Mo_init_28 rfl (lv_at hl 0 rfl) ?_
  refine lv_bipush (v := 32) S.1 S.2.1 d_Mo_init_29 (by decide) ?_
  refine so_newa (atype := .boolean) 54 S K P hS E.2.1 (S.2.2.2.2 _ wd_913) 1 rfl rfl (fun C h => by cases h) (N' := 32) (a0 := (32, .inl (fun _ => bI false))) (fun _ => rfl) (by decide) (by decide) (by decide) (Nat.le_of_ble_eq_true rfl) (Nat.le_of_ble_eq_true rfl) d_Mo_init_31 (fun q4 H hq P hS => ?_)
  have hq4m : mo ≠ q4 := fun e => by rw [← e, M.1] at hq; cases hq
  have M1 : so_up σ q4 (54, aZ ca 32 (fun _ => bI false)) mo = some (50, oMi (fun _ => 0) dd3) := by rw [so_un hq4m]; exact M.1
  refine pf_Mo_19_Mo S K P hS M1 (Nat.le_of_ble_eq_true rfl) rfl rfl d_Mo_init_33 (fun H locs P hS => ?_)
  replace F := (F.nw hq (y := (54, aZ ca 32 (fun _ => bI false)))).up M1 ⟨Nat.le_refl _, Nat.le_of_ble_eq_true rfl⟩ (y := (50, oMi (fun _ => 0) (va_up dd3 4 (some q4))))
  have P : so_P D vcl s0.heap.size (so_up (so_up σ q4 (54, aZ ca 32 (fun _ => bI false))) mo (50, oMi (fun _ => 0) (va_up dd3 4 (some q4)))) H := P
  replace M : MiR ca (so_up (so_up σ q4 (54, aZ ca 32 (fun _ => bI false))) mo (50, oMi (fun _ => 0) (va_up dd3 4 (some q4)))) mo (va_up dd3 4 (some q4)) (fun _ => 0) := M.st (j := 4) (by decide) hq (fun h => by first | rfl | cases h) (fun h => by first | rfl | cases h)
  generalize so_up (so_up σ q4 (54, aZ ca 32 (fun _ => bI false))) mo (50, oMi (fun _ => 0) (va_up dd3 4 (some q4))) = σ at M F P
  obtain ⟨dd4, hd4⟩ : ∃ x, x = va_up dd3 4 (some q4) := ⟨_, rfl⟩
  rw [← hd4] at M
  refine lv_aload_n S.1 S.2.1 d_Mo_init_36 rfl (lv_at hl 0 rfl) ?_
  refine lv_bipush (v := 32) S.1 S.2.1 d_Mo_init_37 (by decide) ?_
  refine so_newa (atype := .boolean) 55 S K P hS E.2.1 (S.2.2.2.2 _ wd_913) 1 rfl rfl (fun C h => by cases h) (N' := 32) (a0 := (32, .inl (fun _ => bI false))) (fun _ => rfl) (by decide) (by decide) (by decide) (Nat.le_of_ble_eq_true rfl) (Nat.le_of_ble_eq_true rfl) d_Mo_init_39 (fun q5 H hq P hS => ?_)
  have hq5m : mo ≠ q5 := fun e => by rw [← e, M.1] at hq; cases hq
  have M1 : so_up σ q5 (55, aZ ca 32 (fun _ => bI false)) mo = some (50, oMi (fun _ => 0) dd4) := by rw [so_un hq5m]; exact M.1
  refine pf_Mo_23_Mo S K P hS M1 (Nat.le_of_ble_eq_true rfl) rfl rfl d_Mo_init_41 (fun H locs P hS => ?_)
  replace F := (F.nw hq (y := (55, aZ ca 32 (fun _ => bI false)))).up M1 ⟨Nat.le_refl _, Nat.le_of_ble_eq_true rfl⟩ (y := (50, oMi (fun _ => 0) (va_up dd4 5 (some q5))))
  have P : so_P D vcl s0.heap.size (so_up (so_up σ q5 (55, aZ ca 32 (fun _ => bI false))) mo (50, oMi (fun _ => 0) (va_up dd4 5 (some q5)))) H := P
  replace M : MiR ca (so_up (so_up σ q5 (55, aZ ca 32 (fun _ => bI false))) mo (50, oMi (fun _ => 0) (va_up dd4 5 (some q5)))) mo (va_up dd4 5 (some q5)) (fun _ => 0) := M.st (j := 5) (by decide) hq (fun h => by first | rfl | cases h) (fun h => by first | rfl | cases h)
  generalize so_up (so_up σ q5 (55, aZ ca 32 (fun _ => bI false))) mo (50, oMi (fun _ => 0) (va_up dd4 5 (some q5))) = σ at M F P
  obtain ⟨dd5, hd5⟩ : ∃ x, x = va_up dd4 5 (some q5) := ⟨_, rfl⟩
  rw [← hd5] at M
  refine lv_aload_n S.1 S.2.1 d_Mo_init_44 rfl (lv_at hl 0 rfl) ?_
  refine lv_bipush (v := 32) S.1 S.2.1 d_Mo_init_45 (by decide) ?_
  refine so_newa (atype := .boolean) 56 S K P hS E.2.1 (S.2.2.2.2 _ wd_913) 1 rfl rfl (fun C h => by cases h) (N' := 32) (a0 := (32, .inl (fun _ => bI false))) (fun _ => rfl) (by decide) (by decide) (by decide) (Nat.le_of_ble_eq_true rfl) (Nat.le_of_ble_eq_true rfl) d_Mo_init_47 (fun q6 H hq P hS => ?_)
  have hq6m : mo ≠ q6 := fun e => by rw [← e, M.1] at hq; cases hq
  have M1 : so_up σ q6 (56, aZ ca 32 (fun _ => bI false)) mo = some (50, oMi (fun _ => 0) dd5) := by rw [so_un hq6m]; exact M.1
  refine pf_Mo_26_Mo S K P hS M1 (Nat.le_of_ble_eq_true rfl) rfl rfl d_Mo_init_49 (fun H locs P hS => ?_)
  replace F := (F.nw hq (y := (56, aZ ca 32 (fun _ => bI false)))).up M1 ⟨Nat.le_refl _, Nat.le_of_ble_eq_true rfl⟩ (y := (50, oMi (fun _ => 0) (va_up dd5 6 (some q6))))
  have P : so_P D vcl s0.heap.size (so_up (so_up σ q6 (56, aZ ca 32 (fun _ => bI false))) mo (50, oMi (fun _ => 0) (va_up dd5 6 (some q6)))) H := P
  replace M : MiR ca (so_up (so_up σ q6 (56, aZ ca 32 (fun _ => bI false))) mo (50, oMi (fun _ => 0) (va_up dd5 6 (some q6)))) mo (va_up dd5 6 (some q6)) (fun _ => 0) := M.st (j := 6) (by decide) hq (fun h => by first | rfl | cases h) (fun h => by first | rfl | cases h)
  generalize so_up (so_up σ q6 (56, aZ ca 32 (fun _ => bI false))) mo (50, oMi (fun _ => 0) (va_up dd5 6 (some q6))) = σ at M F P
  obtain ⟨dd6, hd6⟩ : ∃ x, x = va_up dd5 6 (some q6) := ⟨_, rfl⟩
  rw [← hd6] at M
  refine lv_aload_n S.1 S.2.1 d_Mo_init_52 rfl (lv_at hl 0 rfl) ?_
  refine lv_sipush (v := 160) S.1 S.2.1 d_Mo_init_53 (by decide) ?_
  refine so_newa (atype := .int) 58 S K P hS E.2.1 (S.2.2.2.2 _ wd_59) 0 rfl rfl (fun C h => by cases h) (N' := 160) (a0 := (160, .inl (fun _ => 0))) (fun _ => rfl) (by decide) (by decide) (by decide) (Nat.le_of_ble_eq_true rfl) (Nat.le_of_ble_eq_true rfl) d_Mo_init_56 (fun q8 H hq P hS => ?_)
  have hq8m : mo ≠ q8 := fun e => by rw [← e, M.1] at hq; cases hq
  have M1 : so_up σ q8 (58, aI ca 160 (fun _ => 0)) mo = some (50, oMi (fun _ => 0) dd6) := by rw [so_un hq8m]; exact M.1
  refine pf_Mo_29_Mo S K P hS M1 (Nat.le_of_ble_eq_true rfl) rfl rfl d_Mo_init_58 (fun H locs P hS => ?_)
  replace F := (F.nw hq (y := (58, aI ca 160 (fun _ => 0)))).up M1 ⟨Nat.le_refl _, Nat.le_of_ble_eq_true rfl⟩ (y := (50, oMi (fun _ => 0) (va_up dd6 8 (some q8))))
  have P : so_P D vcl s0.heap.size (so_up (so_up σ q8 (58, aI ca 160 (fun _ => 0))) mo (50, oMi (fun _ => 0) (va_up dd6 8 (some q8)))) H := P
  replace M : MiR ca (so_up (so_up σ q8 (58, aI ca 160 (fun _ => 0))) mo (50, oMi (fun _ => 0) (va_up dd6 8 (some q8)))) mo (va_up dd6 8 (some q8)) (fun _ => 0) := M.st (j := 8) (by decide) hq (fun h => by first | rfl | cases h) (fun h => by first | rfl | cases h)
  generalize so_up (so_up σ q8 (58, aI ca 160 (fun _ => 0))) mo (50, oMi (fun _ => 0) (va_up dd6 8 (some q8))) = σ at M F P
  obtain ⟨dd8, hd8⟩ : ∃ x, x = va_up dd6 8 (some q8) := ⟨_, rfl⟩
  rw [← hd8] at M
  refine lv_aload_n S.1 S.2.1 d_Mo_init_61 rfl (lv_at hl 0 rfl) ?_
  refine lv_sipush (v := 160) S.1 S.2.1 d_Mo_init_62 (by decide) ?_
  refine so_newa (atype := .int) 59 S K P hS E.2.1 (S.2.2.2.2 _ wd_59) 0 rfl rfl (fun C h => by cases h) (N' := 160) (a0 := (160, .inl (fun _ => 0))) (fun _ => rfl) (by decide) (by decide) (by decide) (Nat.le_of_ble_eq_true rfl) (Nat.le_of_ble_eq_true rfl) d_Mo_init_65 (fun q9 H hq P hS => ?_)
  have hq9m : mo ≠ q9 := fun e => by rw [← e, M.1] at hq; cases hq
  have M1 : so_up σ q9 (59, aI ca 160 (fun _ => 0)) mo = some (50, oMi (fun _ => 0) dd8) := by rw [so_un hq9m]; exact M.1
  refine pf_Mo_32_Mo S K P hS M1 (Nat.le_of_ble_eq_true rfl) rfl rfl d_Mo_init_67 (fun H locs P hS => ?_)
  replace F := (F.nw hq (y := (59, aI ca 160 (fun _ => 0)))).up M1 ⟨Nat.le_refl _, Nat.le_of_ble_eq_true rfl⟩ (y := (50, oMi (fun _ => 0) (va_up dd8 9 (some q9))))
  have P : so_P D vcl s0.heap.size (so_up (so_up σ q9 (59, aI ca 160 (fun _ => 0))) mo (50, oMi (fun _ => 0) (va_up dd8 9 (some q9)))) H := P
  replace M : MiR ca (so_up (so_up σ q9 (59, aI ca 160 (fun _ => 0))) mo (50, oMi (fun _ => 0) (va_up dd8 9 (some q9)))) mo (va_up dd8 9 (some q9)) (fun _ => 0) := M.st (j := 9) (by decide) hq (fun h => by first | rfl | cases h) (fun h => by first | rfl | cases h)
  generalize so_up (so_up σ q9 (59, aI ca 160 (fun _ => 0))) mo (50, oMi (fun _ => 0) (va_up dd8 9 (some q9))) = σ at M F P
  obtain ⟨dd9, hd9⟩ : ∃ x, x = va_up dd8 9 (some q9) := ⟨_, rfl⟩
  rw [← hd9] at M
  refine lv_aload_n S.1 S.2.1 d_Mo_init_70 rfl (lv_at hl 0 rfl) ?_
  refine lv_sipush (v := 160) S.1 S.2.1 d_Mo_init_71 (by decide) ?_
  refine so_newa (atype := .int) 60 S K P hS E.2.1 (S.2.2.2.2 _ wd_59) 0 rfl rfl (fun C h => by cases h) (N' := 160) (a0 := (160, .inl (fun _ => 0))) (fun _ => rfl) (by decide) (by decide) (by decide) (Nat.le_of_ble_eq_true rfl) (Nat.le_of_ble_eq_true rfl) d_Mo_init_74 (fun q10 H hq P hS => ?_)
  have hq10m : mo ≠ q10 := fun e => by rw [← e, M.1] at hq; cases hq
  have M1 : so_up σ q10 (60, aI ca 160 (fun _ => 0)) mo = some (50, oMi (fun _ => 0) dd9) := by rw [so_un hq10m]; exact M.1
  refine pf_Mo_35_Mo S K P hS M1 (Nat.le_of_ble_eq_true rfl) rfl rfl d_Mo_init_76 (fun H locs P hS => ?_)
  replace F := (F.nw hq (y := (60, aI ca 160 (fun _ => 0)))).up M1 ⟨Nat.le_refl _, Nat.le_of_ble_eq_true rfl⟩ (y := (50, oMi (fun _ => 0) (va_up dd9 10 (some q10))))
  have P : so_P D vcl s0.heap.size (so_up (so_up σ q10 (60, aI ca 160 (fun _ => 0))) mo (50, oMi (fun _ => 0) (va_up dd9 10 (some q10)))) H := P
  replace M : MiR ca (so_up (so_up σ q10 (60, aI ca 160 (fun _ => 0))) mo (50, oMi (fun _ => 0) (va_up dd9 10 (some q10)))) mo (va_up dd9 10 (some q10)) (fun _ => 0) := M.st (j := 10) (by decide) hq (fun h => by first | rfl | cases h) (fun h => by first | rfl | cases h)
  generalize so_up (so_up σ q10 (60, aI ca 160 (fun _ => 0))) mo (50, oMi (fun _ => 0) (va_up dd9 10 (some q10))) = σ at M F P
  obtain ⟨dd10, hd10⟩ : ∃ x, x = va_up dd9 10 (some q10) := ⟨_, rfl⟩
  rw [← hd10] at M
  refine lv_aload_n S.1 S.2.1 d_Mo_init_79 rfl (lv_at hl 0 rfl) ?_
  refine lv_iconst (v := 5) S.1 S.2.1 d_Mo_init_80 (by decide) ?_
  refine so_newa (atype := .int) 61 S K P hS E.2.1 (S.2.2.2.2 _ wd_59) 0 rfl rfl (fun C h => by cases h) (N' := 5) (a0 := (5, .inl (fun _ => 0))) (fun _ => rfl) (by decide) (by decide) (by decide) (Nat.le_of_ble_eq_true rfl) (Nat.le_of_ble_eq_true rfl) d_Mo_init_81 (fun q11 H hq P hS => ?_)
  have hq11m : mo ≠ q11 := fun e => by rw [← e, M.1] at hq; cases hq
  have M1 : so_up σ q11 (61, aI ca 5 (fun _ => 0)) mo = some (50, oMi (fun _ => 0) dd10) := by rw [so_un hq11m]; exact M.1
  refine pf_Mo_38_Mo S K P hS M1 (Nat.le_of_ble_eq_true rfl) rfl rfl d_Mo_init_83 (fun H locs P hS => ?_)
  replace F := (F.nw hq (y := (61, aI ca 5 (fun _ => 0)))).up M1 ⟨Nat.le_refl _, Nat.le_of_ble_eq_true rfl⟩ (y := (50, oMi (fun _ => 0) (va_up dd10 11 (some q11))))
  have P : so_P D vcl s0.heap.size (so_up (so_up σ q11 (61, aI ca 5 (fun _ => 0))) mo (50, oMi (fun _ => 0) (va_up dd10 11 (some q11)))) H := P
  replace M : MiR ca (so_up (so_up σ q11 (61, aI ca 5 (fun _ => 0))) mo (50, oMi (fun _ => 0) (va_up dd10 11 (some q11)))) mo (va_up dd10 11 (some q11)) (fun _ => 0) := M.st (j := 11) (by decide) hq (fun h => by first | rfl | cases h) (fun h => by first | rfl | cases h)
  generalize so_up (so_up σ q11 (61, aI ca 5 (fun _ => 0))) mo (50, oMi (fun _ => 0) (va_up dd10 11 (some q11))) = σ at M F P
  obtain ⟨dd11, hd11⟩ : ∃ x, x = va_up dd10 11 (some q11) := ⟨_, rfl⟩
  rw [← hd11] at M
  refine lv_aload_n S.1 S.2.1 d_Mo_init_86 rfl (lv_at hl 0 rfl) ?_
  refine lv_iconst (v := 4) S.1 S.2.1 d_Mo_init_87 (by decide) ?_
  refine pf_Mo_41_Mo S K P hS M.1 (Nat.le_of_ble_eq_true rfl) rfl rfl d_Mo_init_88 (fun H locs P hS => ?_)
  replace F := F.up M.1 ⟨Nat.le_refl _, Nat.le_of_ble_eq_true rfl⟩ (y := (50, oMi (va_up (fun _ => 0) 12 4) dd11))
  have P : so_P D vcl s0.heap.size (so_up σ mo (50, oMi (va_up (fun _ => 0) 12 4) dd11)) H := P
  replace M := M.st_z (va_up (fun _ => 0) 12 4)
  generalize so_up σ mo (50, oMi (va_up (fun _ => 0) 12 4) dd11) = σ at M F P
  refine lv_aload_n S.1 S.2.1 d_Mo_init_91 rfl (lv_at hl 0 rfl) ?_
  refine lv_bipush (v := 64) S.1 S.2.1 d_Mo_init_92 (by decide) ?_
  refine so_newa (atype := .int) 63 S K P hS E.2.1 (S.2.2.2.2 _ wd_59) 0 rfl rfl (fun C h => by cases h) (N' := 64) (a0 := (64, .inl (fun _ => 0))) (fun _ => rfl) (by decide) (by decide) (by decide) (Nat.le_of_ble_eq_true rfl) (Nat.le_of_ble_eq_true rfl) d_Mo_init_94 (fun q13 H hq P hS => ?_)
  have hq13m : mo ≠ q13 := fun e => by rw [← e, M.1] at hq; cases hq
  have M1 : so_up σ q13 (63, aI ca 64 (fun _ => 0)) mo = some (50, oMi (va_up (fun _ => 0) 12 4) dd11) := by rw [so_un hq13m]; exact M.1
  refine pf_Mo_45_Mo S K P hS M1 (Nat.le_of_ble_eq_true rfl) rfl rfl d_Mo_init_96 (fun H locs P hS => ?_)
  replace F := (F.nw hq (y := (63, aI ca 64 (fun _ => 0)))).up M1 ⟨Nat.le_refl _, Nat.le_of_ble_eq_true rfl⟩ (y := (50, oMi (va_up (fun _ => 0) 12 4) (va_up dd11 13 (some q13))))
  have P : so_P D vcl s0.heap.size (so_up (so_up σ q13 (63, aI ca 64 (fun _ => 0))) mo (50, oMi (va_up (fun _ => 0) 12 4) (va_up dd11 13 (some q13)))) H := P
  replace M : MiR ca (so_up (so_up σ q13 (63, aI ca 64 (fun _ => 0))) mo (50, oMi (va_up (fun _ => 0) 12 4) (va_up dd11 13 (some q13)))) mo (va_up dd11 13 (some q13)) (va_up (fun _ => 0) 12 4) := M.st (j := 13) (by decide) hq (fun h => by first | rfl | cases h) (fun h => by first | rfl | cases h)
  generalize so_up (so_up σ q13 (63, aI ca 64 (fun _ => 0))) mo (50, oMi (va_up (fun _ => 0) 12 4) (va_up dd11 13 (some q13))) = σ at M F P
  obtain ⟨dd13, hd13⟩ : ∃ x, x = va_up dd11 13 (some q13) := ⟨_, rfl⟩
  rw [← hd13] at M
  refine lv_aload_n S.1 S.2.1 d_Mo_init_99 rfl (lv_at hl 0 rfl) ?_
  refine lv_iconst (v := 5) S.1 S.2.1 d_Mo_init_100 (by decide) ?_
  refine so_newa (atype := .boolean) 65 S K P hS E.2.1 (S.2.2.2.2 _ wd_913) 1 rfl rfl (fun C h => by cases h) (N' := 5) (a0 := (5, .inl (fun _ => bI false))) (fun _ => rfl) (by decide) (by decide) (by decide) (Nat.le_of_ble_eq_true rfl) (Nat.le_of_ble_eq_true rfl) d_Mo_init_101 (fun q15 H hq P hS => ?_)
  have hq15m : mo ≠ q15 := fun e => by rw [← e, M.1] at hq; cases hq
  have M1 : so_up σ q15 (65, aZ ca 5 (fun _ => bI false)) mo = some (50, oMi (va_up (fun _ => 0) 12 4) dd13) := by rw [so_un hq15m]; exact M.1
  refine pf_Mo_48_Mo S K P hS M1 (Nat.le_of_ble_eq_true rfl) rfl rfl d_Mo_init_103 (fun H locs P hS => ?_)
  replace F := (F.nw hq (y := (65, aZ ca 5 (fun _ => bI false)))).up M1 ⟨Nat.le_refl _, Nat.le_of_ble_eq_true rfl⟩ (y := (50, oMi (va_up (fun _ => 0) 12 4) (va_up dd13 15 (some q15))))
  have P : so_P D vcl s0.heap.size (so_up (so_up σ q15 (65, aZ ca 5 (fun _ => bI false))) mo (50, oMi (va_up (fun _ => 0) 12 4) (va_up dd13 15 (some q15)))) H := P
  replace M : MiR ca (so_up (so_up σ q15 (65, aZ ca 5 (fun _ => bI false))) mo (50, oMi (va_up (fun _ => 0) 12 4) (va_up dd13 15 (some q15)))) mo (va_up dd13 15 (some q15)) (va_up (fun _ => 0) 12 4) := M.st (j := 15) (by decide) hq (fun h => by first | rfl | cases h) (fun h => by first | rfl | cases h)
  generalize so_up (so_up σ q15 (65, aZ ca 5 (fun _ => bI false))) mo (50, oMi (va_up (fun _ => 0) 12 4) (va_up dd13 15 (some q15))) = σ at M F P
  obtain ⟨dd15, hd15⟩ : ∃ x, x = va_up dd13 15 (some q15) := ⟨_, rfl⟩
  rw [← hd15] at M
  refine lv_aload_n S.1 S.2.1 d_Mo_init_106 rfl (lv_at hl 0 rfl) ?_
  refine lv_iconst (v := 5) S.1 S.2.1 d_Mo_init_107 (by decide) ?_
  refine so_newa (atype := .boolean) 66 S K P hS E.2.1 (S.2.2.2.2 _ wd_913) 1 rfl rfl (fun C h => by cases h) (N' := 5) (a0 := (5, .inl (fun _ => bI false))) (fun _ => rfl) (by decide) (by decide) (by decide) (Nat.le_of_ble_eq_true rfl) (Nat.le_of_ble_eq_true rfl) d_Mo_init_108 (fun q16 H hq P hS => ?_)
  have hq16m : mo ≠ q16 := fun e => by rw [← e, M.1] at hq; cases hq
  have M1 : so_up σ q16 (66, aZ ca 5 (fun _ => bI false)) mo = some (50, oMi (va_up (fun _ => 0) 12 4) dd15) := by rw [so_un hq16m]; exact M.1
  refine pf_Mo_51_Mo S K P hS M1 (Nat.le_of_ble_eq_true rfl) rfl rfl d_Mo_init_110 (fun H locs P hS => ?_)
  replace F := (F.nw hq (y := (66, aZ ca 5 (fun _ => bI false)))).up M1 ⟨Nat.le_refl _, Nat.le_of_ble_eq_true rfl⟩ (y := (50, oMi (va_up (fun _ => 0) 12 4) (va_up dd15 16 (some q16))))
  have P : so_P D vcl s0.heap.size (so_up (so_up σ q16 (66, aZ ca 5 (fun _ => bI false))) mo (50, oMi (va_up (fun _ => 0) 12 4) (va_up dd15 16 (some q16)))) H := P
  replace M : MiR ca (so_up (so_up σ q16 (66, aZ ca 5 (fun _ => bI false))) mo (50, oMi (va_up (fun _ => 0) 12 4) (va_up dd15 16 (some q16)))) mo (va_up dd15 16 (some q16)) (va_up (fun _ => 0) 12 4) := M.st (j := 16) (by decide) hq (fun h => by first | rfl | cases h) (fun h => by first | rfl | cases h)
  generalize so_up (so_up σ q16 (66, aZ ca 5 (fun _ => bI false))) mo (50, oMi (va_up (fun _ => 0) 12 4) (va_up dd15 16 (some q16))) = σ at M F P
  obtain ⟨dd16, hd16⟩ : ∃ x, x = va_up dd15 16 (some q16) := ⟨_, rfl⟩
  rw [← hd16] at M
  refine lv_aload_n S.1 S.2.1 d_Mo_init_113 rfl (lv_at hl 0 rfl) ?_
  refine lv_iconst (v := 5) S.1 S.2.1 d_Mo_init_114 (by decide) ?_
  refine so_newa (atype := .int) 67 S K P hS E.2.1 (S.2.2.2.2 _ wd_59) 0 rfl rfl (fun C h => by cases h) (N' := 5) (a0 := (5, .inl (fun _ => 0))) (fun _ => rfl) (by decide) (by decide) (by decide) (Nat.le_of_ble_eq_true rfl) (Nat.le_of_ble_eq_true rfl) d_Mo_init_115 (fun q17 H hq P hS => ?_)
  have hq17m : mo ≠ q17 := fun e => by rw [← e, M.1] at hq; cases hq
  have M1 : so_up σ q17 (67, aI ca 5 (fun _ => 0)) mo = some (50, oMi (va_up (fun _ => 0) 12 4) dd16) := by rw [so_un hq17m]; exact M.1
  refine pf_Mo_54_Mo S K P hS M1 (Nat.le_of_ble_eq_true rfl) rfl rfl d_Mo_init_117 (fun H locs P hS => ?_)
  replace F := (F.nw hq (y := (67, aI ca 5 (fun _ => 0)))).up M1 ⟨Nat.le_refl _, Nat.le_of_ble_eq_true rfl⟩ (y := (50, oMi (va_up (fun _ => 0) 12 4) (va_up dd16 17 (some q17))))
  have P : so_P D vcl s0.heap.size (so_up (so_up σ q17 (67, aI ca 5 (fun _ => 0))) mo (50, oMi (va_up (fun _ => 0) 12 4) (va_up dd16 17 (some q17)))) H := P
  replace M : MiR ca (so_up (so_up σ q17 (67, aI ca 5 (fun _ => 0))) mo (50, oMi (va_up (fun _ => 0) 12 4) (va_up dd16 17 (some q17)))) mo (va_up dd16 17 (some q17)) (va_up (fun _ => 0) 12 4) := M.st (j := 17) (by decide) hq (fun h => by first | rfl | cases h) (fun h => by first | rfl | cases h)
  generalize so_up (so_up σ q17 (67, aI ca 5 (fun _ => 0))) mo (50, oMi (va_up (fun _ => 0) 12 4) (va_up dd16 17 (some q17))) = σ at M F P
  obtain ⟨dd17, hd17⟩ : ∃ x, x = va_up dd16 17 (some q17) := ⟨_, rfl⟩
  rw [← hd17] at M
  obtain ⟨ar, har⟩ : ∃ ar : Nat → Nat, ar = fun j => (dd17 j).getD 0 := ⟨_, rfl⟩
  have hdd : ∀ j, mo_i j = true ∨ mo_b j = true → dd17 j = some (ar j) := by
    intro j hj
    have h3 : j = 1 ∨ j = 2 ∨ j = 3 ∨ j = 4 ∨ j = 5 ∨ j = 6 ∨ j = 8 ∨ j = 9 ∨ j = 10 ∨ j = 11 ∨ j = 13 ∨ j = 15 ∨ j = 16 ∨ j = 17 := by
      simp only [mo_i, mo_b, Bool.or_eq_true, beq_iff_eq] at hj
      omega
    subst har hd17 hd16 hd15 hd13 hd11 hd10 hd9 hd8 hd6 hd5 hd4 hd3 hd2 hd1
    rcases h3 with rfl | rfl | rfl | rfl | rfl | rfl | rfl | rfl | rfl | rfl | rfl | rfl | rfl | rfl <;> rfl
  clear hd17 hd16 hd15 hd13 hd11 hd10 hd9 hd8 hd6 hd5 hd4 hd3 hd2 hd1
  obtain ⟨R, hR⟩ : ∃ R : Rf, R = (va_up (fun _ => 0) 12 4, fun _ _ => 0, fun _ _ => false) := ⟨_, rfl⟩
  have M : MoR ca σ mo ar R := by
    rw [hR]
    refine ⟨?_, fun j hj => M.2.1 j _ hj (hdd j (Or.inl hj)), fun j hj => M.2.2 j _ hj (hdd j (Or.inr hj))⟩
    have h9 := M.1
    unfold oMi at h9
    rw [hdd 1 (by decide), hdd 2 (by decide), hdd 3 (by decide), hdd 4 (by decide), hdd 5 (by decide), hdd 6 (by decide), hdd 8 (by decide), hdd 9 (by decide), hdd 10 (by decide), hdd 11 (by decide), hdd 13 (by decide), hdd 15 (by decide), hdd 16 (by decide), hdd 17 (by decide)] at h9
    exact h9
  refine lv_iconst (v := 0) S.1 S.2.1 d_Mo_init_120 (by decide) ?_
  refine lv_istore_n S.1 S.2.1 d_Mo_init_121 rfl hl (by decide) rfl (fun ls hl => ?_)
  refine so_lp (Wf := fun ls H locs σ1 (_ : Nat × Rf) => W p l e _ s m _ below meth c H locs _ _ _ (F0 m 122 ls [])) (fun n1 ls H locs σ1 a => n1 = 160 - a.1 ∧ a.1 ≤ 160 ∧ a.2.1 = R.1 ∧ a.2.2.2 = R.2.2 ∧ (∀ j, j ≠ 8 → a.2.2.1 j = R.2.1 j) ∧ (∀ i, i < a.1 → a.2.2.1 8 i = -1) ∧ mo_I ca D s0 s mo ar σ0 ls 2 [(1, .int (nI a.1)), (0, .ref mo)] H locs σ1 a.2) ?_ _ ls H locs σ (0, R) ⟨rfl, Nat.zero_le _, rfl, rfl, fun _ _ => rfl, fun i h => absurd h (Nat.not_lt_zero _), hl, P, hS, M, F⟩
  clear hl P hS M F
  rintro n1 ls H locs σ ⟨i, Ra⟩ ⟨hn1, hi1, hz, hb, ho, hk8, hl, P, hS, M, F⟩ ih
  simp only at hn1 hi1 hz hb ho hk8 hl M ih
  refine lv_iload_n S.1 S.2.1 d_Mo_init_122 rfl (lv_at hl 0 rfl) ?_
  refine lv_sipush (v := 160) S.1 S.2.1 d_Mo_init_123 (by decide) ?_
  refine lv_icmp_ge (tgt := 142) S.1 S.2.1 d_Mo_init_126 rfl (fun h126 => ?_) (fun h126 => ?_)
  · refine so_vret S hr hlk P hS (Nat.le_of_ble_eq_true rfl) (Nat.le_of_ble_eq_true rfl) ?_ d_Mo_init_142
    have hi2 : i = 160 := by
      have := (nI_leI (a := 160) (by decide) (by omega)).mp h126
      omega
    subst hi2
    refine ⟨rfl, ar, Ra, M, F, by rw [hz, hR]; rfl, rf_0 (fun i => by rw [hb, hR]) hk8 (fun i => by rw [ho 11 (by decide), hR]) (fun i => by rw [ho 17 (by decide), hR]) (fun i => by rw [hb, hR]) (fun i => by rw [hb, hR]) (by rw [hz, hR]; rfl) (by rw [hz, hR]; rfl) (by rw [hz, hR]; rfl)⟩
  · have hlt : i < 160 := Nat.not_le.mp fun z => h126 (nI_le (a := 160) z (by omega))
    refine lv_aload_n S.1 S.2.1 d_Mo_init_129 rfl (lv_at hl 1 rfl) ?_
    refine gf_Mo_29_Mo S K P M.1 rfl d_Mo_init_130 ?_
    refine lv_iload_n S.1 S.2.1 d_Mo_init_133 rfl (lv_at hl 0 rfl) ?_
    refine lv_iconst (v := (-1)) S.1 S.2.1 d_Mo_init_134 (by decide) ?_
    refine mo_iast S K P hS M F 8 rfl i rfl (by show i < 160; exact hlt) d_Mo_init_135 (fun σ H locs P hS M F => ?_)
    refine lv_iinc (k := 0) S.1 S.2.1 d_Mo_init_136 hl rfl rfl (by decide) rfl (fun ls hl => ?_)
    refine lv_goto (tgt := 122) S.1 S.2.1 d_Mo_init_139 rfl ?_
    rw [nI_a] at hl
    refine ih (160 - (i + 1)) ls H locs σ (i + 1, sa Ra 8 i (-1)) (by omega) ⟨rfl, by show i + 1 ≤ 160; omega, hz, hb, fun j hj => ?_, fun t ht => ?_, hl, P, hS, M, F⟩
    · show va_up Ra.2.1 8 _ j = _
      rw [va_up_ne _ _ hj]; exact ho j hj
    · show va_up Ra.2.1 8 (upd (Ra.2.1 8) i (-1)) 8 t = -1
      rw [va_up_self]
      unfold upd
      split
      · rfl
      · exact hk8 t (by have : t < i + 1 := ht; omega)

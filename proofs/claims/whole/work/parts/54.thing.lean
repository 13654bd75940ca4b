/-! Thing's constructor. -/
set_option maxHeartbeats 400000 in
theorem c_Th_init (l : Launch) {s0 : State} {D : va_G} {ca : Nat → ClassId} (hB : so_B tbl s0 D vcl (tyl ca)) {σ : so_S} {t tg : Nat} (M0 : σ t = some (tg, .inr (2, [.int 0, .null, .int 0, .int 0]))) (i : Nat) (x : Int32) : so_C l s0 D vcl y_Th_init b_Th_init 2 none 1 1 2 [.ref t, .int x] σ (fun v σ1 => v = none ∧ ∃ q f, σ q = none ∧ f 0 = -1 ∧ f 1 = -1 ∧ σ1 t = some (tg, oTh x q 0 0) ∧ σ1 q = some (200 + i, aI ca 2 f) ∧ ∀ r, r ≠ t → r ≠ q → σ1 r = σ r) := by
  refine so_of hB (by decide) (Nat.le_of_ble_eq_true rfl) ?_
  intro p e s m below meth c ls S K E hr hlk hnm P hS hl
  have hl : lv_has ls 2 [(0, .ref t), (1, .int x)] := hl
  refine lv_aload_n S.1 S.2.1 d_Th_init_0 rfl (lv_at hl 0 rfl) ?_
  refine W.objInit S.1 S.2.1 S.2.2.2.1 (S.2.2.2.2 _ wd_347) (S.2.2.2.2 _ wd_34) (S.2.2.2.2 _ wd_35) rfl (hl.1.trans S.2.2.1.symm) rfl d_Th_init_1 (Nat.le_of_ble_eq_true rfl) (Nat.le_of_ble_eq_true rfl) ?_
  refine lv_aload_n S.1 S.2.1 d_Th_init_4 rfl (lv_at hl 0 rfl) ?_
  refine lv_iload_n S.1 S.2.1 d_Th_init_5 rfl (lv_at hl 1 rfl) ?_
  refine pf_Th_9_Th S K P hS hnm M0 (Nat.le_of_ble_eq_true rfl) rfl rfl d_Th_init_6 (fun H locs P hS => ?_)
  refine lv_aload_n S.1 S.2.1 d_Th_init_9 rfl (lv_at hl 0 rfl) ?_
  refine lv_iconst (v := 2) S.1 S.2.1 d_Th_init_10 (by decide) ?_
  refine so_newa (atype := .int) (200 + i) S K P hS E.2.1 (S.2.2.2.2 _ wd_59) 0 rfl rfl (fun C h => by cases h) (N' := 2) (a0 := (2, .inl (fun _ => 0))) (fun _ => rfl) (by decide) (by decide) (by decide) (Nat.le_of_ble_eq_true rfl) (Nat.le_of_ble_eq_true rfl) d_Th_init_11 (fun q H hq P hS => ?_)
  have hqt : t ≠ q := fun e => by rw [← e, so_us] at hq; cases hq
  have hq0 : σ q = none := by rw [so_un (Ne.symm hqt)] at hq; exact hq
  refine lv_dup S.1 S.2.1 d_Th_init_13 rfl ?_
  refine lv_iconst (v := 0) S.1 S.2.1 d_Th_init_14 (by decide) ?_
  refine lv_iconst (v := -1) S.1 S.2.1 d_Th_init_15 (by decide) ?_
  refine so_iastN S K P hS so_us 0 rfl (j := 0) (by decide) (by decide) d_Th_init_16 (fun H locs P hS => ?_)
  refine lv_dup S.1 S.2.1 d_Th_init_17 rfl ?_
  refine lv_iconst (v := 1) S.1 S.2.1 d_Th_init_18 (by decide) ?_
  refine lv_iconst (v := -1) S.1 S.2.1 d_Th_init_19 (by decide) ?_
  refine so_iastN S K P hS so_us 0 rfl (j := 1) (by decide) (by decide) d_Th_init_20 (fun H locs P hS => ?_)
  refine pf_Th_15_Th S K P hS hnm (by rw [so_un hqt, so_un hqt, so_un hqt, so_us]) (Nat.le_of_ble_eq_true rfl) rfl rfl d_Th_init_21 (fun H locs P hS => ?_)
  refine so_vret S hr hlk P hS (Nat.le_of_ble_eq_true rfl) (Nat.le_of_ble_eq_true rfl) ?_ d_Th_init_24
  refine ⟨rfl, q, upd (upd (fun _ => 0) 0 (-1)) 1 (-1), hq0, rfl, rfl, so_us, ?_, fun r h1 h2 => ?_⟩
  · rw [so_un (Ne.symm hqt), so_us]
  · rw [so_un h1, so_un h2, so_un h2, so_un h2, so_un h1]

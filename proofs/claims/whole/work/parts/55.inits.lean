/-! Entry's and Heap's constructors. -/
set_option maxHeartbeats 400000 in
theorem c_En_init (l : Launch) {s0 : State} {D : va_G} {ca : Nat → ClassId} (hB : so_B tbl s0 D vcl (tyl ca)) {σ : so_S} {t tg : Nat} (M0 : σ t = some (tg, .inr (3, [.int 0, .int 0, .int 0, .int 0]))) (k mk v : Int32) : so_C l s0 D vcl y_En_init b_En_init 4 none 1 0 0 [.ref t, .int k, .int mk, .int v] σ (fun r σ1 => r = none ∧ σ1 t = some (tg, oEn k mk v 0) ∧ ∀ r, r ≠ t → σ1 r = σ r) := by
  refine so_of hB (by decide) (Nat.le_of_ble_eq_true rfl) ?_
  intro p e s m below meth c ls S K E hr hlk hnm P hS hl
  have hl : lv_has ls 4 [(0, .ref t), (1, .int k), (2, .int mk), (3, .int v)] := hl
  refine lv_aload_n S.1 S.2.1 d_En_init_0 rfl (lv_at hl 0 rfl) ?_
  refine W.objInit S.1 S.2.1 S.2.2.2.1 (S.2.2.2.2 _ wd_497) (S.2.2.2.2 _ wd_34) (S.2.2.2.2 _ wd_35) rfl (hl.1.trans S.2.2.1.symm) rfl d_En_init_1 (Nat.le_of_ble_eq_true rfl) (Nat.le_of_ble_eq_true rfl) ?_
  refine lv_aload_n S.1 S.2.1 d_En_init_4 rfl (lv_at hl 0 rfl) ?_
  refine lv_iload_n S.1 S.2.1 d_En_init_5 rfl (lv_at hl 1 rfl) ?_
  refine pf_En_7_En S K P hS hnm M0 (Nat.le_of_ble_eq_true rfl) rfl rfl d_En_init_6 (fun H locs P hS => ?_)
  refine lv_aload_n S.1 S.2.1 d_En_init_9 rfl (lv_at hl 0 rfl) ?_
  refine lv_iload_n S.1 S.2.1 d_En_init_10 rfl (lv_at hl 2 rfl) ?_
  refine pf_En_13_En S K P hS hnm so_us (Nat.le_of_ble_eq_true rfl) rfl rfl d_En_init_11 (fun H locs P hS => ?_)
  refine lv_aload_n S.1 S.2.1 d_En_init_14 rfl (lv_at hl 0 rfl) ?_
  refine lv_iload_n S.1 S.2.1 d_En_init_15 rfl (lv_at hl 3 rfl) ?_
  refine pf_En_16_En S K P hS so_us (Nat.le_of_ble_eq_true rfl) rfl rfl d_En_init_16 (fun H locs P hS => ?_)
  refine so_vret S hr hlk P hS (Nat.le_refl _) (Nat.le_refl _) ⟨rfl, so_us, fun r h => ?_⟩ d_En_init_19
  rw [so_un h, so_un h, so_un h]
def X_0 : Hx := (fun _ => none, fun _ => 0, fun _ => false, fun _ => false, fun _ _ => 0, fun _ => 0, 0, 0)
set_option maxHeartbeats 400000 in
theorem c_He_init (l : Launch) {s0 : State} {D : va_G} {ca : Nat → ClassId} (hB : so_B tbl s0 D vcl (tyl ca)) {σ : so_S} {he : Nat} (M0 : σ he = some (1, .inr (1, [.null, .null, .int 0, .int 0]))) : so_C l s0 D vcl y_He_init b_He_init 1 none 1 2 64 [.ref he] σ (fun v σ1 => v = none ∧ ∃ th ho, HeR ca σ1 he th ho X_0 ∧ fH σ σ1) := by
  refine so_of hB (by decide) (Nat.le_of_ble_eq_true rfl) ?_
  intro p e s m below meth c ls S K E hr hlk hnm P hS hl
  have hl : lv_has ls 1 [(0, .ref he)] := hl
  have F : fH σ σ := fH.rf
  refine lv_aload_n S.1 S.2.1 d_He_init_0 rfl (lv_at hl 0 rfl) ?_
  refine W.objInit S.1 S.2.1 S.2.2.2.1 (S.2.2.2.2 _ wd_41) (S.2.2.2.2 _ wd_34) (S.2.2.2.2 _ wd_35) rfl (hl.1.trans S.2.2.1.symm) rfl d_He_init_1 (Nat.le_of_ble_eq_true rfl) (Nat.le_of_ble_eq_true rfl) ?_
  refine lv_aload_n S.1 S.2.1 d_He_init_4 rfl (lv_at hl 0 rfl) ?_
  refine lv_bipush (v := 32) S.1 S.2.1 d_He_init_5 (by decide) ?_
  refine so_newq 2 S K P hS E.2.1 (S.2.2.2.2 _ wd_42) (S.2.2.2.2 _ wd_43) 3 rfl (N' := 32) (by decide) (by decide) (by decide) (Nat.le_of_ble_eq_true rfl) (Nat.le_of_ble_eq_true rfl) d_He_init_7 (fun th H hq P hS => ?_)
  have hn1 : he ≠ th := fun e => by rw [← e, M0] at hq; cases hq
  have F := F.nw hq (y := (2, aR ca 3 32 (fun _ => none)))
  have M1 : so_up σ th (2, aR ca 3 32 (fun _ => none)) he = some (1, .inr (1, [.null, .null, .int 0, .int 0])) := by rw [so_un hn1]; exact M0
  refine pf_He_11_He S K P hS hnm M1 (Nat.le_of_ble_eq_true rfl) rfl rfl d_He_init_10 (fun H locs P hS => ?_)
  have F := F.up M1 (Or.inl rfl) (y := (1, .inr (1, [.ref th, .null, .int 0, .int 0])))
  have P : so_P D vcl s0.heap.size (so_up (so_up σ th (2, aR ca 3 32 (fun _ => none))) he (1, .inr (1, [.ref th, .null, .int 0, .int 0]))) H := P
  refine lv_aload_n S.1 S.2.1 d_He_init_13 rfl (lv_at hl 0 rfl) ?_
  refine lv_bipush (v := 32) S.1 S.2.1 d_He_init_14 (by decide) ?_
  refine so_newa (atype := .int) 3 S K P hS E.2.1 (S.2.2.2.2 _ wd_59) 0 rfl rfl (fun C h => by cases h) (N' := 32) (a0 := (32, .inl (fun _ => 0))) (fun _ => rfl) (by decide) (by decide) (by decide) (Nat.le_of_ble_eq_true rfl) (Nat.le_of_ble_eq_true rfl) d_He_init_16 (fun ho H hq2 P hS => ?_)
  have hn2 : he ≠ ho := fun e => by rw [← e, so_us] at hq2; cases hq2
  have hn3 : th ≠ ho := fun e => by rw [← e, so_un (Ne.symm hn1), so_us] at hq2; cases hq2
  have F := F.nw hq2 (y := (3, aI ca 32 (fun _ => 0)))
  have M2 : so_up (so_up (so_up σ th (2, aR ca 3 32 (fun _ => none))) he (1, .inr (1, [.ref th, .null, .int 0, .int 0]))) ho (3, aI ca 32 (fun _ => 0)) he = some (1, .inr (1, [.ref th, .null, .int 0, .int 0])) := by rw [so_un hn2]; exact so_us
  refine pf_He_17_He S K P hS hnm M2 (Nat.le_of_ble_eq_true rfl) rfl rfl d_He_init_18 (fun H locs P hS => ?_)
  have F := F.up M2 (Or.inl rfl) (y := (1, oHe th ho 0 0))
  refine so_vret S hr hlk P hS (Nat.le_of_ble_eq_true rfl) (Nat.le_of_ble_eq_true rfl) ⟨rfl, th, ho, ⟨so_us, ?_, ?_, fun i a _ h => (by cases h)⟩, F⟩ d_He_init_21
  · rw [so_un (Ne.symm hn1), so_un hn3, so_un (Ne.symm hn1), so_us]
    rfl
  · rw [so_un (Ne.symm hn2), so_us]
    rfl

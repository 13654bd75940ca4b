/-! Small methods of the tables. -/
section SM
variable {s0 : State} {D : va_G} {ca : Nat → ClassId} {σ : so_S}
set_option maxHeartbeats 400000 in
theorem c_Ta_takes (l : Launch) (hB : so_B tbl s0 D vcl (tyl ca)) (o : Nat) (x : Int32) : so_D l s0 D vcl y_Ta_takes b_Ta_takes 2 (some .boolean) 0 [.ref o, .int x] σ (fun v => v = some (.int (bI true))) := by
  refine so_ofR hB (by decide) (Nat.le_of_ble_eq_true rfl) ?_
  intro p e s m below meth c ls S K E hr hlk P hS hl
  refine lv_iconst (v := 1) S.1 S.2.1 d_Ta_takes_0 (by decide) ?_
  exact so_zretR S hr rfl hlk rfl d_Ta_takes_1
set_option maxHeartbeats 400000 in
theorem c_Ta_isFull (l : Launch) (hB : so_B tbl s0 D vcl (tyl ca)) (o : Nat) : so_D l s0 D vcl y_Ta_isFull b_Ta_isFull 1 (some .boolean) 0 [.ref o] σ (fun v => v = some (.int (bI false))) := by
  refine so_ofR hB (by decide) (Nat.le_of_ble_eq_true rfl) ?_
  intro p e s m below meth c ls S K E hr hlk P hS hl
  refine lv_iconst (v := 0) S.1 S.2.1 d_Ta_isFull_0 (by decide) ?_
  exact so_zretR S hr rfl hlk rfl d_Ta_isFull_1
set_option maxHeartbeats 400000 in
theorem c_Ta_tick (l : Launch) (hB : so_B tbl s0 D vcl (tyl ca)) (o : Nat) : so_D l s0 D vcl y_Ta_tick b_Ta_tick 1 none 0 [.ref o] σ (fun v => v = none) := by
  refine so_ofR hB (by decide) (Nat.le_of_ble_eq_true rfl) ?_
  intro p e s m below meth c ls S K E hr hlk P hS hl
  exact so_vretR S hr hlk rfl d_Ta_tick_0
set_option maxHeartbeats 400000 in
theorem c_Ta_use (l : Launch) (hB : so_B tbl s0 D vcl (tyl ca)) (o : Nat) (x : Int32) : so_D l s0 D vcl y_Ta_use b_Ta_use 2 none 0 [.ref o, .int x] σ (fun v => v = none) := by
  refine so_ofR hB (by decide) (Nat.le_of_ble_eq_true rfl) ?_
  intro p e s m below meth c ls S K E hr hlk P hS hl
  exact so_vretR S hr hlk rfl d_Ta_use_0
set_option maxHeartbeats 400000 in
theorem c_Ta_markOf (l : Launch) (hB : so_B tbl s0 D vcl (tyl ca)) (o : Nat) (x y : Int32) : so_D l s0 D vcl y_Ta_markOf b_Ta_markOf 3 (some .int) 0 [.ref o, .int x, .int y] σ (fun v => v = some (.int y)) := by
  refine so_ofR hB (by decide) (Nat.le_of_ble_eq_true rfl) ?_
  intro p e s m below meth c ls S K E hr hlk P hS hl
  have hl : lv_has ls 3 [(0, .ref o), (1, .int x), (2, .int y)] := hl
  refine lv_iload_n S.1 S.2.1 d_Ta_markOf_0 rfl (lv_at hl 2 rfl) ?_
  exact so_iretR S hr hlk rfl d_Ta_markOf_1
set_option maxHeartbeats 400000 in
theorem c_Ta_keyOf (l : Launch) (hB : so_B tbl s0 D vcl (tyl ca)) (o : Nat) (x y : Int32) : so_D l s0 D vcl y_Ta_keyOf b_Ta_keyOf 3 (some .int) 0 [.ref o, .int x, .int y] σ (fun v => v = some (.int x)) := by
  refine so_ofR hB (by decide) (Nat.le_of_ble_eq_true rfl) ?_
  intro p e s m below meth c ls S K E hr hlk P hS hl
  have hl : lv_has ls 3 [(0, .ref o), (1, .int x), (2, .int y)] := hl
  refine lv_iload_n S.1 S.2.1 d_Ta_keyOf_0 rfl (lv_at hl 1 rfl) ?_
  exact so_iretR S hr hlk rfl d_Ta_keyOf_1
set_option maxHeartbeats 400000 in
theorem c_Pl_takes (l : Launch) (hB : so_B tbl s0 D vcl (tyl ca)) (o : Nat) (x : Int32) : so_D l s0 D vcl y_Pl_takes b_Pl_takes 2 (some .boolean) 0 [.ref o, .int x] σ (fun v => v = some (.int (bI (decide (¬ 8 ≤ x))))) := by
  refine so_ofR hB (by decide) (Nat.le_of_ble_eq_true rfl) ?_
  intro p e s m below meth c ls S K E hr hlk P hS hl
  have hl : lv_has ls 2 [(0, .ref o), (1, .int x)] := hl
  refine lv_iload_n S.1 S.2.1 d_Pl_takes_0 rfl (lv_at hl 1 rfl) ?_
  refine lv_bipush (v := 8) S.1 S.2.1 d_Pl_takes_1 (by decide) ?_
  refine lv_icmp_ge (tgt := 10) S.1 S.2.1 d_Pl_takes_3 rfl (fun h3 => ?_) (fun h3 => ?_)
  · refine lv_iconst (v := 0) S.1 S.2.1 d_Pl_takes_10 (by decide) ?_
    refine so_zretR S hr rfl hlk ?_ d_Pl_takes_11
    rw [decide_eq_false (fun z => z h3)]; rfl
  · refine lv_iconst (v := 1) S.1 S.2.1 d_Pl_takes_6 (by decide) ?_
    refine lv_goto (tgt := 11) S.1 S.2.1 d_Pl_takes_7 rfl ?_
    refine so_zretR S hr rfl hlk ?_ d_Pl_takes_11
    rw [decide_eq_true h3]; rfl
set_option maxHeartbeats 400000 in
theorem c_So_tick (l : Launch) (hB : so_B tbl s0 D vcl (tyl ca)) {o tg : Nat} {hw br wk tm : Int32} {row : Nat} (M : σ o = some (tg, oSo hw br wk row tm)) : so_C l s0 D vcl y_So_tick b_So_tick 1 none 0 0 0 [.ref o] σ (fun v σ1 => v = none ∧ σ1 = so_up σ o (tg, oSo hw br wk row (tm + 1))) := by
  refine so_of hB (by decide) (Nat.le_of_ble_eq_true rfl) ?_
  intro p e s m below meth c ls S K E hr hlk hnm P hS hl
  have hl : lv_has ls 1 [(0, .ref o)] := hl
  refine lv_aload_n S.1 S.2.1 d_So_tick_0 rfl (lv_at hl 0 rfl) ?_
  refine lv_dup S.1 S.2.1 d_So_tick_1 rfl ?_
  refine gf_So_9_So S K P M rfl d_So_tick_2 ?_
  refine lv_iconst (v := 1) S.1 S.2.1 d_So_tick_5 (by decide) ?_
  refine lv_iadd S.1 S.2.1 d_So_tick_6 ?_
  refine pf_So_9_So S K P hS M (Nat.le_of_ble_eq_true rfl) rfl rfl d_So_tick_7 (fun H locs P hS => ?_)
  exact so_vret S hr hlk P hS (Nat.le_refl _) (Nat.le_refl _) ⟨rfl, rfl⟩ d_So_tick_10
end SM

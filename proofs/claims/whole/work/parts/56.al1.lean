/-! ArrayList: what reads. -/
set_option maxHeartbeats 400000 in
set_option maxRecDepth 100000 in
theorem c_AL_size (l : Launch) {s0 : State} {D : va_G} {ca : Nat → ClassId} (hB : so_B tbl s0 D vcl (tyl ca)) {σ : so_S} {al tg ed te : Nat} {md : Int32} {n cap : Nat} {f : Nat → Option Nat} (h1 : σ al = some (tg, oAL md ed (nI n))) : so_D l s0 D vcl y_AL_size b_AL_size 1 (some .int) 0 [.ref al] σ (fun v => v = some (.int (nI n))) := by
  refine so_ofR hB (by decide) (Nat.le_of_ble_eq_true rfl) ?_
  intro p e s m below meth c ls S K E hr hlk P hS hl
  have hl : lv_has ls 1 [(0, .ref al)] := hl
  refine lv_aload_n S.1 S.2.1 d_AL_size_0 rfl (lv_at hl 0 rfl) ?_
  refine gf_AL_48_AL S K P h1 rfl d_AL_size_1 ?_
  refine so_iretR S hr hlk ?_ d_AL_size_4
  rfl
set_option maxHeartbeats 400000 in
set_option maxRecDepth 100000 in
theorem c_AL_elementData (l : Launch) {s0 : State} {D : va_G} {ca : Nat → ClassId} (hB : so_B tbl s0 D vcl (tyl ca)) {σ : so_S} {al tg ed te : Nat} {md : Int32} {n cap : Nat} {f : Nat → Option Nat} (h1 : σ al = some (tg, oAL md ed (nI n))) (h2 : σ ed = some (te, aR ca 6 cap f)) (hcap : cap < 2 ^ 31) (j : Nat) (hj : j < cap) : so_D l s0 D vcl y_AL_elementData b_AL_elementData 2 (some (.object "java/lang/Object")) 0 [.ref al, .int (nI j)] σ (fun v => v = some (va_rf (f j))) := by
  refine so_ofR hB (by decide) (Nat.le_of_ble_eq_true rfl) ?_
  intro p e s m below meth c ls S K E hr hlk P hS hl
  have hl : lv_has ls 2 [(0, .ref al), (1, .int (nI j))] := hl
  refine lv_aload_n S.1 S.2.1 d_AL_elementData_0 rfl (lv_at hl 0 rfl) ?_
  refine gf_AL_9_AL S K P h1 rfl d_AL_elementData_1 ?_
  refine lv_iload_n S.1 S.2.1 d_AL_elementData_4 rfl (lv_at hl 1 rfl) ?_
  refine so_aaldN S K P h2 6 rfl hj hcap d_AL_elementData_5 ?_
  refine so_aretR S hr (Or.inl ⟨_, rfl⟩) hlk ?_ d_AL_elementData_6
  rfl
set_option maxHeartbeats 400000 in
set_option maxRecDepth 100000 in
theorem c_Pr_checkIndex (l : Launch) {s0 : State} {D : va_G} {ca : Nat → ClassId} (hB : so_B tbl s0 D vcl (tyl ca)) {σ : so_S} (j n : Nat) (hj : j < n) (hn : n < 2 ^ 31) : so_D l s0 D vcl y_Pr_checkIndex b_Pr_checkIndex 3 (some .int) 0 [.int (nI j), .int (nI n), .null] σ (fun v => v = some (.int (nI j))) := by
  refine so_ofR hB (by decide) (Nat.le_of_ble_eq_true rfl) ?_
  intro p e s m below meth c ls S K E hr hlk P hS hl
  have hl : lv_has ls 3 [(0, .int (nI j)), (1, .int (nI n)), (2, .null)] := hl
  refine lv_iload_n S.1 S.2.1 d_Pr_checkIndex_0 rfl (lv_at hl 0 rfl) ?_
  refine lv_if_lt (tgt := 9) S.1 S.2.1 d_Pr_checkIndex_1 rfl (fun h1 => ?_) (fun h1 => ?_)
  · first
      | exact absurd h1 (nI_pos (by omega))
      | exact absurd (nI_lt hj hn) h6
  · refine lv_iload_n S.1 S.2.1 d_Pr_checkIndex_4 rfl (lv_at hl 0 rfl) ?_
    refine lv_iload_n S.1 S.2.1 d_Pr_checkIndex_5 rfl (lv_at hl 1 rfl) ?_
    refine lv_icmp_lt (tgt := 16) S.1 S.2.1 d_Pr_checkIndex_6 rfl (fun h6 => ?_) (fun h6 => ?_)
    · refine lv_iload_n S.1 S.2.1 d_Pr_checkIndex_16 rfl (lv_at hl 0 rfl) ?_
      refine so_iretR S hr hlk ?_ d_Pr_checkIndex_17
      rfl
    · first
        | exact absurd h1 (nI_pos (by omega))
        | exact absurd (nI_lt hj hn) h6
set_option maxHeartbeats 400000 in
set_option maxRecDepth 100000 in
theorem c_Os_checkIndex (l : Launch) {s0 : State} {D : va_G} {ca : Nat → ClassId} (hB : so_B tbl s0 D vcl (tyl ca)) {σ : so_S} (j n : Nat) (hj : j < n) (hn : n < 2 ^ 31) : so_D l s0 D vcl y_Os_checkIndex b_Os_checkIndex 2 (some .int) 1 [.int (nI j), .int (nI n)] σ (fun v => v = some (.int (nI j))) := by
  refine so_ofR hB (by decide) (Nat.le_of_ble_eq_true rfl) ?_
  intro p e s m below meth c ls S K E hr hlk P hS hl
  have hl : lv_has ls 2 [(0, .int (nI j)), (1, .int (nI n))] := hl
  refine lv_iload_n S.1 S.2.1 d_Os_checkIndex_0 rfl (lv_at hl 0 rfl) ?_
  refine lv_iload_n S.1 S.2.1 d_Os_checkIndex_1 rfl (lv_at hl 1 rfl) ?_
  refine lv_null S.1 S.2.1 d_Os_checkIndex_2 ?_
  refine so_callR (cs_Os_105 S hB E P hS (c_Pr_checkIndex l hB j n hj hn) rfl (by decide) (Nat.le_refl _) (Nat.le_refl _) hl.1 rfl (Nat.le_of_ble_eq_true rfl) d_Os_checkIndex_3) (fun v hv => ?_)
  subst hv
  refine so_iretR S hr hlk ?_ d_Os_checkIndex_6
  rfl
set_option maxHeartbeats 400000 in
set_option maxRecDepth 100000 in
theorem c_AL_get (l : Launch) {s0 : State} {D : va_G} {ca : Nat → ClassId} (hB : so_B tbl s0 D vcl (tyl ca)) {σ : so_S} {al tg ed te : Nat} {md : Int32} {n cap : Nat} {f : Nat → Option Nat} (h1 : σ al = some (tg, oAL md ed (nI n))) (h2 : σ ed = some (te, aR ca 6 cap f)) (hcap : cap < 2 ^ 31) (hnc : n ≤ cap) (j : Nat) (hj : j < n) : so_D l s0 D vcl y_AL_get b_AL_get 2 (some (.object "java/lang/Object")) 2 [.ref al, .int (nI j)] σ (fun v => v = some (va_rf (f j))) := by
  refine so_ofR hB (by decide) (Nat.le_of_ble_eq_true rfl) ?_
  intro p e s m below meth c ls S K E hr hlk P hS hl
  have hl : lv_has ls 2 [(0, .ref al), (1, .int (nI j))] := hl
  refine lv_iload_n S.1 S.2.1 d_AL_get_0 rfl (lv_at hl 1 rfl) ?_
  refine lv_aload_n S.1 S.2.1 d_AL_get_1 rfl (lv_at hl 0 rfl) ?_
  refine gf_AL_48_AL S K P h1 rfl d_AL_get_2 ?_
  refine so_callR (cs_AL_118 S hB E P hS (c_Os_checkIndex l hB j n hj (by omega)) rfl (by decide) (Nat.le_refl _) (Nat.le_refl _) hl.1 rfl (Nat.le_of_ble_eq_true rfl) d_AL_get_5) (fun v hv => ?_)
  subst hv
  refine lv_pop S.1 S.2.1 d_AL_get_8 rfl ?_
  refine lv_aload_n S.1 S.2.1 d_AL_get_9 rfl (lv_at hl 0 rfl) ?_
  refine lv_iload_n S.1 S.2.1 d_AL_get_10 rfl (lv_at hl 1 rfl) ?_
  refine so_callR (cv_AL_123_AL S hB K E P hS h1 (c_AL_elementData l hB h1 h2 hcap j (by omega)) rfl (by decide) (Nat.le_refl _) (Nat.le_refl _) hl.1 rfl (Nat.le_of_ble_eq_true rfl) d_AL_get_11) (fun v hv => ?_)
  subst hv
  refine so_aretR S hr (Or.inl ⟨_, rfl⟩) hlk ?_ d_AL_get_14
  rfl
set_option maxHeartbeats 400000 in
set_option maxRecDepth 100000 in
theorem c_AL_rangeCheckForAdd (l : Launch) {s0 : State} {D : va_G} {ca : Nat → ClassId} (hB : so_B tbl s0 D vcl (tyl ca)) {σ : so_S} {al tg ed te : Nat} {md : Int32} {n cap : Nat} {f : Nat → Option Nat} (h1 : σ al = some (tg, oAL md ed (nI n))) (j : Nat) (hj : j ≤ n) (hn : n < 2 ^ 31) : so_D l s0 D vcl y_AL_rangeCheckForAdd b_AL_rangeCheckForAdd 2 none 0 [.ref al, .int (nI j)] σ (fun v => v = none) := by
  refine so_ofR hB (by decide) (Nat.le_of_ble_eq_true rfl) ?_
  intro p e s m below meth c ls S K E hr hlk P hS hl
  have hl : lv_has ls 2 [(0, .ref al), (1, .int (nI j))] := hl
  refine lv_iload_n S.1 S.2.1 d_AL_rangeCheckForAdd_0 rfl (lv_at hl 1 rfl) ?_
  refine lv_aload_n S.1 S.2.1 d_AL_rangeCheckForAdd_1 rfl (lv_at hl 0 rfl) ?_
  refine gf_AL_48_AL S K P h1 rfl d_AL_rangeCheckForAdd_2 ?_
  refine lv_icmp_gt (tgt := 12) S.1 S.2.1 d_AL_rangeCheckForAdd_5 rfl (fun h5 => ?_) (fun h5 => ?_)
  · first
      | exact absurd h5 (nI_nlt hj hn)
      | exact absurd (nI_pos' (by omega)) h9
  · refine lv_iload_n S.1 S.2.1 d_AL_rangeCheckForAdd_8 rfl (lv_at hl 1 rfl) ?_
    refine lv_if_ge (tgt := 25) S.1 S.2.1 d_AL_rangeCheckForAdd_9 rfl (fun h9 => ?_) (fun h9 => ?_)
    · refine so_vretR S hr hlk ?_ d_AL_rangeCheckForAdd_25
      rfl
    · first
        | exact absurd h5 (nI_nlt hj hn)
        | exact absurd (nI_pos' (by omega)) h9

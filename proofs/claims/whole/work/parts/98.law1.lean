/-! The law's helpers: a call of the class, its refusal as a number, its answer in the long row (wip/tools/m_law1.py). -/
theorem in_01 : vp_in (0 : Int32) 1 := by unfold vp_in; decide
theorem ag_out {ca : Nat → ClassId} {σ : so_S} {out : Nat} {f : Nat → Int64} {y : so_E} (O : outR ca σ out f) : agT tC σ (so_up σ out y) := ag_up O tC_7
def tL7 (t : Nat) : Prop := tC t ∨ t = 7
def bJ (b : Bool) : Int64 := if b then 1 else 0
section LW1
variable {s0 : State} {D : va_G} {ca : Nat → ClassId} {σ : so_S} {DE hm mi n0 out : Nat} {B : Bx} {st : Mst} {f : Nat → Int64}
set_option maxHeartbeats 400000 in
theorem c_Lw_make (l : Launch) (hB : so_B tbl s0 D vcl (tyl ca)) (hX : exX l s0) (M : HmM ca DE σ hm B st) (O : outR ca σ out f) (hi : invS n0 st) (x : Int32) : so_CW l s0 D vcl y_Lw_make b_Lw_make 4 (some .int) [(0, 9, 12, 13), (0, 9, 15, 15)] 10 2 6 [.ref hm, .int x, .ref out] σ (fun v σ1 => ∃ r w1 t f1, v = some (.int (nI r)) ∧ sMake st x r w1 t ∧ HmM ca DE σ1 hm B t ∧ outR ca σ1 out f1 ∧ (r = 0 → f1 0 = w1.toInt64) ∧ r ≤ 3 ∧ fT tL7 σ σ1) := by
  refine so_ofW hB (by decide) (Nat.le_of_ble_eq_true rfl) ?_
  intro p e s m below meth c ls S K E hr hlk hex P hS hl
  have hl : lv_has ls 4 [(0, .ref hm), (1, .int x), (2, .ref out)] := hl
  have M0 := M
  obtain ⟨X, L, sl, ⟨he, -⟩, -⟩ := M0
  refine lv_aload_n S.1 S.2.1 d_Lw_make_0 rfl (lv_at hl 2 rfl) ?_
  refine lv_iconst (v := 0) S.1 S.2.1 d_Lw_make_1 (by decide) ?_
  refine lv_aload_n S.1 S.2.1 d_Lw_make_2 rfl (lv_at hl 0 rfl) ?_
  refine lv_iload_n S.1 S.2.1 d_Lw_make_3 rfl (lv_at hl 1 rfl) ?_
  refine so_callT S hB K E P hS (t_make l hB hX M hi x) he rfl wd_250 wd_251 wd_252 wd_253 wd_1 ⟨by decide +kernel, by decide +kernel, by show _ = some 1; decide +kernel⟩ (by decide) (by decide) (Nat.le_of_ble_eq_true rfl) (Nat.le_of_ble_eq_true rfl) hl.1 rfl (Nat.le_of_ble_eq_true rfl) d_Lw_make_4 (fun v σ1 H1 locs1 hv P1 hS1 => ?_) (fun x1 C1 H1 locs1 hC hcell P1 hS1 => ?_)
  · obtain ⟨w1, t, rfl, hs, hM1, hF⟩ := hv
    have O1 : outR ca σ1 out f := hF _ _ O tC_7
    refine lv_i2l S.1 S.2.1 d_Lw_make_7 rfl ?_
    refine so_last S K P1 hS1 O1 2 rfl in_01 d_Lw_make_8 (fun H2 locs2 P2 hS2 => ?_)
    refine lv_goto (tgt := 18) S.1 S.2.1 d_Lw_make_9 rfl ?_
    refine lv_iconst (v := 0) S.1 S.2.1 d_Lw_make_18 (by decide) ?_
    exact so_iret S hr hlk P2 hS2 (Nat.le_refl _) (Nat.le_refl _) ⟨0, w1, t, _, rfl, hs, hM1.ag (ag_out O1), so_us, fun _ => rfl, by decide, (hF.mono (fun t => Or.inl)).up O1 (Or.inr rfl)⟩ d_Lw_make_19
  · rcases hC with ⟨rfl, hs⟩ | ⟨rfl, hs⟩
    · refine WT_tab S (hpre := []) hex (fun q hq => by cases hq) ⟨by decide, by decide⟩ (by decide) wd_248 wd_256 hcell ?_
      refine lv_astore_n S.1 S.2.1 d_Lw_make_12 rfl hl (by decide) rfl (fun ls hl => ?_)
      refine lv_iconst (v := 1) S.1 S.2.1 d_Lw_make_13 (by decide) ?_
      exact so_iret S hr hlk P1 hS1 (Nat.le_refl _) (Nat.le_refl _) ⟨1, 0, st, f, rfl, hs, M, O, fun z => absurd z (by decide), by decide, fT.rf⟩ d_Lw_make_14
    · refine WT_tab S (hpre := [(0, 9, 12, 13)]) hex (fun q hq => by
        rcases List.mem_cons.mp hq with rfl | hq
        · exact ⟨⟨by decide, by decide⟩, by decide, _, wd_248, nA.moved E.1.alike hX.2.2.2.1⟩
        cases hq) ⟨by decide, by decide⟩ (by decide) wd_249 wd_328 hcell ?_
      refine lv_astore_n S.1 S.2.1 d_Lw_make_15 rfl hl (by decide) rfl (fun ls hl => ?_)
      refine lv_iconst (v := 2) S.1 S.2.1 d_Lw_make_16 (by decide) ?_
      exact so_iret S hr hlk P1 hS1 (Nat.le_refl _) (Nat.le_refl _) ⟨2, 0, st, f, rfl, hs, M, O, fun z => absurd z (by decide), by decide, fT.rf⟩ d_Lw_make_17
set_option maxHeartbeats 400000 in
theorem c_Lw_refer (l : Launch) (hB : so_B tbl s0 D vcl (tyl ca)) (hX : exX l s0) (M : HmM ca DE σ hm B st) (O : outR ca σ out f) (x w y : Int32) : so_CW l s0 D vcl y_Lw_refer b_Lw_refer 6 (some .int) [(0, 12, 15, 13)] 10 1 6 [.ref hm, .int x, .int w, .int y, .ref out] σ (fun v σ1 => ∃ r w1 t f1, v = some (.int (nI r)) ∧ sRefer st x w y r w1 t ∧ HmM ca DE σ1 hm B t ∧ outR ca σ1 out f1 ∧ (r = 0 → f1 0 = w1.toInt64) ∧ r ≤ 3 ∧ fT tL7 σ σ1) := by
  refine so_ofW hB (by decide) (Nat.le_of_ble_eq_true rfl) ?_
  intro p e s m below meth c ls S K E hr hlk hex P hS hl
  have hl : lv_has ls 6 [(0, .ref hm), (1, .int x), (2, .int w), (3, .int y), (4, .ref out)] := hl
  have M0 := M
  obtain ⟨X, L, sl, ⟨he, -⟩, -⟩ := M0
  refine lv_aload S.1 S.2.1 d_Lw_refer_0 (lv_at hl 4 rfl) ?_
  refine lv_iconst (v := 0) S.1 S.2.1 d_Lw_refer_2 (by decide) ?_
  refine lv_aload_n S.1 S.2.1 d_Lw_refer_3 rfl (lv_at hl 0 rfl) ?_
  refine lv_iload_n S.1 S.2.1 d_Lw_refer_4 rfl (lv_at hl 1 rfl) ?_
  refine lv_iload_n S.1 S.2.1 d_Lw_refer_5 rfl (lv_at hl 2 rfl) ?_
  refine lv_iload_n S.1 S.2.1 d_Lw_refer_6 rfl (lv_at hl 3 rfl) ?_
  refine so_callT S hB K E P hS (t_refer l hB hX M x w y) he rfl wd_368 wd_369 wd_370 wd_371 wd_1 ⟨by decide +kernel, by decide +kernel, by show _ = some 3; decide +kernel⟩ (by decide) (by decide) (Nat.le_of_ble_eq_true rfl) (Nat.le_of_ble_eq_true rfl) hl.1 rfl (Nat.le_of_ble_eq_true rfl) d_Lw_refer_7 (fun v σ1 H1 locs1 hv P1 hS1 => ?_) (fun x1 C1 H1 locs1 hC hcell P1 hS1 => ?_)
  · obtain ⟨w1, t, rfl, hs, hM1, hF⟩ := hv
    have O1 : outR ca σ1 out f := hF _ _ O tC_7
    refine lv_i2l S.1 S.2.1 d_Lw_refer_10 rfl ?_
    refine so_last S K P1 hS1 O1 2 rfl in_01 d_Lw_refer_11 (fun H2 locs2 P2 hS2 => ?_)
    refine lv_goto (tgt := 19) S.1 S.2.1 d_Lw_refer_12 rfl ?_
    refine lv_iconst (v := 0) S.1 S.2.1 d_Lw_refer_19 (by decide) ?_
    exact so_iret S hr hlk P2 hS2 (Nat.le_refl _) (Nat.le_refl _) ⟨0, w1, t, _, rfl, hs, hM1.ag (ag_out O1), so_us, fun _ => rfl, by decide, (hF.mono (fun t => Or.inl)).up O1 (Or.inr rfl)⟩ d_Lw_refer_20
  · obtain ⟨rfl, hs⟩ := hC
    refine WT_tab S (hpre := []) hex (fun q hq => by cases hq) ⟨by decide, by decide⟩ (by decide) wd_248 wd_256 hcell ?_
    refine lv_astore S.1 S.2.1 d_Lw_refer_15 hl (by decide) rfl (fun ls hl => ?_)
    refine lv_iconst (v := 1) S.1 S.2.1 d_Lw_refer_17 (by decide) ?_
    exact so_iret S hr hlk P1 hS1 (Nat.le_refl _) (Nat.le_refl _) ⟨1, 0, st, f, rfl, hs, M, O, fun z => absurd z (by decide), by decide, fT.rf⟩ d_Lw_refer_18
set_option maxHeartbeats 400000 in
theorem c_Lw_root (l : Launch) (hB : so_B tbl s0 D vcl (tyl ca)) (hX : exX l s0) (M : HmM ca DE σ hm B st) (O : outR ca σ out f) (x : Int32) (b : Bool) : so_CW l s0 D vcl y_Lw_root b_Lw_root 5 (some .int) [(0, 17, 20, 13)] 10 1 6 [.ref hm, .int x, .int (bI b), .ref out] σ (fun v σ1 => ∃ r b1 t f1, v = some (.int (nI r)) ∧ sRoot st x b r (bI b1) t ∧ HmM ca DE σ1 hm B t ∧ outR ca σ1 out f1 ∧ (r = 0 → f1 0 = bJ b1) ∧ r ≤ 3 ∧ fT tL7 σ σ1) := by
  refine so_ofW hB (by decide) (Nat.le_of_ble_eq_true rfl) ?_
  intro p e s m below meth c ls S K E hr hlk hex P hS hl
  have hl : lv_has ls 5 [(0, .ref hm), (1, .int x), (2, .int (bI b)), (3, .ref out)] := hl
  have M0 := M
  obtain ⟨X, L, sl, ⟨he, -⟩, -⟩ := M0
  refine lv_aload_n S.1 S.2.1 d_Lw_root_0 rfl (lv_at hl 3 rfl) ?_
  refine lv_iconst (v := 0) S.1 S.2.1 d_Lw_root_1 (by decide) ?_
  refine lv_aload_n S.1 S.2.1 d_Lw_root_2 rfl (lv_at hl 0 rfl) ?_
  refine lv_iload_n S.1 S.2.1 d_Lw_root_3 rfl (lv_at hl 1 rfl) ?_
  refine lv_iload_n S.1 S.2.1 d_Lw_root_4 rfl (lv_at hl 2 rfl) ?_
  refine so_callT S hB K E P hS (t_root l hB hX M x b) he rfl wd_377 wd_378 wd_379 wd_380 wd_1 ⟨by decide +kernel, by decide +kernel, by show _ = some 2; decide +kernel⟩ (by decide) (by decide) (Nat.le_of_ble_eq_true rfl) (Nat.le_of_ble_eq_true rfl) hl.1 rfl (Nat.le_of_ble_eq_true rfl) d_Lw_root_5 (fun v σ1 H1 locs1 hv P1 hS1 => ?_) (fun x1 C1 H1 locs1 hC hcell P1 hS1 => ?_)
  · obtain ⟨b1, t, rfl, hs, hM1, hF⟩ := hv
    have O1 : outR ca σ1 out f := hF _ _ O tC_7
    refine lv_if_eq (tgt := 15) S.1 S.2.1 d_Lw_root_8 rfl (fun h8 => ?_) (fun h8 => ?_)
    · have hb : b1 = false := (bI_0 _).mp h8
      refine lv_lconst (v := 0) S.1 S.2.1 d_Lw_root_15 (by decide) ?_
      refine so_last S K P1 hS1 O1 2 rfl in_01 d_Lw_root_16 (fun H2 locs2 P2 hS2 => ?_)
      refine lv_goto (tgt := 24) S.1 S.2.1 d_Lw_root_17 rfl ?_
      refine lv_iconst (v := 0) S.1 S.2.1 d_Lw_root_24 (by decide) ?_
      exact so_iret S hr hlk P2 hS2 (Nat.le_refl _) (Nat.le_refl _) ⟨0, b1, t, _, rfl, hs, hM1.ag (ag_out O1), so_us, fun _ => by rw [hb]; rfl, by decide, (hF.mono (fun t => Or.inl)).up O1 (Or.inr rfl)⟩ d_Lw_root_25
    · have hb : b1 = true := by cases b1 with
        | true => rfl
        | false => exact absurd rfl h8
      refine lv_lconst (v := 1) S.1 S.2.1 d_Lw_root_11 (by decide) ?_
      refine lv_goto (tgt := 16) S.1 S.2.1 d_Lw_root_12 rfl ?_
      refine so_last S K P1 hS1 O1 2 rfl in_01 d_Lw_root_16 (fun H2 locs2 P2 hS2 => ?_)
      refine lv_goto (tgt := 24) S.1 S.2.1 d_Lw_root_17 rfl ?_
      refine lv_iconst (v := 0) S.1 S.2.1 d_Lw_root_24 (by decide) ?_
      exact so_iret S hr hlk P2 hS2 (Nat.le_refl _) (Nat.le_refl _) ⟨0, b1, t, _, rfl, hs, hM1.ag (ag_out O1), so_us, fun _ => by rw [hb]; rfl, by decide, (hF.mono (fun t => Or.inl)).up O1 (Or.inr rfl)⟩ d_Lw_root_25
  · obtain ⟨rfl, hs⟩ := hC
    refine WT_tab S (hpre := []) hex (fun q hq => by cases hq) ⟨by decide, by decide⟩ (by decide) wd_248 wd_256 hcell ?_
    refine lv_astore S.1 S.2.1 d_Lw_root_20 hl (by decide) rfl (fun ls hl => ?_)
    refine lv_iconst (v := 1) S.1 S.2.1 d_Lw_root_22 (by decide) ?_
    exact so_iret S hr hlk P1 hS1 (Nat.le_refl _) (Nat.le_refl _) ⟨1, false, st, f, rfl, hs, M, O, fun z => absurd z (by decide), by decide, fT.rf⟩ d_Lw_root_23
set_option maxHeartbeats 400000 in
theorem c_Lw_put (l : Launch) (hB : so_B tbl s0 D vcl (tyl ca)) (hX : exX l s0) (J : jX s0 D ca DE mi) (M : HmM ca DE σ hm B st) (O : outR ca σ out f) (hi : invS n0 st) (x kx vx : Int32) : so_CW l s0 D vcl y_Lw_put b_Lw_put 6 (some .int) [(0, 12, 15, 13), (0, 12, 19, 15)] 10 82 5188 [.ref hm, .int x, .int kx, .int vx, .ref out] σ (fun v σ1 => ∃ r w1 t f1, v = some (.int (nI r)) ∧ sPut st x kx vx r w1 t ∧ HmM ca DE σ1 hm B t ∧ outR ca σ1 out f1 ∧ (r = 0 → f1 0 = w1.toInt64) ∧ r ≤ 3 ∧ fT tL7 σ σ1) := by
  refine so_ofW hB (by decide) (Nat.le_of_ble_eq_true rfl) ?_
  intro p e s m below meth c ls S K E hr hlk hex P hS hl
  have hl : lv_has ls 6 [(0, .ref hm), (1, .int x), (2, .int kx), (3, .int vx), (4, .ref out)] := hl
  have M0 := M
  obtain ⟨X, L, sl, ⟨he, -⟩, -⟩ := M0
  refine lv_aload S.1 S.2.1 d_Lw_put_0 (lv_at hl 4 rfl) ?_
  refine lv_iconst (v := 0) S.1 S.2.1 d_Lw_put_2 (by decide) ?_
  refine lv_aload_n S.1 S.2.1 d_Lw_put_3 rfl (lv_at hl 0 rfl) ?_
  refine lv_iload_n S.1 S.2.1 d_Lw_put_4 rfl (lv_at hl 1 rfl) ?_
  refine lv_iload_n S.1 S.2.1 d_Lw_put_5 rfl (lv_at hl 2 rfl) ?_
  refine lv_iload_n S.1 S.2.1 d_Lw_put_6 rfl (lv_at hl 3 rfl) ?_
  refine so_callT S hB K E P hS (t_put l hB hX J M hi x kx vx) he rfl wd_385 wd_386 wd_387 wd_388 wd_1 ⟨by decide +kernel, by decide +kernel, by show _ = some 3; decide +kernel⟩ (by decide) (by decide) (Nat.le_of_ble_eq_true rfl) (Nat.le_of_ble_eq_true rfl) hl.1 rfl (Nat.le_of_ble_eq_true rfl) d_Lw_put_7 (fun v σ1 H1 locs1 hv P1 hS1 => ?_) (fun x1 C1 H1 locs1 hC hcell P1 hS1 => ?_)
  · obtain ⟨w1, t, rfl, hs, hM1, hF⟩ := hv
    have O1 : outR ca σ1 out f := hF _ _ O tC_7
    refine lv_i2l S.1 S.2.1 d_Lw_put_10 rfl ?_
    refine so_last S K P1 hS1 O1 2 rfl in_01 d_Lw_put_11 (fun H2 locs2 P2 hS2 => ?_)
    refine lv_goto (tgt := 23) S.1 S.2.1 d_Lw_put_12 rfl ?_
    refine lv_iconst (v := 0) S.1 S.2.1 d_Lw_put_23 (by decide) ?_
    exact so_iret S hr hlk P2 hS2 (Nat.le_refl _) (Nat.le_refl _) ⟨0, w1, t, _, rfl, hs, hM1.ag (ag_out O1), so_us, fun _ => rfl, by decide, (hF.mono (fun t => Or.inl)).up O1 (Or.inr rfl)⟩ d_Lw_put_24
  · rcases hC with ⟨rfl, hs⟩ | ⟨rfl, hs⟩
    · refine WT_tab S (hpre := []) hex (fun q hq => by cases hq) ⟨by decide, by decide⟩ (by decide) wd_248 wd_256 hcell ?_
      refine lv_astore S.1 S.2.1 d_Lw_put_15 hl (by decide) rfl (fun ls hl => ?_)
      refine lv_iconst (v := 1) S.1 S.2.1 d_Lw_put_17 (by decide) ?_
      exact so_iret S hr hlk P1 hS1 (Nat.le_refl _) (Nat.le_refl _) ⟨1, 0, st, f, rfl, hs, M, O, fun z => absurd z (by decide), by decide, fT.rf⟩ d_Lw_put_18
    · refine WT_tab S (hpre := [(0, 12, 15, 13)]) hex (fun q hq => by
        rcases List.mem_cons.mp hq with rfl | hq
        · exact ⟨⟨by decide, by decide⟩, by decide, _, wd_248, nA.moved E.1.alike hX.2.2.2.1⟩
        cases hq) ⟨by decide, by decide⟩ (by decide) wd_249 wd_328 hcell ?_
      refine lv_astore S.1 S.2.1 d_Lw_put_19 hl (by decide) rfl (fun ls hl => ?_)
      refine lv_iconst (v := 2) S.1 S.2.1 d_Lw_put_21 (by decide) ?_
      exact so_iret S hr hlk P1 hS1 (Nat.le_refl _) (Nat.le_refl _) ⟨2, 0, st, f, rfl, hs, M, O, fun z => absurd z (by decide), by decide, fT.rf⟩ d_Lw_put_22
set_option maxHeartbeats 400000 in
theorem c_Lw_get (l : Launch) (hB : so_B tbl s0 D vcl (tyl ca)) (hX : exX l s0) (J : jX s0 D ca DE mi) (M : HmM ca DE σ hm B st) (O : outR ca σ out f) (hi : invS n0 st) (x kx : Int32) : so_CW l s0 D vcl y_Lw_get b_Lw_get 5 (some .int) [(0, 10, 13, 13)] 10 1 64 [.ref hm, .int x, .int kx, .ref out] σ (fun v σ1 => ∃ r w1 t f1, v = some (.int (nI r)) ∧ sGet st x kx r w1 t ∧ HmM ca DE σ1 hm B t ∧ outR ca σ1 out f1 ∧ (r = 0 → f1 0 = w1.toInt64) ∧ r ≤ 3 ∧ fT tL7 σ σ1) := by
  refine so_ofW hB (by decide) (Nat.le_of_ble_eq_true rfl) ?_
  intro p e s m below meth c ls S K E hr hlk hex P hS hl
  have hl : lv_has ls 5 [(0, .ref hm), (1, .int x), (2, .int kx), (3, .ref out)] := hl
  have M0 := M
  obtain ⟨X, L, sl, ⟨he, -⟩, -⟩ := M0
  refine lv_aload_n S.1 S.2.1 d_Lw_get_0 rfl (lv_at hl 3 rfl) ?_
  refine lv_iconst (v := 0) S.1 S.2.1 d_Lw_get_1 (by decide) ?_
  refine lv_aload_n S.1 S.2.1 d_Lw_get_2 rfl (lv_at hl 0 rfl) ?_
  refine lv_iload_n S.1 S.2.1 d_Lw_get_3 rfl (lv_at hl 1 rfl) ?_
  refine lv_iload_n S.1 S.2.1 d_Lw_get_4 rfl (lv_at hl 2 rfl) ?_
  refine so_callT S hB K E P hS (t_get l hB hX J M hi x kx) he rfl wd_680 wd_681 wd_682 wd_683 wd_1 ⟨by decide +kernel, by decide +kernel, by show _ = some 2; decide +kernel⟩ (by decide) (by decide) (Nat.le_of_ble_eq_true rfl) (Nat.le_of_ble_eq_true rfl) hl.1 rfl (Nat.le_of_ble_eq_true rfl) d_Lw_get_5 (fun v σ1 H1 locs1 hv P1 hS1 => ?_) (fun x1 C1 H1 locs1 hC hcell P1 hS1 => ?_)
  · obtain ⟨w1, t, rfl, hs, hM1, hF⟩ := hv
    have O1 : outR ca σ1 out f := hF _ _ O tC_7
    refine lv_i2l S.1 S.2.1 d_Lw_get_8 rfl ?_
    refine so_last S K P1 hS1 O1 2 rfl in_01 d_Lw_get_9 (fun H2 locs2 P2 hS2 => ?_)
    refine lv_goto (tgt := 17) S.1 S.2.1 d_Lw_get_10 rfl ?_
    refine lv_iconst (v := 0) S.1 S.2.1 d_Lw_get_17 (by decide) ?_
    exact so_iret S hr hlk P2 hS2 (Nat.le_refl _) (Nat.le_refl _) ⟨0, w1, t, _, rfl, hs, hM1.ag (ag_out O1), so_us, fun _ => rfl, by decide, (hF.mono (fun t => Or.inl)).up O1 (Or.inr rfl)⟩ d_Lw_get_18
  · obtain ⟨rfl, hs⟩ := hC
    refine WT_tab S (hpre := []) hex (fun q hq => by cases hq) ⟨by decide, by decide⟩ (by decide) wd_248 wd_256 hcell ?_
    refine lv_astore S.1 S.2.1 d_Lw_get_13 hl (by decide) rfl (fun ls hl => ?_)
    refine lv_iconst (v := 1) S.1 S.2.1 d_Lw_get_15 (by decide) ?_
    exact so_iret S hr hlk P1 hS1 (Nat.le_refl _) (Nat.le_refl _) ⟨1, 0, st, f, rfl, hs, M, O, fun z => absurd z (by decide), by decide, fT.rf⟩ d_Lw_get_16
set_option maxHeartbeats 400000 in
theorem c_Lw_remove (l : Launch) (hB : so_B tbl s0 D vcl (tyl ca)) (hX : exX l s0) (M : HmM ca DE σ hm B st) (O : outR ca σ out f) (hi : invS n0 st) (x kx : Int32) : so_CW l s0 D vcl y_Lw_remove b_Lw_remove 5 (some .int) [(0, 10, 13, 13)] 10 1 6 [.ref hm, .int x, .int kx, .ref out] σ (fun v σ1 => ∃ r w1 t f1, v = some (.int (nI r)) ∧ sRemove st x kx r w1 t ∧ HmM ca DE σ1 hm B t ∧ outR ca σ1 out f1 ∧ (r = 0 → f1 0 = w1.toInt64) ∧ r ≤ 3 ∧ fT tL7 σ σ1) := by
  refine so_ofW hB (by decide) (Nat.le_of_ble_eq_true rfl) ?_
  intro p e s m below meth c ls S K E hr hlk hex P hS hl
  have hl : lv_has ls 5 [(0, .ref hm), (1, .int x), (2, .int kx), (3, .ref out)] := hl
  have M0 := M
  obtain ⟨X, L, sl, ⟨he, -⟩, -⟩ := M0
  refine lv_aload_n S.1 S.2.1 d_Lw_remove_0 rfl (lv_at hl 3 rfl) ?_
  refine lv_iconst (v := 0) S.1 S.2.1 d_Lw_remove_1 (by decide) ?_
  refine lv_aload_n S.1 S.2.1 d_Lw_remove_2 rfl (lv_at hl 0 rfl) ?_
  refine lv_iload_n S.1 S.2.1 d_Lw_remove_3 rfl (lv_at hl 1 rfl) ?_
  refine lv_iload_n S.1 S.2.1 d_Lw_remove_4 rfl (lv_at hl 2 rfl) ?_
  refine so_callT S hB K E P hS (t_remove l hB hX M hi x kx) he rfl wd_697 wd_698 wd_699 wd_700 wd_1 ⟨by decide +kernel, by decide +kernel, by show _ = some 2; decide +kernel⟩ (by decide) (by decide) (Nat.le_of_ble_eq_true rfl) (Nat.le_of_ble_eq_true rfl) hl.1 rfl (Nat.le_of_ble_eq_true rfl) d_Lw_remove_5 (fun v σ1 H1 locs1 hv P1 hS1 => ?_) (fun x1 C1 H1 locs1 hC hcell P1 hS1 => ?_)
  · obtain ⟨w1, t, rfl, hs, hM1, hF⟩ := hv
    have O1 : outR ca σ1 out f := hF _ _ O tC_7
    refine lv_i2l S.1 S.2.1 d_Lw_remove_8 rfl ?_
    refine so_last S K P1 hS1 O1 2 rfl in_01 d_Lw_remove_9 (fun H2 locs2 P2 hS2 => ?_)
    refine lv_goto (tgt := 17) S.1 S.2.1 d_Lw_remove_10 rfl ?_
    refine lv_iconst (v := 0) S.1 S.2.1 d_Lw_remove_17 (by decide) ?_
    exact so_iret S hr hlk P2 hS2 (Nat.le_refl _) (Nat.le_refl _) ⟨0, w1, t, _, rfl, hs, hM1.ag (ag_out O1), so_us, fun _ => rfl, by decide, (hF.mono (fun t => Or.inl)).up O1 (Or.inr rfl)⟩ d_Lw_remove_18
  · obtain ⟨rfl, hs⟩ := hC
    refine WT_tab S (hpre := []) hex (fun q hq => by cases hq) ⟨by decide, by decide⟩ (by decide) wd_248 wd_256 hcell ?_
    refine lv_astore S.1 S.2.1 d_Lw_remove_13 hl (by decide) rfl (fun ls hl => ?_)
    refine lv_iconst (v := 1) S.1 S.2.1 d_Lw_remove_15 (by decide) ?_
    exact so_iret S hr hlk P1 hS1 (Nat.le_refl _) (Nat.le_refl _) ⟨1, 0, st, f, rfl, hs, M, O, fun z => absurd z (by decide), by decide, fT.rf⟩ d_Lw_remove_16
set_option maxHeartbeats 400000 in
theorem c_Lw_entry (l : Launch) (hB : so_B tbl s0 D vcl (tyl ca)) (hX : exX l s0) (M : HmM ca DE σ hm B st) (O : outR ca σ out f) (hi : invS n0 st) (x kx wx : Int32) : so_CW l s0 D vcl y_Lw_entry b_Lw_entry 6 (some .int) [(0, 12, 15, 38)] 10 1 6 [.ref hm, .int x, .int kx, .int wx, .ref out] σ (fun v σ1 => ∃ r w1 t f1, v = some (.int (nI r)) ∧ sEntry st x kx wx r w1 t ∧ HmM ca DE σ1 hm B t ∧ outR ca σ1 out f1 ∧ (r = 0 → f1 0 = w1.toInt64) ∧ r ≤ 3 ∧ fT tL7 σ σ1) := by
  refine so_ofW hB (by decide) (Nat.le_of_ble_eq_true rfl) ?_
  intro p e s m below meth c ls S K E hr hlk hex P hS hl
  have hl : lv_has ls 6 [(0, .ref hm), (1, .int x), (2, .int kx), (3, .int wx), (4, .ref out)] := hl
  have M0 := M
  obtain ⟨X, L, sl, ⟨he, -⟩, -⟩ := M0
  refine lv_aload S.1 S.2.1 d_Lw_entry_0 (lv_at hl 4 rfl) ?_
  refine lv_iconst (v := 0) S.1 S.2.1 d_Lw_entry_2 (by decide) ?_
  refine lv_aload_n S.1 S.2.1 d_Lw_entry_3 rfl (lv_at hl 0 rfl) ?_
  refine lv_iload_n S.1 S.2.1 d_Lw_entry_4 rfl (lv_at hl 1 rfl) ?_
  refine lv_iload_n S.1 S.2.1 d_Lw_entry_5 rfl (lv_at hl 2 rfl) ?_
  refine lv_iload_n S.1 S.2.1 d_Lw_entry_6 rfl (lv_at hl 3 rfl) ?_
  refine so_callT S hB K E P hS (t_entry l hB hX M hi x kx wx) he rfl wd_725 wd_726 wd_727 wd_728 wd_1 ⟨by decide +kernel, by decide +kernel, by show _ = some 3; decide +kernel⟩ (by decide) (by decide) (Nat.le_of_ble_eq_true rfl) (Nat.le_of_ble_eq_true rfl) hl.1 rfl (Nat.le_of_ble_eq_true rfl) d_Lw_entry_7 (fun v σ1 H1 locs1 hv P1 hS1 => ?_) (fun x1 C1 H1 locs1 hC hcell P1 hS1 => ?_)
  · obtain ⟨w1, t, rfl, hs, hM1, hF⟩ := hv
    have O1 : outR ca σ1 out f := hF _ _ O tC_7
    refine lv_i2l S.1 S.2.1 d_Lw_entry_10 rfl ?_
    refine so_last S K P1 hS1 O1 2 rfl in_01 d_Lw_entry_11 (fun H2 locs2 P2 hS2 => ?_)
    refine lv_goto (tgt := 19) S.1 S.2.1 d_Lw_entry_12 rfl ?_
    refine lv_iconst (v := 0) S.1 S.2.1 d_Lw_entry_19 (by decide) ?_
    exact so_iret S hr hlk P2 hS2 (Nat.le_refl _) (Nat.le_refl _) ⟨0, w1, t, _, rfl, hs, hM1.ag (ag_out O1), so_us, fun _ => rfl, by decide, (hF.mono (fun t => Or.inl)).up O1 (Or.inr rfl)⟩ d_Lw_entry_20
  · obtain ⟨rfl, hs⟩ := hC
    refine WT_tab S (hpre := []) hex (fun q hq => by cases hq) ⟨by decide, by decide⟩ (by decide) wd_724 wd_731 hcell ?_
    refine lv_astore S.1 S.2.1 d_Lw_entry_15 hl (by decide) rfl (fun ls hl => ?_)
    refine lv_iconst (v := 1) S.1 S.2.1 d_Lw_entry_17 (by decide) ?_
    exact so_iret S hr hlk P1 hS1 (Nat.le_refl _) (Nat.le_refl _) ⟨1, 0, st, f, rfl, hs, M, O, fun z => absurd z (by decide), by decide, fT.rf⟩ d_Lw_entry_18
set_option maxHeartbeats 400000 in
theorem c_Lw_walk (l : Launch) (hB : so_B tbl s0 D vcl (tyl ca)) (hX : exX l s0) (M : HmM ca DE σ hm B st) (x : Int32) : so_CW l s0 D vcl y_Lw_walk b_Lw_walk 3 (some .int) [(0, 5, 8, 13)] 10 1 6 [.ref hm, .int x] σ (fun v σ1 => ∃ r t, v = some (.int (nI r)) ∧ sWalk st x r 0 t ∧ HmM ca DE σ1 hm B t ∧ fT tC σ σ1) := by
  refine so_ofW hB (by decide) (Nat.le_of_ble_eq_true rfl) ?_
  intro p e s m below meth c ls S K E hr hlk hex P hS hl
  have hl : lv_has ls 3 [(0, .ref hm), (1, .int x)] := hl
  have M0 := M
  obtain ⟨X, L, sl, ⟨he, -⟩, -⟩ := M0
  refine lv_aload_n S.1 S.2.1 d_Lw_walk_0 rfl (lv_at hl 0 rfl) ?_
  refine lv_iload_n S.1 S.2.1 d_Lw_walk_1 rfl (lv_at hl 1 rfl) ?_
  refine so_callT S hB K E P hS (t_walk l hB hX M x) he rfl wd_758 wd_759 wd_760 wd_761 wd_1 ⟨by decide +kernel, by decide +kernel, by show _ = some 1; decide +kernel⟩ (by decide) (by decide) (Nat.le_of_ble_eq_true rfl) (Nat.le_of_ble_eq_true rfl) hl.1 rfl (Nat.le_of_ble_eq_true rfl) d_Lw_walk_2 (fun v σ1 H1 locs1 hv P1 hS1 => ?_) (fun x1 C1 H1 locs1 hC hcell P1 hS1 => ?_)
  · obtain ⟨rfl, t, hs, hM1, hF⟩ := hv
    refine lv_goto (tgt := 11) S.1 S.2.1 d_Lw_walk_5 rfl ?_
    refine lv_iconst (v := 0) S.1 S.2.1 d_Lw_walk_11 (by decide) ?_
    exact so_iret S hr hlk P1 hS1 (Nat.le_refl _) (Nat.le_refl _) ⟨0, t, rfl, hs, hM1, hF⟩ d_Lw_walk_12
  · obtain ⟨rfl, hs⟩ := hC
    refine WT_tab S (hpre := []) hex (fun q hq => by cases hq) ⟨by decide, by decide⟩ (by decide) wd_248 wd_256 hcell ?_
    refine lv_astore_n S.1 S.2.1 d_Lw_walk_8 rfl hl (by decide) rfl (fun ls hl => ?_)
    refine lv_iconst (v := 1) S.1 S.2.1 d_Lw_walk_9 (by decide) ?_
    exact so_iret S hr hlk P1 hS1 (Nat.le_refl _) (Nat.le_refl _) ⟨1, st, rfl, hs, M, fT.rf⟩ d_Lw_walk_10
set_option maxHeartbeats 400000 in
theorem c_Lw_step (l : Launch) (hB : so_B tbl s0 D vcl (tyl ca)) (hX : exX l s0) (M : HmM ca DE σ hm B st) (O : outR ca σ out f) (hi : invS n0 st) (hn0 : n0 < 900) (x : Int32) : so_CW l s0 D vcl y_Lw_step b_Lw_step 4 (some .int) [(0, 9, 12, 13), (0, 9, 15, 15), (0, 9, 18, 38)] 10 1 6 [.ref hm, .int x, .ref out] σ (fun v σ1 => ∃ r w1 t f1, v = some (.int (nI r)) ∧ sStep st x r w1 t ∧ HmM ca DE σ1 hm B t ∧ outR ca σ1 out f1 ∧ (r = 0 → f1 0 = w1.toInt64) ∧ r ≤ 3 ∧ fT tL7 σ σ1) := by
  refine so_ofW hB (by decide) (Nat.le_of_ble_eq_true rfl) ?_
  intro p e s m below meth c ls S K E hr hlk hex P hS hl
  have hl : lv_has ls 4 [(0, .ref hm), (1, .int x), (2, .ref out)] := hl
  have M0 := M
  obtain ⟨X, L, sl, ⟨he, -⟩, -⟩ := M0
  refine lv_aload_n S.1 S.2.1 d_Lw_step_0 rfl (lv_at hl 2 rfl) ?_
  refine lv_iconst (v := 0) S.1 S.2.1 d_Lw_step_1 (by decide) ?_
  refine lv_aload_n S.1 S.2.1 d_Lw_step_2 rfl (lv_at hl 0 rfl) ?_
  refine lv_iload_n S.1 S.2.1 d_Lw_step_3 rfl (lv_at hl 1 rfl) ?_
  refine so_callT S hB K E P hS (t_step l hB hX M hi hn0 x) he rfl wd_766 wd_767 wd_768 wd_769 wd_1 ⟨by decide +kernel, by decide +kernel, by show _ = some 1; decide +kernel⟩ (by decide) (by decide) (Nat.le_of_ble_eq_true rfl) (Nat.le_of_ble_eq_true rfl) hl.1 rfl (Nat.le_of_ble_eq_true rfl) d_Lw_step_4 (fun v σ1 H1 locs1 hv P1 hS1 => ?_) (fun x1 C1 H1 locs1 hC hcell P1 hS1 => ?_)
  · obtain ⟨w1, t, rfl, hs, hM1, hF⟩ := hv
    have O1 : outR ca σ1 out f := hF _ _ O tC_7
    refine lv_i2l S.1 S.2.1 d_Lw_step_7 rfl ?_
    refine so_last S K P1 hS1 O1 2 rfl in_01 d_Lw_step_8 (fun H2 locs2 P2 hS2 => ?_)
    refine lv_goto (tgt := 21) S.1 S.2.1 d_Lw_step_9 rfl ?_
    refine lv_iconst (v := 0) S.1 S.2.1 d_Lw_step_21 (by decide) ?_
    exact so_iret S hr hlk P2 hS2 (Nat.le_refl _) (Nat.le_refl _) ⟨0, w1, t, _, rfl, hs, hM1.ag (ag_out O1), so_us, fun _ => rfl, by decide, (hF.mono (fun t => Or.inl)).up O1 (Or.inr rfl)⟩ d_Lw_step_22
  · rcases hC with ⟨rfl, hs⟩ | ⟨rfl, hs⟩ | ⟨rfl, hs⟩
    · refine WT_tab S (hpre := []) hex (fun q hq => by cases hq) ⟨by decide, by decide⟩ (by decide) wd_248 wd_256 hcell ?_
      refine lv_astore_n S.1 S.2.1 d_Lw_step_12 rfl hl (by decide) rfl (fun ls hl => ?_)
      refine lv_iconst (v := 1) S.1 S.2.1 d_Lw_step_13 (by decide) ?_
      exact so_iret S hr hlk P1 hS1 (Nat.le_refl _) (Nat.le_refl _) ⟨1, 0, st, f, rfl, hs, M, O, fun z => absurd z (by decide), by decide, fT.rf⟩ d_Lw_step_14
    · refine WT_tab S (hpre := [(0, 9, 12, 13)]) hex (fun q hq => by
        rcases List.mem_cons.mp hq with rfl | hq
        · exact ⟨⟨by decide, by decide⟩, by decide, _, wd_248, nA.moved E.1.alike hX.2.2.2.1⟩
        cases hq) ⟨by decide, by decide⟩ (by decide) wd_249 wd_328 hcell ?_
      refine lv_astore_n S.1 S.2.1 d_Lw_step_15 rfl hl (by decide) rfl (fun ls hl => ?_)
      refine lv_iconst (v := 2) S.1 S.2.1 d_Lw_step_16 (by decide) ?_
      exact so_iret S hr hlk P1 hS1 (Nat.le_refl _) (Nat.le_refl _) ⟨2, 0, st, f, rfl, hs, M, O, fun z => absurd z (by decide), by decide, fT.rf⟩ d_Lw_step_17
    · refine WT_tab S (hpre := [(0, 9, 12, 13), (0, 9, 15, 15)]) hex (fun q hq => by
        rcases List.mem_cons.mp hq with rfl | hq
        · exact ⟨⟨by decide, by decide⟩, by decide, _, wd_248, nA.moved E.1.alike hX.2.2.2.2.1⟩
        rcases List.mem_cons.mp hq with rfl | hq
        · exact ⟨⟨by decide, by decide⟩, by decide, _, wd_249, nA.moved E.1.alike hX.2.2.2.2.2⟩
        cases hq) ⟨by decide, by decide⟩ (by decide) wd_724 wd_731 hcell ?_
      refine lv_astore_n S.1 S.2.1 d_Lw_step_18 rfl hl (by decide) rfl (fun ls hl => ?_)
      refine lv_iconst (v := 3) S.1 S.2.1 d_Lw_step_19 (by decide) ?_
      exact so_iret S hr hlk P1 hS1 (Nat.le_refl _) (Nat.le_refl _) ⟨3, 0, st, f, rfl, hs, M, O, fun z => absurd z (by decide), by decide, fT.rf⟩ d_Lw_step_20
set_option maxHeartbeats 400000 in
theorem c_Lw_collect (l : Launch) (hB : so_B tbl s0 D vcl (tyl ca)) (hX : exX l s0) (M : HmM ca DE σ hm B st) (O : outR ca σ out f) (hi : invS n0 st) (hn0 : n0 < 900) (x : Int32) : so_CW l s0 D vcl y_Lw_collect b_Lw_collect 4 (some .int) [(0, 9, 12, 13)] 10 1 6 [.ref hm, .int x, .ref out] σ (fun v σ1 => ∃ r w1 t f1, v = some (.int (nI r)) ∧ sCollect st x r w1 t ∧ HmM ca DE σ1 hm B t ∧ outR ca σ1 out f1 ∧ (r = 0 → f1 0 = w1.toInt64) ∧ r ≤ 3 ∧ fT tL7 σ σ1) := by
  refine so_ofW hB (by decide) (Nat.le_of_ble_eq_true rfl) ?_
  intro p e s m below meth c ls S K E hr hlk hex P hS hl
  have hl : lv_has ls 4 [(0, .ref hm), (1, .int x), (2, .ref out)] := hl
  have M0 := M
  obtain ⟨X, L, sl, ⟨he, -⟩, -⟩ := M0
  refine lv_aload_n S.1 S.2.1 d_Lw_collect_0 rfl (lv_at hl 2 rfl) ?_
  refine lv_iconst (v := 0) S.1 S.2.1 d_Lw_collect_1 (by decide) ?_
  refine lv_aload_n S.1 S.2.1 d_Lw_collect_2 rfl (lv_at hl 0 rfl) ?_
  refine lv_iload_n S.1 S.2.1 d_Lw_collect_3 rfl (lv_at hl 1 rfl) ?_
  refine so_callT S hB K E P hS (t_collect l hB hX M hi hn0 x) he rfl wd_776 wd_777 wd_778 wd_779 wd_1 ⟨by decide +kernel, by decide +kernel, by show _ = some 1; decide +kernel⟩ (by decide) (by decide) (Nat.le_of_ble_eq_true rfl) (Nat.le_of_ble_eq_true rfl) hl.1 rfl (Nat.le_of_ble_eq_true rfl) d_Lw_collect_4 (fun v σ1 H1 locs1 hv P1 hS1 => ?_) (fun x1 C1 H1 locs1 hC hcell P1 hS1 => ?_)
  · obtain ⟨w1, t, rfl, hs, hM1, hF⟩ := hv
    have O1 : outR ca σ1 out f := hF _ _ O tC_7
    refine lv_i2l S.1 S.2.1 d_Lw_collect_7 rfl ?_
    refine so_last S K P1 hS1 O1 2 rfl in_01 d_Lw_collect_8 (fun H2 locs2 P2 hS2 => ?_)
    refine lv_goto (tgt := 15) S.1 S.2.1 d_Lw_collect_9 rfl ?_
    refine lv_iconst (v := 0) S.1 S.2.1 d_Lw_collect_15 (by decide) ?_
    exact so_iret S hr hlk P2 hS2 (Nat.le_refl _) (Nat.le_refl _) ⟨0, w1, t, _, rfl, hs, hM1.ag (ag_out O1), so_us, fun _ => rfl, by decide, (hF.mono (fun t => Or.inl)).up O1 (Or.inr rfl)⟩ d_Lw_collect_16
  · obtain ⟨rfl, hs⟩ := hC
    refine WT_tab S (hpre := []) hex (fun q hq => by cases hq) ⟨by decide, by decide⟩ (by decide) wd_248 wd_256 hcell ?_
    refine lv_astore_n S.1 S.2.1 d_Lw_collect_12 rfl hl (by decide) rfl (fun ls hl => ?_)
    refine lv_iconst (v := 1) S.1 S.2.1 d_Lw_collect_13 (by decide) ?_
    exact so_iret S hr hlk P1 hS1 (Nat.le_refl _) (Nat.le_refl _) ⟨1, 0, st, f, rfl, hs, M, O, fun z => absurd z (by decide), by decide, fT.rf⟩ d_Lw_collect_14
end LW1

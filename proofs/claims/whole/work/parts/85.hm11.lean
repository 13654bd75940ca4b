/-! HoldMaps: its constructor. -/
theorem HeR.ag {ca : Nat → ClassId} {σ σ1 : so_S} {he th ho : Nat} {X : Hx} (h : HeR ca σ he th ho X) (hg : agT tH σ σ1) : HeR ca σ1 he th ho X :=
  ⟨hg _ _ h.1 (Or.inl rfl), hg _ _ h.2.1 (Or.inr (Or.inl rfl)), hg _ _ h.2.2.1 (Or.inr (Or.inr (Or.inl rfl))), fun i a hi ha => ⟨hg _ _ (h.2.2.2 i a hi ha).1 (Or.inr (Or.inr (Or.inr (Or.inl ⟨by show 100 ≤ 100 + i; omega, by show 100 + i < 132; omega⟩)))), hg _ _ (h.2.2.2 i a hi ha).2 (Or.inr (Or.inr (Or.inr (Or.inr ⟨by show 200 ≤ 200 + i; omega, by show 200 + i < 232; omega⟩))))⟩⟩
def axF (w s i p l : Nat) : Nat → Nat
  | 0 => w
  | 1 => s
  | 2 => i
  | 3 => p
  | _ => l
theorem RwR.nil {ca : Nat → ClassId} {DE : Nat} {σ : so_S} {k row : Nat} (h : ALP ca DE σ row (20 + k) (30 + k) []) : RwR ca DE σ k row [] := ⟨h, fun e he => by cases he⟩
theorem tM_x {k t : Nat} (h : t < 10) : ¬ tM k t := by unfold tM; omega
set_option maxHeartbeats 400000 in
set_option maxRecDepth 100000 in
theorem c_HM_init (l : Launch) {s0 : State} {D : va_G} {ca : Nat → ClassId} (hB : so_B tbl s0 D vcl (tyl ca)) {σ : so_S} {DE mi hm : Nat} (J : jX s0 D ca DE mi) (M0 : σ hm = some (0, .inr (0, [.null, .null, .null, .null]))) : so_C l s0 D vcl y_HM_init b_HM_init 1 none 6 15 128 [.ref hm] σ (fun v σ1 => v = none ∧ (∃ B, HMR ca DE σ1 hm B X_0 k_0 4 0 (fun _ => []) (fun _ => none)) ∧ fT tC σ σ1) := by
  refine so_of hB (by decide) (Nat.le_of_ble_eq_true rfl) ?_
  intro p e s m below meth c ls S K E hr hlk hnm P hS hl
  have hl : lv_has ls 1 [(0, .ref hm)] := hl
  have Fr : fT tC σ σ := fT.rf
  refine lv_aload_n S.1 S.2.1 d_HM_init_0 rfl (lv_at hl 0 rfl) ?_
  refine W.objInit S.1 S.2.1 S.2.2.2.1 (S.2.2.2.2 _ wd_33) (S.2.2.2.2 _ wd_34) (S.2.2.2.2 _ wd_35) rfl (hl.1.trans S.2.2.1.symm) rfl d_HM_init_1 (Nat.le_of_ble_eq_true rfl) (Nat.le_of_ble_eq_true rfl) ?_
  refine lv_aload_n S.1 S.2.1 d_HM_init_4 rfl (lv_at hl 0 rfl) ?_
  refine so_new (ci := 1) 1 S K P hS E.2.1 i_He t_He t_He_ok (S.2.2.2.2 _ wd_36) (S.2.2.2.2 _ wd_37) (S.2.2.2.2 _ wd_2) rfl (fs := [.null, .null, .int 0, .int 0]) (fun j hj => by rcases j with _ | _ | _ | _ | j <;> first | rfl | omega) (by show _ ≤ _; decide) (by show _ ≤ _; decide) d_HM_init_5 (fun he H hq P hS => ?_)
  obtain ⟨σ1, hσ1⟩ : ∃ z, z = so_up σ he (1, .inr (1, [.null, .null, .int 0, .int 0])) := ⟨_, rfl⟩
  have P : so_P D vcl s0.heap.size σ1 H := by rw [hσ1]; exact P
  have Fr : fT tC σ σ1 := by rw [hσ1]; exact Fr.nw hq
  have M0 : σ1 hm = some (0, .inr (0, [.null, .null, .null, .null])) := ((show agT ((fun t => t = 0)) σ σ1 by rw [hσ1]; exact ag_nw hq)) _ _ M0 rfl
  have Khe : σ1 he = some (1, .inr (1, [.null, .null, .int 0, .int 0])) := by rw [hσ1]; exact so_us
  refine lv_dup S.1 S.2.1 d_HM_init_8 rfl ?_
  refine so_call (ci_HM_9 S hB E P hS (c_He_init l hB Khe) rfl (by decide) (by decide) (by decide) hl.1 rfl (Nat.le_of_ble_eq_true rfl) d_HM_init_9) hS (fun v σ2 H locs hv P hS => ?_)
  obtain ⟨rfl, th, ho, Ghe, F9⟩ := hv
  have F9 : fT tH σ1 σ2 := F9
  have Fr := Fr.tr (F9.mono tC_H)
  have M0 : σ2 hm = some (0, .inr (0, [.null, .null, .null, .null])) := ((F9.ag (P := (fun t => t = 0)) (fun t h z => by unfold tH at *; omega))) _ _ M0 rfl
  have Ghe : HeR ca σ2 he th ho X_0 := Ghe
  refine pf_HM_10_HM S K P hS hnm M0 (Nat.le_of_ble_eq_true rfl) rfl rfl d_HM_init_12 (fun H locs P hS => ?_)
  obtain ⟨σ3, hσ3⟩ : ∃ z, z = so_up σ2 hm (0, .inr (0, [.ref he, .null, .null, .null])) := ⟨_, rfl⟩
  have P : so_P D vcl s0.heap.size σ3 H := by rw [hσ3]; exact P
  have Fr : fT tC σ σ3 := by rw [hσ3]; exact Fr.up M0 (Or.inl rfl)
  have Ghe : HeR ca σ3 he th ho X_0 := Ghe.ag ((show agT (tH) σ2 σ3 by rw [hσ3]; exact ag_up M0 (fun h => by simp only [tH] at h; omega)))
  have M0 : σ3 hm = some (0, .inr (0, [.ref he, .null, .null, .null])) := by rw [hσ3]; exact so_us
  refine lv_aload_n S.1 S.2.1 d_HM_init_15 rfl (lv_at hl 0 rfl) ?_
  refine so_new (ci := 4) 10 S K P hS E.2.1 i_We t_We t_We_ok (S.2.2.2.2 _ wd_60) (S.2.2.2.2 _ wd_61) (S.2.2.2.2 _ wd_5) rfl (fs := [.int 0, .int 0, .int 0, .null, .null, .int 0]) (fun j hj => by rcases j with _ | _ | _ | _ | _ | _ | j <;> first | rfl | omega) (by show _ ≤ _; decide) (by show _ ≤ _; decide) d_HM_init_16 (fun we H hq P hS => ?_)
  obtain ⟨σ4, hσ4⟩ : ∃ z, z = so_up σ3 we (10, .inr (4, [.int 0, .int 0, .int 0, .null, .null, .int 0])) := ⟨_, rfl⟩
  have P : so_P D vcl s0.heap.size σ4 H := by rw [hσ4]; exact P
  have Fr : fT tC σ σ4 := by rw [hσ4]; exact Fr.nw hq
  have Ghe : HeR ca σ4 he th ho X_0 := Ghe.ag ((show agT (tH) σ3 σ4 by rw [hσ4]; exact ag_nw hq))
  have M0 : σ4 hm = some (0, .inr (0, [.ref he, .null, .null, .null])) := ((show agT ((fun t => t = 0)) σ3 σ4 by rw [hσ4]; exact ag_nw hq)) _ _ M0 rfl
  have Kwe : σ4 we = some (10, .inr (4, [.int 0, .int 0, .int 0, .null, .null, .int 0])) := by rw [hσ4]; exact so_us
  refine lv_dup S.1 S.2.1 d_HM_init_19 rfl ?_
  refine so_call (ci_HM_18 S hB E P hS (c_We_init l hB J Kwe) rfl (by decide) (by decide) (by decide) hl.1 rfl (Nat.le_of_ble_eq_true rfl) d_HM_init_20) hS (fun v σ5 H locs hv P hS => ?_)
  obtain ⟨rfl, rw, mv, k1, k2, k3, F9⟩ := hv
  have Fr := Fr.tr (F9.mono (fun t h => tC_M (mp := 0) (by decide) t (tW_M t h)))
  have Ghe : HeR ca σ5 he th ho X_0 := Ghe.ag ((F9.ag (P := tH) (fun t h z => by unfold tH tW at *; omega)))
  have M0 : σ5 hm = some (0, .inr (0, [.ref he, .null, .null, .null])) := ((F9.ag (P := (fun t => t = 0)) (fun t h z => by unfold tW at *; omega))) _ _ M0 rfl
  have Kwe : σ5 we = some (10, oWe 0 0 0 rw mv (nI 4)) := k1
  have Aw : ALP ca DE σ5 rw 20 30 [] := k2
  have Am : ALP ca DE σ5 mv 80 90 [] := k3
  refine pf_HM_19_HM S K P hS hnm M0 (Nat.le_of_ble_eq_true rfl) rfl rfl d_HM_init_23 (fun H locs P hS => ?_)
  obtain ⟨σ6, hσ6⟩ : ∃ z, z = so_up σ5 hm (0, .inr (0, [.ref he, .ref we, .null, .null])) := ⟨_, rfl⟩
  have P : so_P D vcl s0.heap.size σ6 H := by rw [hσ6]; exact P
  have Fr : fT tC σ σ6 := by rw [hσ6]; exact Fr.up M0 (Or.inl rfl)
  have Ghe : HeR ca σ6 he th ho X_0 := Ghe.ag ((show agT (tH) σ5 σ6 by rw [hσ6]; exact ag_up M0 (fun h => by simp only [tH] at h; omega)))
  have Kwe : σ6 we = some (10, oWe 0 0 0 rw mv (nI 4)) := ((show agT ((fun t => t = 10)) σ5 σ6 by rw [hσ6]; exact ag_up M0 (fun h => by simp only at h; omega))) _ _ Kwe rfl
  have Aw : ALP ca DE σ6 rw 20 30 [] := Aw.fr ((show agT (tL 20 30) σ5 σ6 by rw [hσ6]; exact ag_up M0 (fun h => by simp only [tL] at h; omega)))
  have Am : ALP ca DE σ6 mv 80 90 [] := Am.fr ((show agT (tL 80 90) σ5 σ6 by rw [hσ6]; exact ag_up M0 (fun h => by simp only [tL] at h; omega)))
  have M0 : σ6 hm = some (0, .inr (0, [.ref he, .ref we, .null, .null])) := by rw [hσ6]; exact so_us
  refine lv_aload_n S.1 S.2.1 d_HM_init_26 rfl (lv_at hl 0 rfl) ?_
  refine so_new (ci := 5) 11 S K P hS E.2.1 i_So t_So t_So_ok (S.2.2.2.2 _ wd_136) (S.2.2.2.2 _ wd_137) (S.2.2.2.2 _ wd_9) rfl (fs := [.int 0, .int 0, .int 0, .null, .int 0]) (fun j hj => by rcases j with _ | _ | _ | _ | _ | j <;> first | rfl | omega) (by show _ ≤ _; decide) (by show _ ≤ _; decide) d_HM_init_27 (fun sf H hq P hS => ?_)
  obtain ⟨σ7, hσ7⟩ : ∃ z, z = so_up σ6 sf (11, .inr (5, [.int 0, .int 0, .int 0, .null, .int 0])) := ⟨_, rfl⟩
  have P : so_P D vcl s0.heap.size σ7 H := by rw [hσ7]; exact P
  have Fr : fT tC σ σ7 := by rw [hσ7]; exact Fr.nw hq
  have Ghe : HeR ca σ7 he th ho X_0 := Ghe.ag ((show agT (tH) σ6 σ7 by rw [hσ7]; exact ag_nw hq))
  have Kwe : σ7 we = some (10, oWe 0 0 0 rw mv (nI 4)) := ((show agT ((fun t => t = 10)) σ6 σ7 by rw [hσ7]; exact ag_nw hq)) _ _ Kwe rfl
  have Aw : ALP ca DE σ7 rw 20 30 [] := Aw.fr ((show agT (tL 20 30) σ6 σ7 by rw [hσ7]; exact ag_nw hq))
  have Am : ALP ca DE σ7 mv 80 90 [] := Am.fr ((show agT (tL 80 90) σ6 σ7 by rw [hσ7]; exact ag_nw hq))
  have M0 : σ7 hm = some (0, .inr (0, [.ref he, .ref we, .null, .null])) := ((show agT ((fun t => t = 0)) σ6 σ7 by rw [hσ7]; exact ag_nw hq)) _ _ M0 rfl
  have Ksf : σ7 sf = some (11, .inr (5, [.int 0, .int 0, .int 0, .null, .int 0])) := by rw [hσ7]; exact so_us
  refine lv_dup S.1 S.2.1 d_HM_init_30 rfl ?_
  refine so_call (ci_HM_25 S hB E P hS (c_So_init l hB J Ksf) rfl (by decide) (by decide) (by decide) hl.1 rfl (Nat.le_of_ble_eq_true rfl) d_HM_init_31) hS (fun v σ8 H locs hv P hS => ?_)
  obtain ⟨rfl, rs, _, k1, k2, F9⟩ := hv
  have Fr := Fr.tr (F9.mono (fun t h => tC_M (mp := 1) (by decide) t (tR_M t h)))
  have Ghe : HeR ca σ8 he th ho X_0 := Ghe.ag ((F9.ag (P := tH) (fun t h z => by unfold tH tR at *; omega)))
  have Kwe : σ8 we = some (10, oWe 0 0 0 rw mv (nI 4)) := ((F9.ag (P := (fun t => t = 10)) (fun t h z => by unfold tR at *; omega))) _ _ Kwe rfl
  have Aw : ALP ca DE σ8 rw 20 30 [] := Aw.fr ((F9.ag (P := tL 20 30) (fun t h z => by unfold tL tR at *; omega)))
  have Am : ALP ca DE σ8 mv 80 90 [] := Am.fr ((F9.ag (P := tL 80 90) (fun t h z => by unfold tL tR at *; omega)))
  have M0 : σ8 hm = some (0, .inr (0, [.ref he, .ref we, .null, .null])) := ((F9.ag (P := (fun t => t = 0)) (fun t h z => by unfold tR at *; omega))) _ _ M0 rfl
  have Ksf : σ8 sf = some (11, oSo 0 0 0 rs 0) := k1
  have As : ALP ca DE σ8 rs 21 31 [] := k2
  refine pf_HM_26_HM S K P hS hnm M0 (Nat.le_of_ble_eq_true rfl) rfl rfl d_HM_init_34 (fun H locs P hS => ?_)
  obtain ⟨σ9, hσ9⟩ : ∃ z, z = so_up σ8 hm (0, .inr (0, [.ref he, .ref we, .ref sf, .null])) := ⟨_, rfl⟩
  have P : so_P D vcl s0.heap.size σ9 H := by rw [hσ9]; exact P
  have Fr : fT tC σ σ9 := by rw [hσ9]; exact Fr.up M0 (Or.inl rfl)
  have Ghe : HeR ca σ9 he th ho X_0 := Ghe.ag ((show agT (tH) σ8 σ9 by rw [hσ9]; exact ag_up M0 (fun h => by simp only [tH] at h; omega)))
  have Kwe : σ9 we = some (10, oWe 0 0 0 rw mv (nI 4)) := ((show agT ((fun t => t = 10)) σ8 σ9 by rw [hσ9]; exact ag_up M0 (fun h => by simp only at h; omega))) _ _ Kwe rfl
  have Aw : ALP ca DE σ9 rw 20 30 [] := Aw.fr ((show agT (tL 20 30) σ8 σ9 by rw [hσ9]; exact ag_up M0 (fun h => by simp only [tL] at h; omega)))
  have Am : ALP ca DE σ9 mv 80 90 [] := Am.fr ((show agT (tL 80 90) σ8 σ9 by rw [hσ9]; exact ag_up M0 (fun h => by simp only [tL] at h; omega)))
  have Ksf : σ9 sf = some (11, oSo 0 0 0 rs 0) := ((show agT ((fun t => t = 11)) σ8 σ9 by rw [hσ9]; exact ag_up M0 (fun h => by simp only at h; omega))) _ _ Ksf rfl
  have As : ALP ca DE σ9 rs 21 31 [] := As.fr ((show agT (tL 21 31) σ8 σ9 by rw [hσ9]; exact ag_up M0 (fun h => by simp only [tL] at h; omega)))
  have M0 : σ9 hm = some (0, .inr (0, [.ref he, .ref we, .ref sf, .null])) := by rw [hσ9]; exact so_us
  refine lv_aload_n S.1 S.2.1 d_HM_init_37 rfl (lv_at hl 0 rfl) ?_
  refine lv_iconst (v := 5) S.1 S.2.1 d_HM_init_38 (by decide) ?_
  refine so_newq 5 S K P hS E.2.1 (S.2.2.2.2 _ wd_151) (S.2.2.2.2 _ wd_152) 4 rfl (N' := 5) (by decide) (by decide) (by decide) (by show _ ≤ _; decide) (by show _ ≤ _; decide) d_HM_init_39 (fun tb H hq P hS => ?_)
  obtain ⟨σ10, hσ10⟩ : ∃ z, z = so_up σ9 tb (5, aR ca 4 5 (fun _ => none)) := ⟨_, rfl⟩
  have P : so_P D vcl s0.heap.size σ10 H := by rw [hσ10]; exact P
  have Fr : fT tC σ σ10 := by rw [hσ10]; exact Fr.nw hq
  have Ghe : HeR ca σ10 he th ho X_0 := Ghe.ag ((show agT (tH) σ9 σ10 by rw [hσ10]; exact ag_nw hq))
  have Kwe : σ10 we = some (10, oWe 0 0 0 rw mv (nI 4)) := ((show agT ((fun t => t = 10)) σ9 σ10 by rw [hσ10]; exact ag_nw hq)) _ _ Kwe rfl
  have Aw : ALP ca DE σ10 rw 20 30 [] := Aw.fr ((show agT (tL 20 30) σ9 σ10 by rw [hσ10]; exact ag_nw hq))
  have Am : ALP ca DE σ10 mv 80 90 [] := Am.fr ((show agT (tL 80 90) σ9 σ10 by rw [hσ10]; exact ag_nw hq))
  have Ksf : σ10 sf = some (11, oSo 0 0 0 rs 0) := ((show agT ((fun t => t = 11)) σ9 σ10 by rw [hσ10]; exact ag_nw hq)) _ _ Ksf rfl
  have As : ALP ca DE σ10 rs 21 31 [] := As.fr ((show agT (tL 21 31) σ9 σ10 by rw [hσ10]; exact ag_nw hq))
  have M0 : σ10 hm = some (0, .inr (0, [.ref he, .ref we, .ref sf, .null])) := ((show agT ((fun t => t = 0)) σ9 σ10 by rw [hσ10]; exact ag_nw hq)) _ _ M0 rfl
  have Ktb : σ10 tb = some (5, aR ca 4 5 (fun _ => none)) := by rw [hσ10]; exact so_us
  refine pf_HM_32_HM S K P hS hnm M0 (Nat.le_of_ble_eq_true rfl) rfl rfl d_HM_init_42 (fun H locs P hS => ?_)
  obtain ⟨σ11, hσ11⟩ : ∃ z, z = so_up σ10 hm (0, .inr (0, [.ref he, .ref we, .ref sf, .ref tb])) := ⟨_, rfl⟩
  have P : so_P D vcl s0.heap.size σ11 H := by rw [hσ11]; exact P
  have Fr : fT tC σ σ11 := by rw [hσ11]; exact Fr.up M0 (Or.inl rfl)
  have Ghe : HeR ca σ11 he th ho X_0 := Ghe.ag ((show agT (tH) σ10 σ11 by rw [hσ11]; exact ag_up M0 (fun h => by simp only [tH] at h; omega)))
  have Kwe : σ11 we = some (10, oWe 0 0 0 rw mv (nI 4)) := ((show agT ((fun t => t = 10)) σ10 σ11 by rw [hσ11]; exact ag_up M0 (fun h => by simp only at h; omega))) _ _ Kwe rfl
  have Aw : ALP ca DE σ11 rw 20 30 [] := Aw.fr ((show agT (tL 20 30) σ10 σ11 by rw [hσ11]; exact ag_up M0 (fun h => by simp only [tL] at h; omega)))
  have Am : ALP ca DE σ11 mv 80 90 [] := Am.fr ((show agT (tL 80 90) σ10 σ11 by rw [hσ11]; exact ag_up M0 (fun h => by simp only [tL] at h; omega)))
  have Ksf : σ11 sf = some (11, oSo 0 0 0 rs 0) := ((show agT ((fun t => t = 11)) σ10 σ11 by rw [hσ11]; exact ag_up M0 (fun h => by simp only at h; omega))) _ _ Ksf rfl
  have As : ALP ca DE σ11 rs 21 31 [] := As.fr ((show agT (tL 21 31) σ10 σ11 by rw [hσ11]; exact ag_up M0 (fun h => by simp only [tL] at h; omega)))
  have Ktb : σ11 tb = some (5, aR ca 4 5 (fun _ => none)) := ((show agT ((fun t => t = 5)) σ10 σ11 by rw [hσ11]; exact ag_up M0 (fun h => by simp only at h; omega))) _ _ Ktb rfl
  have M0 : σ11 hm = some (0, .inr (0, [.ref he, .ref we, .ref sf, .ref tb])) := by rw [hσ11]; exact so_us
  refine lv_aload_n S.1 S.2.1 d_HM_init_45 rfl (lv_at hl 0 rfl) ?_
  refine gf_HM_32_HM S K P M0 rfl d_HM_init_46 ?_
  refine lv_iconst (v := 0) S.1 S.2.1 d_HM_init_49 (by decide) ?_
  refine lv_aload_n S.1 S.2.1 d_HM_init_50 rfl (lv_at hl 0 rfl) ?_
  refine gf_HM_19_HM S K P M0 rfl d_HM_init_51 ?_
  refine so_aastN S K P hS Ktb 4 rfl (j := 0) (r := some we) (fun v h => by cases h; exact ⟨_, 4, _, _, Kwe, rfl, va_Nw.of rfl (S.2.2.2.2 _ wd_1090)⟩) (by decide) (by decide) d_HM_init_54 (fun H locs P hS => ?_)
  obtain ⟨σ12, hσ12⟩ : ∃ z, z = so_up σ11 tb (5, aR ca 4 5 (va_up (fun _ => none) 0 (some we))) := ⟨_, rfl⟩
  have P : so_P D vcl s0.heap.size σ12 H := by rw [hσ12]; exact P
  have Fr : fT tC σ σ12 := by rw [hσ12]; exact Fr.up Ktb (Or.inr (Or.inl rfl))
  have Ghe : HeR ca σ12 he th ho X_0 := Ghe.ag ((show agT (tH) σ11 σ12 by rw [hσ12]; exact ag_up Ktb (fun h => by simp only [tH] at h; omega)))
  have Kwe : σ12 we = some (10, oWe 0 0 0 rw mv (nI 4)) := ((show agT ((fun t => t = 10)) σ11 σ12 by rw [hσ12]; exact ag_up Ktb (fun h => by simp only at h; omega))) _ _ Kwe rfl
  have Aw : ALP ca DE σ12 rw 20 30 [] := Aw.fr ((show agT (tL 20 30) σ11 σ12 by rw [hσ12]; exact ag_up Ktb (fun h => by simp only [tL] at h; omega)))
  have Am : ALP ca DE σ12 mv 80 90 [] := Am.fr ((show agT (tL 80 90) σ11 σ12 by rw [hσ12]; exact ag_up Ktb (fun h => by simp only [tL] at h; omega)))
  have Ksf : σ12 sf = some (11, oSo 0 0 0 rs 0) := ((show agT ((fun t => t = 11)) σ11 σ12 by rw [hσ12]; exact ag_up Ktb (fun h => by simp only at h; omega))) _ _ Ksf rfl
  have As : ALP ca DE σ12 rs 21 31 [] := As.fr ((show agT (tL 21 31) σ11 σ12 by rw [hσ12]; exact ag_up Ktb (fun h => by simp only [tL] at h; omega)))
  have M0 : σ12 hm = some (0, .inr (0, [.ref he, .ref we, .ref sf, .ref tb])) := ((show agT ((fun t => t = 0)) σ11 σ12 by rw [hσ12]; exact ag_up Ktb (fun h => by simp only at h; omega))) _ _ M0 rfl
  have Ktb : σ12 tb = some (5, aR ca 4 5 (va_up (fun _ => none) 0 (some we))) := by rw [hσ12]; exact so_us
  refine lv_aload_n S.1 S.2.1 d_HM_init_55 rfl (lv_at hl 0 rfl) ?_
  refine gf_HM_32_HM S K P M0 rfl d_HM_init_56 ?_
  refine lv_iconst (v := 1) S.1 S.2.1 d_HM_init_59 (by decide) ?_
  refine lv_aload_n S.1 S.2.1 d_HM_init_60 rfl (lv_at hl 0 rfl) ?_
  refine gf_HM_26_HM S K P M0 rfl d_HM_init_61 ?_
  refine so_aastN S K P hS Ktb 4 rfl (j := 1) (r := some sf) (fun v h => by cases h; exact ⟨_, 5, _, _, Ksf, rfl, va_Nw.of rfl (S.2.2.2.2 _ wd_1089)⟩) (by decide) (by decide) d_HM_init_64 (fun H locs P hS => ?_)
  obtain ⟨σ13, hσ13⟩ : ∃ z, z = so_up σ12 tb (5, aR ca 4 5 (va_up (va_up (fun _ => none) 0 (some we)) 1 (some sf))) := ⟨_, rfl⟩
  have P : so_P D vcl s0.heap.size σ13 H := by rw [hσ13]; exact P
  have Fr : fT tC σ σ13 := by rw [hσ13]; exact Fr.up Ktb (Or.inr (Or.inl rfl))
  have Ghe : HeR ca σ13 he th ho X_0 := Ghe.ag ((show agT (tH) σ12 σ13 by rw [hσ13]; exact ag_up Ktb (fun h => by simp only [tH] at h; omega)))
  have Kwe : σ13 we = some (10, oWe 0 0 0 rw mv (nI 4)) := ((show agT ((fun t => t = 10)) σ12 σ13 by rw [hσ13]; exact ag_up Ktb (fun h => by simp only at h; omega))) _ _ Kwe rfl
  have Aw : ALP ca DE σ13 rw 20 30 [] := Aw.fr ((show agT (tL 20 30) σ12 σ13 by rw [hσ13]; exact ag_up Ktb (fun h => by simp only [tL] at h; omega)))
  have Am : ALP ca DE σ13 mv 80 90 [] := Am.fr ((show agT (tL 80 90) σ12 σ13 by rw [hσ13]; exact ag_up Ktb (fun h => by simp only [tL] at h; omega)))
  have Ksf : σ13 sf = some (11, oSo 0 0 0 rs 0) := ((show agT ((fun t => t = 11)) σ12 σ13 by rw [hσ13]; exact ag_up Ktb (fun h => by simp only at h; omega))) _ _ Ksf rfl
  have As : ALP ca DE σ13 rs 21 31 [] := As.fr ((show agT (tL 21 31) σ12 σ13 by rw [hσ13]; exact ag_up Ktb (fun h => by simp only [tL] at h; omega)))
  have M0 : σ13 hm = some (0, .inr (0, [.ref he, .ref we, .ref sf, .ref tb])) := ((show agT ((fun t => t = 0)) σ12 σ13 by rw [hσ13]; exact ag_up Ktb (fun h => by simp only at h; omega))) _ _ M0 rfl
  have Ktb : σ13 tb = some (5, aR ca 4 5 (va_up (va_up (fun _ => none) 0 (some we)) 1 (some sf))) := by rw [hσ13]; exact so_us
  refine lv_aload_n S.1 S.2.1 d_HM_init_65 rfl (lv_at hl 0 rfl) ?_
  refine gf_HM_32_HM S K P M0 rfl d_HM_init_66 ?_
  refine lv_iconst (v := 2) S.1 S.2.1 d_HM_init_69 (by decide) ?_
  refine so_new (ci := 6) 12 S K P hS E.2.1 i_Id t_Id t_Id_ok (S.2.2.2.2 _ wd_153) (S.2.2.2.2 _ wd_154) (S.2.2.2.2 _ wd_10) rfl (fs := [.int 0, .int 0, .int 0, .null, .int 0]) (fun j hj => by rcases j with _ | _ | _ | _ | _ | j <;> first | rfl | omega) (by show _ ≤ _; decide) (by show _ ≤ _; decide) d_HM_init_70 (fun ii H hq P hS => ?_)
  obtain ⟨σ14, hσ14⟩ : ∃ z, z = so_up σ13 ii (12, .inr (6, [.int 0, .int 0, .int 0, .null, .int 0])) := ⟨_, rfl⟩
  have P : so_P D vcl s0.heap.size σ14 H := by rw [hσ14]; exact P
  have Fr : fT tC σ σ14 := by rw [hσ14]; exact Fr.nw hq
  have Ghe : HeR ca σ14 he th ho X_0 := Ghe.ag ((show agT (tH) σ13 σ14 by rw [hσ14]; exact ag_nw hq))
  have Kwe : σ14 we = some (10, oWe 0 0 0 rw mv (nI 4)) := ((show agT ((fun t => t = 10)) σ13 σ14 by rw [hσ14]; exact ag_nw hq)) _ _ Kwe rfl
  have Aw : ALP ca DE σ14 rw 20 30 [] := Aw.fr ((show agT (tL 20 30) σ13 σ14 by rw [hσ14]; exact ag_nw hq))
  have Am : ALP ca DE σ14 mv 80 90 [] := Am.fr ((show agT (tL 80 90) σ13 σ14 by rw [hσ14]; exact ag_nw hq))
  have Ksf : σ14 sf = some (11, oSo 0 0 0 rs 0) := ((show agT ((fun t => t = 11)) σ13 σ14 by rw [hσ14]; exact ag_nw hq)) _ _ Ksf rfl
  have As : ALP ca DE σ14 rs 21 31 [] := As.fr ((show agT (tL 21 31) σ13 σ14 by rw [hσ14]; exact ag_nw hq))
  have M0 : σ14 hm = some (0, .inr (0, [.ref he, .ref we, .ref sf, .ref tb])) := ((show agT ((fun t => t = 0)) σ13 σ14 by rw [hσ14]; exact ag_nw hq)) _ _ M0 rfl
  have Ktb : σ14 tb = some (5, aR ca 4 5 (va_up (va_up (fun _ => none) 0 (some we)) 1 (some sf))) := ((show agT ((fun t => t = 5)) σ13 σ14 by rw [hσ14]; exact ag_nw hq)) _ _ Ktb rfl
  have Kii : σ14 ii = some (12, .inr (6, [.int 0, .int 0, .int 0, .null, .int 0])) := by rw [hσ14]; exact so_us
  refine lv_dup S.1 S.2.1 d_HM_init_73 rfl ?_
  refine so_call (ci_HM_38 S hB E P hS (c_Id_init l hB Kii) rfl (by decide) (by decide) (by decide) hl.1 rfl (Nat.le_of_ble_eq_true rfl) d_HM_init_74) hS (fun v σ15 H locs hv P hS => ?_)
  obtain ⟨rfl, ri, k1, k2, F9⟩ := hv
  have Fr := Fr.tr (F9.mono (fun t h => tC_M (mp := 2) (by decide) t (tR_M t h)))
  have Ghe : HeR ca σ15 he th ho X_0 := Ghe.ag ((F9.ag (P := tH) (fun t h z => by unfold tH tR at *; omega)))
  have Kwe : σ15 we = some (10, oWe 0 0 0 rw mv (nI 4)) := ((F9.ag (P := (fun t => t = 10)) (fun t h z => by unfold tR at *; omega))) _ _ Kwe rfl
  have Aw : ALP ca DE σ15 rw 20 30 [] := Aw.fr ((F9.ag (P := tL 20 30) (fun t h z => by unfold tL tR at *; omega)))
  have Am : ALP ca DE σ15 mv 80 90 [] := Am.fr ((F9.ag (P := tL 80 90) (fun t h z => by unfold tL tR at *; omega)))
  have Ksf : σ15 sf = some (11, oSo 0 0 0 rs 0) := ((F9.ag (P := (fun t => t = 11)) (fun t h z => by unfold tR at *; omega))) _ _ Ksf rfl
  have As : ALP ca DE σ15 rs 21 31 [] := As.fr ((F9.ag (P := tL 21 31) (fun t h z => by unfold tL tR at *; omega)))
  have M0 : σ15 hm = some (0, .inr (0, [.ref he, .ref we, .ref sf, .ref tb])) := ((F9.ag (P := (fun t => t = 0)) (fun t h z => by unfold tR at *; omega))) _ _ M0 rfl
  have Ktb : σ15 tb = some (5, aR ca 4 5 (va_up (va_up (fun _ => none) 0 (some we)) 1 (some sf))) := ((F9.ag (P := (fun t => t = 5)) (fun t h z => by unfold tR at *; omega))) _ _ Ktb rfl
  have Kii : σ15 ii = some (12, oId 0 0 0 ri 0) := k1
  have Ai : IdR ca σ15 ri (fun _ => none) := k2
  refine so_aastN S K P hS Ktb 4 rfl (j := 2) (r := some ii) (fun v h => by cases h; exact ⟨_, 6, _, _, Kii, rfl, va_Nw.of rfl (S.2.2.2.2 _ wd_1086)⟩) (by decide) (by decide) d_HM_init_77 (fun H locs P hS => ?_)
  obtain ⟨σ16, hσ16⟩ : ∃ z, z = so_up σ15 tb (5, aR ca 4 5 (va_up (va_up (va_up (fun _ => none) 0 (some we)) 1 (some sf)) 2 (some ii))) := ⟨_, rfl⟩
  have P : so_P D vcl s0.heap.size σ16 H := by rw [hσ16]; exact P
  have Fr : fT tC σ σ16 := by rw [hσ16]; exact Fr.up Ktb (Or.inr (Or.inl rfl))
  have Ghe : HeR ca σ16 he th ho X_0 := Ghe.ag ((show agT (tH) σ15 σ16 by rw [hσ16]; exact ag_up Ktb (fun h => by simp only [tH] at h; omega)))
  have Kwe : σ16 we = some (10, oWe 0 0 0 rw mv (nI 4)) := ((show agT ((fun t => t = 10)) σ15 σ16 by rw [hσ16]; exact ag_up Ktb (fun h => by simp only at h; omega))) _ _ Kwe rfl
  have Aw : ALP ca DE σ16 rw 20 30 [] := Aw.fr ((show agT (tL 20 30) σ15 σ16 by rw [hσ16]; exact ag_up Ktb (fun h => by simp only [tL] at h; omega)))
  have Am : ALP ca DE σ16 mv 80 90 [] := Am.fr ((show agT (tL 80 90) σ15 σ16 by rw [hσ16]; exact ag_up Ktb (fun h => by simp only [tL] at h; omega)))
  have Ksf : σ16 sf = some (11, oSo 0 0 0 rs 0) := ((show agT ((fun t => t = 11)) σ15 σ16 by rw [hσ16]; exact ag_up Ktb (fun h => by simp only at h; omega))) _ _ Ksf rfl
  have As : ALP ca DE σ16 rs 21 31 [] := As.fr ((show agT (tL 21 31) σ15 σ16 by rw [hσ16]; exact ag_up Ktb (fun h => by simp only [tL] at h; omega)))
  have M0 : σ16 hm = some (0, .inr (0, [.ref he, .ref we, .ref sf, .ref tb])) := ((show agT ((fun t => t = 0)) σ15 σ16 by rw [hσ16]; exact ag_up Ktb (fun h => by simp only at h; omega))) _ _ M0 rfl
  have Kii : σ16 ii = some (12, oId 0 0 0 ri 0) := ((show agT ((fun t => t = 12)) σ15 σ16 by rw [hσ16]; exact ag_up Ktb (fun h => by simp only at h; omega))) _ _ Kii rfl
  have Ai : IdR ca σ16 ri (fun _ => none) := ⟨((show agT ((fun t => t = 32)) σ15 σ16 by rw [hσ16]; exact ag_up Ktb (fun h => by simp only at h; omega))) _ _ Ai.1 rfl, fun i _ x hx => by cases hx⟩
  have Ktb : σ16 tb = some (5, aR ca 4 5 (va_up (va_up (va_up (fun _ => none) 0 (some we)) 1 (some sf)) 2 (some ii))) := by rw [hσ16]; exact so_us
  refine lv_aload_n S.1 S.2.1 d_HM_init_78 rfl (lv_at hl 0 rfl) ?_
  refine gf_HM_32_HM S K P M0 rfl d_HM_init_79 ?_
  refine lv_iconst (v := 3) S.1 S.2.1 d_HM_init_82 (by decide) ?_
  refine so_new (ci := 7) 13 S K P hS E.2.1 i_Pl t_Pl t_Pl_ok (S.2.2.2.2 _ wd_171) (S.2.2.2.2 _ wd_172) (S.2.2.2.2 _ wd_11) rfl (fs := [.int 0, .int 0, .int 0, .null]) (fun j hj => by rcases j with _ | _ | _ | _ | j <;> first | rfl | omega) (by show _ ≤ _; decide) (by show _ ≤ _; decide) d_HM_init_83 (fun pp H hq P hS => ?_)
  obtain ⟨σ17, hσ17⟩ : ∃ z, z = so_up σ16 pp (13, .inr (7, [.int 0, .int 0, .int 0, .null])) := ⟨_, rfl⟩
  have P : so_P D vcl s0.heap.size σ17 H := by rw [hσ17]; exact P
  have Fr : fT tC σ σ17 := by rw [hσ17]; exact Fr.nw hq
  have Ghe : HeR ca σ17 he th ho X_0 := Ghe.ag ((show agT (tH) σ16 σ17 by rw [hσ17]; exact ag_nw hq))
  have Kwe : σ17 we = some (10, oWe 0 0 0 rw mv (nI 4)) := ((show agT ((fun t => t = 10)) σ16 σ17 by rw [hσ17]; exact ag_nw hq)) _ _ Kwe rfl
  have Aw : ALP ca DE σ17 rw 20 30 [] := Aw.fr ((show agT (tL 20 30) σ16 σ17 by rw [hσ17]; exact ag_nw hq))
  have Am : ALP ca DE σ17 mv 80 90 [] := Am.fr ((show agT (tL 80 90) σ16 σ17 by rw [hσ17]; exact ag_nw hq))
  have Ksf : σ17 sf = some (11, oSo 0 0 0 rs 0) := ((show agT ((fun t => t = 11)) σ16 σ17 by rw [hσ17]; exact ag_nw hq)) _ _ Ksf rfl
  have As : ALP ca DE σ17 rs 21 31 [] := As.fr ((show agT (tL 21 31) σ16 σ17 by rw [hσ17]; exact ag_nw hq))
  have M0 : σ17 hm = some (0, .inr (0, [.ref he, .ref we, .ref sf, .ref tb])) := ((show agT ((fun t => t = 0)) σ16 σ17 by rw [hσ17]; exact ag_nw hq)) _ _ M0 rfl
  have Kii : σ17 ii = some (12, oId 0 0 0 ri 0) := ((show agT ((fun t => t = 12)) σ16 σ17 by rw [hσ17]; exact ag_nw hq)) _ _ Kii rfl
  have Ai : IdR ca σ17 ri (fun _ => none) := ⟨((show agT ((fun t => t = 32)) σ16 σ17 by rw [hσ17]; exact ag_nw hq)) _ _ Ai.1 rfl, fun i _ x hx => by cases hx⟩
  have Ktb : σ17 tb = some (5, aR ca 4 5 (va_up (va_up (va_up (fun _ => none) 0 (some we)) 1 (some sf)) 2 (some ii))) := ((show agT ((fun t => t = 5)) σ16 σ17 by rw [hσ17]; exact ag_nw hq)) _ _ Ktb rfl
  have Kpp : σ17 pp = some (13, .inr (7, [.int 0, .int 0, .int 0, .null])) := by rw [hσ17]; exact so_us
  refine lv_dup S.1 S.2.1 d_HM_init_86 rfl ?_
  refine so_call (ci_HM_41 S hB E P hS (c_Pl_init l hB J Kpp) rfl (by decide) (by decide) (by decide) hl.1 rfl (Nat.le_of_ble_eq_true rfl) d_HM_init_87) hS (fun v σ18 H locs hv P hS => ?_)
  obtain ⟨rfl, rp, _, k1, k2, F9⟩ := hv
  have Fr := Fr.tr (F9.mono (fun t h => tC_M (mp := 3) (by decide) t (tR_M t h)))
  have Ghe : HeR ca σ18 he th ho X_0 := Ghe.ag ((F9.ag (P := tH) (fun t h z => by unfold tH tR at *; omega)))
  have Kwe : σ18 we = some (10, oWe 0 0 0 rw mv (nI 4)) := ((F9.ag (P := (fun t => t = 10)) (fun t h z => by unfold tR at *; omega))) _ _ Kwe rfl
  have Aw : ALP ca DE σ18 rw 20 30 [] := Aw.fr ((F9.ag (P := tL 20 30) (fun t h z => by unfold tL tR at *; omega)))
  have Am : ALP ca DE σ18 mv 80 90 [] := Am.fr ((F9.ag (P := tL 80 90) (fun t h z => by unfold tL tR at *; omega)))
  have Ksf : σ18 sf = some (11, oSo 0 0 0 rs 0) := ((F9.ag (P := (fun t => t = 11)) (fun t h z => by unfold tR at *; omega))) _ _ Ksf rfl
  have As : ALP ca DE σ18 rs 21 31 [] := As.fr ((F9.ag (P := tL 21 31) (fun t h z => by unfold tL tR at *; omega)))
  have M0 : σ18 hm = some (0, .inr (0, [.ref he, .ref we, .ref sf, .ref tb])) := ((F9.ag (P := (fun t => t = 0)) (fun t h z => by unfold tR at *; omega))) _ _ M0 rfl
  have Kii : σ18 ii = some (12, oId 0 0 0 ri 0) := ((F9.ag (P := (fun t => t = 12)) (fun t h z => by unfold tR at *; omega))) _ _ Kii rfl
  have Ai : IdR ca σ18 ri (fun _ => none) := ⟨((F9.ag (P := (fun t => t = 32)) (fun t h z => by unfold tR at *; omega))) _ _ Ai.1 rfl, fun i _ x hx => by cases hx⟩
  have Ktb : σ18 tb = some (5, aR ca 4 5 (va_up (va_up (va_up (fun _ => none) 0 (some we)) 1 (some sf)) 2 (some ii))) := ((F9.ag (P := (fun t => t = 5)) (fun t h z => by unfold tR at *; omega))) _ _ Ktb rfl
  have Kpp : σ18 pp = some (13, oPl 0 0 0 rp) := k1
  have Ap : ALP ca DE σ18 rp 23 33 [] := k2
  refine so_aastN S K P hS Ktb 4 rfl (j := 3) (r := some pp) (fun v h => by cases h; exact ⟨_, 7, _, _, Kpp, rfl, va_Nw.of rfl (S.2.2.2.2 _ wd_1088)⟩) (by decide) (by decide) d_HM_init_90 (fun H locs P hS => ?_)
  obtain ⟨σ19, hσ19⟩ : ∃ z, z = so_up σ18 tb (5, aR ca 4 5 (va_up (va_up (va_up (va_up (fun _ => none) 0 (some we)) 1 (some sf)) 2 (some ii)) 3 (some pp))) := ⟨_, rfl⟩
  have P : so_P D vcl s0.heap.size σ19 H := by rw [hσ19]; exact P
  have Fr : fT tC σ σ19 := by rw [hσ19]; exact Fr.up Ktb (Or.inr (Or.inl rfl))
  have Ghe : HeR ca σ19 he th ho X_0 := Ghe.ag ((show agT (tH) σ18 σ19 by rw [hσ19]; exact ag_up Ktb (fun h => by simp only [tH] at h; omega)))
  have Kwe : σ19 we = some (10, oWe 0 0 0 rw mv (nI 4)) := ((show agT ((fun t => t = 10)) σ18 σ19 by rw [hσ19]; exact ag_up Ktb (fun h => by simp only at h; omega))) _ _ Kwe rfl
  have Aw : ALP ca DE σ19 rw 20 30 [] := Aw.fr ((show agT (tL 20 30) σ18 σ19 by rw [hσ19]; exact ag_up Ktb (fun h => by simp only [tL] at h; omega)))
  have Am : ALP ca DE σ19 mv 80 90 [] := Am.fr ((show agT (tL 80 90) σ18 σ19 by rw [hσ19]; exact ag_up Ktb (fun h => by simp only [tL] at h; omega)))
  have Ksf : σ19 sf = some (11, oSo 0 0 0 rs 0) := ((show agT ((fun t => t = 11)) σ18 σ19 by rw [hσ19]; exact ag_up Ktb (fun h => by simp only at h; omega))) _ _ Ksf rfl
  have As : ALP ca DE σ19 rs 21 31 [] := As.fr ((show agT (tL 21 31) σ18 σ19 by rw [hσ19]; exact ag_up Ktb (fun h => by simp only [tL] at h; omega)))
  have M0 : σ19 hm = some (0, .inr (0, [.ref he, .ref we, .ref sf, .ref tb])) := ((show agT ((fun t => t = 0)) σ18 σ19 by rw [hσ19]; exact ag_up Ktb (fun h => by simp only at h; omega))) _ _ M0 rfl
  have Kii : σ19 ii = some (12, oId 0 0 0 ri 0) := ((show agT ((fun t => t = 12)) σ18 σ19 by rw [hσ19]; exact ag_up Ktb (fun h => by simp only at h; omega))) _ _ Kii rfl
  have Ai : IdR ca σ19 ri (fun _ => none) := ⟨((show agT ((fun t => t = 32)) σ18 σ19 by rw [hσ19]; exact ag_up Ktb (fun h => by simp only at h; omega))) _ _ Ai.1 rfl, fun i _ x hx => by cases hx⟩
  have Kpp : σ19 pp = some (13, oPl 0 0 0 rp) := ((show agT ((fun t => t = 13)) σ18 σ19 by rw [hσ19]; exact ag_up Ktb (fun h => by simp only at h; omega))) _ _ Kpp rfl
  have Ap : ALP ca DE σ19 rp 23 33 [] := Ap.fr ((show agT (tL 23 33) σ18 σ19 by rw [hσ19]; exact ag_up Ktb (fun h => by simp only [tL] at h; omega)))
  have Ktb : σ19 tb = some (5, aR ca 4 5 (va_up (va_up (va_up (va_up (fun _ => none) 0 (some we)) 1 (some sf)) 2 (some ii)) 3 (some pp))) := by rw [hσ19]; exact so_us
  refine lv_aload_n S.1 S.2.1 d_HM_init_91 rfl (lv_at hl 0 rfl) ?_
  refine gf_HM_32_HM S K P M0 rfl d_HM_init_92 ?_
  refine lv_iconst (v := 4) S.1 S.2.1 d_HM_init_95 (by decide) ?_
  refine so_new (ci := 8) 14 S K P hS E.2.1 i_La t_La t_La_ok (S.2.2.2.2 _ wd_182) (S.2.2.2.2 _ wd_183) (S.2.2.2.2 _ wd_12) rfl (fs := [.int 0, .int 0, .int 0, .null]) (fun j hj => by rcases j with _ | _ | _ | _ | j <;> first | rfl | omega) (by show _ ≤ _; decide) (by show _ ≤ _; decide) d_HM_init_96 (fun ll H hq P hS => ?_)
  obtain ⟨σ20, hσ20⟩ : ∃ z, z = so_up σ19 ll (14, .inr (8, [.int 0, .int 0, .int 0, .null])) := ⟨_, rfl⟩
  have P : so_P D vcl s0.heap.size σ20 H := by rw [hσ20]; exact P
  have Fr : fT tC σ σ20 := by rw [hσ20]; exact Fr.nw hq
  have Ghe : HeR ca σ20 he th ho X_0 := Ghe.ag ((show agT (tH) σ19 σ20 by rw [hσ20]; exact ag_nw hq))
  have Kwe : σ20 we = some (10, oWe 0 0 0 rw mv (nI 4)) := ((show agT ((fun t => t = 10)) σ19 σ20 by rw [hσ20]; exact ag_nw hq)) _ _ Kwe rfl
  have Aw : ALP ca DE σ20 rw 20 30 [] := Aw.fr ((show agT (tL 20 30) σ19 σ20 by rw [hσ20]; exact ag_nw hq))
  have Am : ALP ca DE σ20 mv 80 90 [] := Am.fr ((show agT (tL 80 90) σ19 σ20 by rw [hσ20]; exact ag_nw hq))
  have Ksf : σ20 sf = some (11, oSo 0 0 0 rs 0) := ((show agT ((fun t => t = 11)) σ19 σ20 by rw [hσ20]; exact ag_nw hq)) _ _ Ksf rfl
  have As : ALP ca DE σ20 rs 21 31 [] := As.fr ((show agT (tL 21 31) σ19 σ20 by rw [hσ20]; exact ag_nw hq))
  have M0 : σ20 hm = some (0, .inr (0, [.ref he, .ref we, .ref sf, .ref tb])) := ((show agT ((fun t => t = 0)) σ19 σ20 by rw [hσ20]; exact ag_nw hq)) _ _ M0 rfl
  have Kii : σ20 ii = some (12, oId 0 0 0 ri 0) := ((show agT ((fun t => t = 12)) σ19 σ20 by rw [hσ20]; exact ag_nw hq)) _ _ Kii rfl
  have Ai : IdR ca σ20 ri (fun _ => none) := ⟨((show agT ((fun t => t = 32)) σ19 σ20 by rw [hσ20]; exact ag_nw hq)) _ _ Ai.1 rfl, fun i _ x hx => by cases hx⟩
  have Kpp : σ20 pp = some (13, oPl 0 0 0 rp) := ((show agT ((fun t => t = 13)) σ19 σ20 by rw [hσ20]; exact ag_nw hq)) _ _ Kpp rfl
  have Ap : ALP ca DE σ20 rp 23 33 [] := Ap.fr ((show agT (tL 23 33) σ19 σ20 by rw [hσ20]; exact ag_nw hq))
  have Ktb : σ20 tb = some (5, aR ca 4 5 (va_up (va_up (va_up (va_up (fun _ => none) 0 (some we)) 1 (some sf)) 2 (some ii)) 3 (some pp))) := ((show agT ((fun t => t = 5)) σ19 σ20 by rw [hσ20]; exact ag_nw hq)) _ _ Ktb rfl
  have Kll : σ20 ll = some (14, .inr (8, [.int 0, .int 0, .int 0, .null])) := by rw [hσ20]; exact so_us
  refine lv_dup S.1 S.2.1 d_HM_init_99 rfl ?_
  refine so_call (ci_HM_44 S hB E P hS (c_La_init l hB J Kll) rfl (by decide) (by decide) (by decide) hl.1 rfl (Nat.le_of_ble_eq_true rfl) d_HM_init_100) hS (fun v σ21 H locs hv P hS => ?_)
  obtain ⟨rfl, rl, _, k1, k2, F9⟩ := hv
  have Fr := Fr.tr (F9.mono (fun t h => tC_M (mp := 4) (by decide) t (tR_M t h)))
  have Ghe : HeR ca σ21 he th ho X_0 := Ghe.ag ((F9.ag (P := tH) (fun t h z => by unfold tH tR at *; omega)))
  have Kwe : σ21 we = some (10, oWe 0 0 0 rw mv (nI 4)) := ((F9.ag (P := (fun t => t = 10)) (fun t h z => by unfold tR at *; omega))) _ _ Kwe rfl
  have Aw : ALP ca DE σ21 rw 20 30 [] := Aw.fr ((F9.ag (P := tL 20 30) (fun t h z => by unfold tL tR at *; omega)))
  have Am : ALP ca DE σ21 mv 80 90 [] := Am.fr ((F9.ag (P := tL 80 90) (fun t h z => by unfold tL tR at *; omega)))
  have Ksf : σ21 sf = some (11, oSo 0 0 0 rs 0) := ((F9.ag (P := (fun t => t = 11)) (fun t h z => by unfold tR at *; omega))) _ _ Ksf rfl
  have As : ALP ca DE σ21 rs 21 31 [] := As.fr ((F9.ag (P := tL 21 31) (fun t h z => by unfold tL tR at *; omega)))
  have M0 : σ21 hm = some (0, .inr (0, [.ref he, .ref we, .ref sf, .ref tb])) := ((F9.ag (P := (fun t => t = 0)) (fun t h z => by unfold tR at *; omega))) _ _ M0 rfl
  have Kii : σ21 ii = some (12, oId 0 0 0 ri 0) := ((F9.ag (P := (fun t => t = 12)) (fun t h z => by unfold tR at *; omega))) _ _ Kii rfl
  have Ai : IdR ca σ21 ri (fun _ => none) := ⟨((F9.ag (P := (fun t => t = 32)) (fun t h z => by unfold tR at *; omega))) _ _ Ai.1 rfl, fun i _ x hx => by cases hx⟩
  have Kpp : σ21 pp = some (13, oPl 0 0 0 rp) := ((F9.ag (P := (fun t => t = 13)) (fun t h z => by unfold tR at *; omega))) _ _ Kpp rfl
  have Ap : ALP ca DE σ21 rp 23 33 [] := Ap.fr ((F9.ag (P := tL 23 33) (fun t h z => by unfold tL tR at *; omega)))
  have Ktb : σ21 tb = some (5, aR ca 4 5 (va_up (va_up (va_up (va_up (fun _ => none) 0 (some we)) 1 (some sf)) 2 (some ii)) 3 (some pp))) := ((F9.ag (P := (fun t => t = 5)) (fun t h z => by unfold tR at *; omega))) _ _ Ktb rfl
  have Kll : σ21 ll = some (14, oLa 0 0 0 rl) := k1
  have Al : ALP ca DE σ21 rl 24 34 [] := k2
  refine so_aastN S K P hS Ktb 4 rfl (j := 4) (r := some ll) (fun v h => by cases h; exact ⟨_, 8, _, _, Kll, rfl, va_Nw.of rfl (S.2.2.2.2 _ wd_1087)⟩) (by decide) (by decide) d_HM_init_103 (fun H locs P hS => ?_)
  obtain ⟨σ22, hσ22⟩ : ∃ z, z = so_up σ21 tb (5, aR ca 4 5 (va_up (va_up (va_up (va_up (va_up (fun _ => none) 0 (some we)) 1 (some sf)) 2 (some ii)) 3 (some pp)) 4 (some ll))) := ⟨_, rfl⟩
  have P : so_P D vcl s0.heap.size σ22 H := by rw [hσ22]; exact P
  have Fr : fT tC σ σ22 := by rw [hσ22]; exact Fr.up Ktb (Or.inr (Or.inl rfl))
  have Ghe : HeR ca σ22 he th ho X_0 := Ghe.ag ((show agT (tH) σ21 σ22 by rw [hσ22]; exact ag_up Ktb (fun h => by simp only [tH] at h; omega)))
  have Kwe : σ22 we = some (10, oWe 0 0 0 rw mv (nI 4)) := ((show agT ((fun t => t = 10)) σ21 σ22 by rw [hσ22]; exact ag_up Ktb (fun h => by simp only at h; omega))) _ _ Kwe rfl
  have Aw : ALP ca DE σ22 rw 20 30 [] := Aw.fr ((show agT (tL 20 30) σ21 σ22 by rw [hσ22]; exact ag_up Ktb (fun h => by simp only [tL] at h; omega)))
  have Am : ALP ca DE σ22 mv 80 90 [] := Am.fr ((show agT (tL 80 90) σ21 σ22 by rw [hσ22]; exact ag_up Ktb (fun h => by simp only [tL] at h; omega)))
  have Ksf : σ22 sf = some (11, oSo 0 0 0 rs 0) := ((show agT ((fun t => t = 11)) σ21 σ22 by rw [hσ22]; exact ag_up Ktb (fun h => by simp only at h; omega))) _ _ Ksf rfl
  have As : ALP ca DE σ22 rs 21 31 [] := As.fr ((show agT (tL 21 31) σ21 σ22 by rw [hσ22]; exact ag_up Ktb (fun h => by simp only [tL] at h; omega)))
  have M0 : σ22 hm = some (0, .inr (0, [.ref he, .ref we, .ref sf, .ref tb])) := ((show agT ((fun t => t = 0)) σ21 σ22 by rw [hσ22]; exact ag_up Ktb (fun h => by simp only at h; omega))) _ _ M0 rfl
  have Kii : σ22 ii = some (12, oId 0 0 0 ri 0) := ((show agT ((fun t => t = 12)) σ21 σ22 by rw [hσ22]; exact ag_up Ktb (fun h => by simp only at h; omega))) _ _ Kii rfl
  have Ai : IdR ca σ22 ri (fun _ => none) := ⟨((show agT ((fun t => t = 32)) σ21 σ22 by rw [hσ22]; exact ag_up Ktb (fun h => by simp only at h; omega))) _ _ Ai.1 rfl, fun i _ x hx => by cases hx⟩
  have Kpp : σ22 pp = some (13, oPl 0 0 0 rp) := ((show agT ((fun t => t = 13)) σ21 σ22 by rw [hσ22]; exact ag_up Ktb (fun h => by simp only at h; omega))) _ _ Kpp rfl
  have Ap : ALP ca DE σ22 rp 23 33 [] := Ap.fr ((show agT (tL 23 33) σ21 σ22 by rw [hσ22]; exact ag_up Ktb (fun h => by simp only [tL] at h; omega)))
  have Kll : σ22 ll = some (14, oLa 0 0 0 rl) := ((show agT ((fun t => t = 14)) σ21 σ22 by rw [hσ22]; exact ag_up Ktb (fun h => by simp only at h; omega))) _ _ Kll rfl
  have Al : ALP ca DE σ22 rl 24 34 [] := Al.fr ((show agT (tL 24 34) σ21 σ22 by rw [hσ22]; exact ag_up Ktb (fun h => by simp only [tL] at h; omega)))
  have Ktb : σ22 tb = some (5, aR ca 4 5 (va_up (va_up (va_up (va_up (va_up (fun _ => none) 0 (some we)) 1 (some sf)) 2 (some ii)) 3 (some pp)) 4 (some ll))) := by rw [hσ22]; exact so_us
  refine so_vret S hr hlk P hS (by decide) (by decide) ⟨rfl, ⟨(tb, he, th, ho, axF we sf ii pp ll, axF rw rs ri rp rl, mv), M0, ⟨_, Ktb, fun i hi => lt5 (P := fun i => va_up (va_up (va_up (va_up (va_up (fun _ => none) 0 (some we)) 1 (some sf)) 2 (some ii)) 3 (some pp)) 4 (some ll) i = some (axF we sf ii pp ll i)) hi rfl rfl rfl rfl rfl⟩, Ghe, ⟨⟨Kwe, RwR.nil Aw, [], Am⟩, ⟨Ksf, RwR.nil As⟩, ⟨Kii, Ai⟩, ⟨Kpp, RwR.nil Ap⟩, ⟨Kll, RwR.nil Al⟩⟩⟩, Fr⟩ d_HM_init_104

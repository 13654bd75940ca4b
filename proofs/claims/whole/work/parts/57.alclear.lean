/-! ArrayList: clear. -/
/-- the list al, its row ed of cap places, n of them in use -/
def ALR (ca : Nat → ClassId) (σ : so_S) (al tg ed te : Nat) (md : Int32) (n cap : Nat) (f : Nat → Option Nat) : Prop := σ al = some (tg, oAL md ed (nI n)) ∧ σ ed = some (te, aR ca 6 cap f)
set_option maxHeartbeats 400000 in
set_option maxRecDepth 100000 in
theorem c_AL_clear (l : Launch) {s0 : State} {D : va_G} {ca : Nat → ClassId} (hB : so_B tbl s0 D vcl (tyl ca)) {σ : so_S} {al tg ed te : Nat} {md : Int32} {n cap : Nat} {f : Nat → Option Nat} (M : ALR ca σ al tg ed te md n cap f) (hnc : n ≤ cap) (hcap : cap < 2 ^ 31) (hne : al ≠ ed) : so_C l s0 D vcl y_AL_clear b_AL_clear 4 none 0 0 0 [.ref al] σ (fun v σ1 => v = none ∧ (∃ md1 f1, ALR ca σ1 al tg ed te md1 0 cap f1) ∧ ∀ r, r ≠ al → r ≠ ed → σ1 r = σ r) := by
  refine so_of hB (by decide) (Nat.le_of_ble_eq_true rfl) ?_
  intro p e s m below meth c ls S K E hr hlk hnm P hS hl
  have hl : lv_has ls 4 [(0, .ref al)] := hl
  refine lv_aload_n S.1 S.2.1 d_AL_clear_0 rfl (lv_at hl 0 rfl) ?_
  refine lv_dup S.1 S.2.1 d_AL_clear_1 rfl ?_
  refine gf_AL_63_AL S K P M.1 rfl d_AL_clear_2 ?_
  refine lv_iconst (v := 1) S.1 S.2.1 d_AL_clear_5 (by decide) ?_
  refine lv_iadd S.1 S.2.1 d_AL_clear_6 ?_
  refine pf_AL_63_AL S K P hS M.1 (Nat.le_of_ble_eq_true rfl) rfl rfl d_AL_clear_7 (fun H locs P hS => ?_)
  have M1 : so_up σ al (tg, oAL (md + 1) ed (nI n)) al = some (tg, oAL (md + 1) ed (nI n)) := so_us
  have P : so_P D vcl s0.heap.size (so_up σ al (tg, oAL (md + 1) ed (nI n))) H := P
  refine lv_aload_n S.1 S.2.1 d_AL_clear_10 rfl (lv_at hl 0 rfl) ?_
  refine gf_AL_9_AL S K P M1 rfl d_AL_clear_11 ?_
  refine lv_astore_n S.1 S.2.1 d_AL_clear_14 rfl hl (by decide) rfl (fun ls hl => ?_)
  refine lv_aload_n S.1 S.2.1 d_AL_clear_15 rfl (lv_at hl 1 rfl) ?_
  refine gf_AL_48_AL S K P M1 rfl d_AL_clear_16 ?_
  refine lv_istore_n S.1 S.2.1 d_AL_clear_19 rfl hl (by decide) rfl (fun ls hl => ?_)
  refine lv_aload_n S.1 S.2.1 d_AL_clear_20 rfl (lv_at hl 2 rfl) ?_
  refine lv_iconst (v := 0) S.1 S.2.1 d_AL_clear_21 (by decide) ?_
  refine lv_dup_x1 S.1 S.2.1 d_AL_clear_22 rfl rfl ?_
  refine pf_AL_48_AL S K P hS M1 (Nat.le_of_ble_eq_true rfl) rfl rfl d_AL_clear_23 (fun H locs P hS => ?_)
  refine lv_istore_n S.1 S.2.1 d_AL_clear_26 rfl hl (by decide) rfl (fun ls hl => ?_)
  obtain ⟨σ2, hσ2⟩ : ∃ q, q = so_up (so_up σ al (tg, oAL (md + 1) ed (nI n))) al (tg, oAL (md + 1) ed (nI 0)) := ⟨_, rfl⟩
  have P : so_P D vcl s0.heap.size σ2 H := by rw [hσ2]; exact P
  have M2 : ALR ca σ2 al tg ed te (md + 1) 0 cap f := by
    rw [hσ2]
    exact ⟨so_us, by rw [so_un (Ne.symm hne), so_un (Ne.symm hne)]; exact M.2⟩
  have Fr : ∀ r, r ≠ al → r ≠ ed → σ2 r = σ r := fun r h _ => by rw [hσ2, so_un h, so_un h]
  refine so_lp (Wf := fun ls H locs σ1 (_ : Nat × (Nat → Option Nat)) => W p l e _ s m _ below meth c H locs _ _ _ (F0 m 27 ls [])) (fun n1 ls H locs σ1 a => n1 = n - a.1 ∧ a.1 ≤ n ∧ lv_has ls 4 [(3, .int (nI a.1)), (2, .int (nI n)), (1, .ref ed), (0, .ref al)] ∧ so_P D vcl s0.heap.size σ1 H ∧ va_S (so_A s0.heap.size) s.heap H locs ∧ ALR ca σ1 al tg ed te (md + 1) 0 cap a.2 ∧ ∀ r, r ≠ al → r ≠ ed → σ1 r = σ r) ?_ _ ls H locs σ2 (0, f) ⟨rfl, Nat.zero_le _, hl, P, hS, M2, Fr⟩
  clear hl P hS M M1 M2 Fr hσ2
  rintro n1 ls H locs σ3 ⟨i, f1⟩ ⟨hn1, hi1, hl, P, hS, M, Fr⟩ ih
  simp only at hn1 hi1 hl M ih
  refine lv_iload_n S.1 S.2.1 d_AL_clear_27 rfl (lv_at hl 0 rfl) ?_
  refine lv_iload_n S.1 S.2.1 d_AL_clear_28 rfl (lv_at hl 1 rfl) ?_
  refine lv_icmp_ge (tgt := 42) S.1 S.2.1 d_AL_clear_29 rfl (fun h29 => ?_) (fun h29 => ?_)
  · exact so_vret S hr hlk P hS (Nat.le_refl _) (Nat.le_refl _) ⟨rfl, ⟨_, _, M⟩, Fr⟩ d_AL_clear_42
  · have hlt : i < n := Nat.not_le.mp fun z => h29 (nI_le z (by omega))
    refine lv_aload_n S.1 S.2.1 d_AL_clear_32 rfl (lv_at hl 2 rfl) ?_
    refine lv_iload_n S.1 S.2.1 d_AL_clear_33 rfl (lv_at hl 0 rfl) ?_
    refine lv_null S.1 S.2.1 d_AL_clear_34 ?_
    refine so_aastN S K P hS M.2 6 rfl (r := none) (fun v h => by cases h) (show i < cap by omega) hcap d_AL_clear_35 (fun H locs P hS => ?_)
    refine lv_iinc (k := 0) S.1 S.2.1 d_AL_clear_36 hl rfl rfl (by decide) rfl (fun ls hl => ?_)
    refine lv_goto (tgt := 27) S.1 S.2.1 d_AL_clear_39 rfl ?_
    rw [nI_a] at hl
    exact ih (n - (i + 1)) ls H locs _ (i + 1, va_up f1 i none) (by omega) ⟨rfl, by show i + 1 ≤ n; omega, hl, P, hS, ⟨by rw [so_un hne]; exact M.1, so_us⟩, fun r h1 h2 => by rw [so_un h2]; exact Fr r h1 h2⟩

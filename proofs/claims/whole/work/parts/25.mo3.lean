/-! The reference's open and close: places move up, places move down. -/
theorem nI_p {i : Nat} (h : 1 ≤ i) : nI i - 1 = nI (i - 1) := by
  obtain ⟨j, rfl⟩ : ∃ j, i = j + 1 := ⟨i - 1, by omega⟩
  exact nI_pred j
theorem nI_m {i : Nat} (h : 1 ≤ i) : nI i + Int32.ofInt (-1) = nI (i - 1) := by
  obtain ⟨j, rfl⟩ : ∃ j, i = j + 1 := ⟨i - 1, by omega⟩
  exact pk_m1 j
theorem nI_a (i : Nat) : nI i + Int32.ofInt 1 = nI (i + 1) := nI_1 i
def shf (f : Nat → Int32) (i e : Nat) : Nat → Int32 := fun t => if t ≤ i then f t else if t ≤ e then f (t - 1) else f t
theorem shf_0 (f : Nat → Int32) (e : Nat) : shf f e e = f := by
  funext t
  unfold shf
  split
  · rfl
  · rfl
theorem shf_s (f : Nat → Int32) {i e : Nat} (h1 : 1 ≤ i) (h2 : i ≤ e) : upd (shf f i e) i (shf f i e (i - 1)) = shf f (i - 1) e := by
  funext t
  unfold upd shf
  by_cases e1 : t = i
  · subst e1
    rw [if_pos rfl, if_pos (by omega), if_neg (by omega), if_pos h2]
  · rw [if_neg e1]
    by_cases e2 : t ≤ i
    · rw [if_pos e2, if_pos (by omega)]
    · rw [if_neg e2, if_neg (show ¬ t ≤ i - 1 by omega)]
def sh_R (R : Rf) (i e : Nat) : Rf := (R.1, va_up (va_up (va_up R.2.1 8 (shf (R.2.1 8) i e)) 9 (shf (R.2.1 9) i e)) 10 (shf (R.2.1 10) i e), R.2.2)
theorem up_id {α : Type} (f : Nat → α) (k : Nat) : va_up f k (f k) = f := by
  funext j
  unfold va_up
  split
  · rename_i h; rw [h]
  · rfl
theorem sh_0 (R : Rf) (e : Nat) : sh_R R e e = R := by
  obtain ⟨z, A, B⟩ := R
  unfold sh_R
  simp only [shf_0, up_id]
theorem sh_s (R : Rf) {i e : Nat} (h1 : 1 ≤ i) (h2 : i ≤ e) : sa (sa (sa (sh_R R i e) 8 i ((sh_R R i e).2.1 8 (i - 1))) 9 i ((sh_R R i e).2.1 9 (i - 1))) 10 i ((sh_R R i e).2.1 10 (i - 1)) = sh_R R (i - 1) e := by
  have a8 : (sh_R R i e).2.1 8 = shf (R.2.1 8) i e := rfl
  have a9 : (sh_R R i e).2.1 9 = shf (R.2.1 9) i e := rfl
  have a10 : (sh_R R i e).2.1 10 = shf (R.2.1 10) i e := rfl
  refine Prod.ext rfl (Prod.ext ?_ rfl)
  show va_up (va_up (va_up (sh_R R i e).2.1 8 (upd ((sh_R R i e).2.1 8) i ((sh_R R i e).2.1 8 (i - 1)))) 9 (upd ((sh_R R i e).2.1 9) i ((sh_R R i e).2.1 9 (i - 1)))) 10 (upd ((sh_R R i e).2.1 10) i ((sh_R R i e).2.1 10 (i - 1))) = va_up (va_up (va_up R.2.1 8 (shf (R.2.1 8) (i - 1) e)) 9 (shf (R.2.1 9) (i - 1) e)) 10 (shf (R.2.1 10) (i - 1) e)
  rw [a8, a9, a10, shf_s _ h1 h2, shf_s _ h1 h2, shf_s _ h1 h2]
  funext j
  unfold va_up
  by_cases j10 : j = 10
  · rw [if_pos j10, if_pos j10]
  · rw [if_neg j10, if_neg j10]
    by_cases j9 : j = 9
    · rw [if_pos j9, if_pos j9]
    · rw [if_neg j9, if_neg j9]
      by_cases j8 : j = 8
      · rw [if_pos j8, if_pos j8]
      · rw [if_neg j8, if_neg j8]
        show va_up (va_up (va_up R.2.1 8 _) 9 _) 10 _ j = R.2.1 j
        rw [va_up_ne _ _ j10, va_up_ne _ _ j9, va_up_ne _ _ j8]
def op_R (R : Rf) (mp k n : Nat) (x y : Int32) : Rf := sa (sa (sa (sh_R R k (32 * mp + n)) 8 k x) 9 k y) 11 mp (nI (n + 1))
theorem en_r {mp n : Nat} (h2 : mp ≠ 2) (h3 : mp ≠ 3) : en_O mp n = 32 * mp + n := by
  unfold en_O
  rw [if_neg h2, if_neg h3]
set_option maxHeartbeats 4000000 in
set_option maxRecDepth 100000 in
theorem c_Mo_openn (l : Launch) {s0 : State} {D : va_G} {ca : Nat → ClassId} (hB : so_B tbl s0 D vcl (tyl ca)) {σ : so_S} {mo : Nat} {ar : Nat → Nat} {R : Rf} (M : MoR ca σ mo ar R) (mp k n : Nat) (hm : mp < 5) (h2m : mp ≠ 2) (h3m : mp ≠ 3) (hz : R.2.1 11 mp = nI n) (hn : n < 32) (hk1 : 32 * mp ≤ k) (hk2 : k ≤ 32 * mp + n) (x y : Int32) : mo_C l s0 D ca mo ar σ y_Mo_openn b_Mo_openn 6 none 1 [.int (nI mp), .int (nI k), .int x, .int y] (fun v R1 => v = none ∧ R1 = op_R R mp k n x y) := by
  refine so_of hB (by decide) (Nat.le_of_ble_eq_true rfl) ?_
  intro p e s m below meth c ls S K E hr hlk hnm P hS hl
  have hl : lv_has ls 6 [(0, .ref mo), (1, .int (nI mp)), (2, .int (nI k)), (3, .int x), (4, .int y)] := hl
  have F : fM σ σ := fM.rf
  refine lv_aload_n S.1 S.2.1 d_Mo_openn_0 rfl (lv_at hl 0 rfl) ?_
  refine lv_iload_n S.1 S.2.1 d_Mo_openn_1 rfl (lv_at hl 1 rfl) ?_
  refine so_callR (cv_Mo_68_Mo S hB K E P hS M.1 (c_Mo_endd l hB M mp n hm hz) rfl (by decide) (Nat.le_refl _) (Nat.le_refl _) hl.1 rfl (Nat.le_of_ble_eq_true rfl) d_Mo_openn_2) (fun v hv => ?_)
  subst hv
  refine lv_istore S.1 S.2.1 d_Mo_openn_5 hl (by decide) rfl (fun ls hl => ?_)
  rw [en_r h2m h3m] at hl
  refine so_lp (Wf := fun ls H locs σ1 (_ : Nat) => W p l e _ s m _ below meth c H locs _ _ _ (F0 m 7 ls [])) (fun n1 ls H locs σ1 i => n1 = i ∧ k ≤ i ∧ i ≤ 32 * mp + n ∧ mo_I ca D s0 s mo ar σ ls 6 [(5, .int (nI i)), (0, .ref mo), (1, .int (nI mp)), (2, .int (nI k)), (3, .int x), (4, .int y)] H locs σ1 (sh_R R i (32 * mp + n))) ?_ _ ls s.heap [] σ (32 * mp + n) ⟨rfl, hk2, Nat.le_refl _, hl, P, hS, by rw [sh_0]; exact M, F⟩
  clear hl P hS M F
  intro n1 ls H locs σ1 i ⟨hn1, hi1, hi2, hl, P, hS, M, F⟩ ih
  refine lv_iload S.1 S.2.1 d_Mo_openn_7 (lv_at hl 0 rfl) ?_
  refine lv_iload_n S.1 S.2.1 d_Mo_openn_9 rfl (lv_at hl 3 rfl) ?_
  refine lv_icmp_le (tgt := 59) S.1 S.2.1 d_Mo_openn_10 rfl (fun h10 => ?_) (fun h10 => ?_)
  · have hik : i = k := by
      have := (nI_leI (by omega) (by omega)).mp h10
      omega
    subst hik
    refine lv_aload_n S.1 S.2.1 d_Mo_openn_59 rfl (lv_at hl 1 rfl) ?_
    refine lv_iload_n S.1 S.2.1 d_Mo_openn_60 rfl (lv_at hl 3 rfl) ?_
    refine lv_iload_n S.1 S.2.1 d_Mo_openn_61 rfl (lv_at hl 4 rfl) ?_
    refine lv_iload S.1 S.2.1 d_Mo_openn_62 (lv_at hl 5 rfl) ?_
    refine mo_after F (cv_Mo_75_Mo S hB K E P hS M.1 (c_Mo_set l hB M i (by omega) x y) rfl (by decide) (Nat.le_refl _) (Nat.le_refl _) hl.1 rfl (Nat.le_of_ble_eq_true rfl) d_Mo_openn_64) hS (fun v R1 σ H locs hp P hS M F => ?_)
    obtain ⟨rfl, rfl⟩ := hp
    refine lv_aload_n S.1 S.2.1 d_Mo_openn_67 rfl (lv_at hl 1 rfl) ?_
    refine gf_Mo_38_Mo S K P M.1 rfl d_Mo_openn_68 ?_
    refine lv_iload_n S.1 S.2.1 d_Mo_openn_71 rfl (lv_at hl 2 rfl) ?_
    refine lv_dup2_11 S.1 S.2.1 d_Mo_openn_72 rfl rfl ?_
    refine mo_iald S K P M 11 rfl mp rfl (by show _ < 5; omega) d_Mo_openn_73 ?_
    refine lv_iconst (v := 1) S.1 S.2.1 d_Mo_openn_74 (by decide) ?_
    refine lv_iadd S.1 S.2.1 d_Mo_openn_75 ?_
    refine mo_iast S K P hS M F 11 rfl mp rfl (by show _ < 5; omega) d_Mo_openn_76 (fun σ H locs P hS M F => ?_)
    refine so_vret S hr hlk P hS (Nat.le_refl _) (Nat.le_refl _) ⟨_, ?_, M, F⟩ d_Mo_openn_77
    refine ⟨rfl, ?_⟩
    have e9 : (sa (sa (sh_R R i (32 * mp + n)) 8 i x) 9 i y).2.1 11 mp + 1 = nI (n + 1) := by
      show R.2.1 11 mp + 1 = nI (n + 1)
      rw [hz, nI_1]
    rw [e9]
    rfl
  · have hki : k < i := Nat.not_le.mp fun q => h10 (nI_le q (by omega))
    refine lv_aload_n S.1 S.2.1 d_Mo_openn_13 rfl (lv_at hl 1 rfl) ?_
    refine lv_iload S.1 S.2.1 d_Mo_openn_14 (lv_at hl 0 rfl) ?_
    refine lv_aload_n S.1 S.2.1 d_Mo_openn_16 rfl (lv_at hl 1 rfl) ?_
    refine gf_Mo_29_Mo S K P M.1 rfl d_Mo_openn_17 ?_
    refine lv_iload S.1 S.2.1 d_Mo_openn_20 (lv_at hl 0 rfl) ?_
    refine lv_iconst (v := 1) S.1 S.2.1 d_Mo_openn_22 (by decide) ?_
    refine lv_isub S.1 S.2.1 d_Mo_openn_23 ?_
    refine mo_iald S K P M 8 rfl (i - 1) (nI_p (by omega)) (by show i - 1 < 160; omega) d_Mo_openn_24 ?_
    refine lv_aload_n S.1 S.2.1 d_Mo_openn_25 rfl (lv_at hl 1 rfl) ?_
    refine gf_Mo_32_Mo S K P M.1 rfl d_Mo_openn_26 ?_
    refine lv_iload S.1 S.2.1 d_Mo_openn_29 (lv_at hl 0 rfl) ?_
    refine lv_iconst (v := 1) S.1 S.2.1 d_Mo_openn_31 (by decide) ?_
    refine lv_isub S.1 S.2.1 d_Mo_openn_32 ?_
    refine mo_iald S K P M 9 rfl (i - 1) (nI_p (by omega)) (by show i - 1 < 160; omega) d_Mo_openn_33 ?_
    refine mo_after F (cv_Mo_75_Mo S hB K E P hS M.1 (c_Mo_set l hB M i (by omega) _ _) rfl (by decide) (Nat.le_refl _) (Nat.le_refl _) hl.1 rfl (Nat.le_of_ble_eq_true rfl) d_Mo_openn_34) hS (fun v R1 σ H locs hp P hS M F => ?_)
    obtain ⟨rfl, rfl⟩ := hp
    refine lv_aload_n S.1 S.2.1 d_Mo_openn_37 rfl (lv_at hl 1 rfl) ?_
    refine gf_Mo_35_Mo S K P M.1 rfl d_Mo_openn_38 ?_
    refine lv_iload S.1 S.2.1 d_Mo_openn_41 (lv_at hl 0 rfl) ?_
    refine lv_aload_n S.1 S.2.1 d_Mo_openn_43 rfl (lv_at hl 1 rfl) ?_
    refine gf_Mo_35_Mo S K P M.1 rfl d_Mo_openn_44 ?_
    refine lv_iload S.1 S.2.1 d_Mo_openn_47 (lv_at hl 0 rfl) ?_
    refine lv_iconst (v := 1) S.1 S.2.1 d_Mo_openn_49 (by decide) ?_
    refine lv_isub S.1 S.2.1 d_Mo_openn_50 ?_
    refine mo_iald S K P M 10 rfl (i - 1) (nI_p (by omega)) (by show i - 1 < 160; omega) d_Mo_openn_51 ?_
    refine mo_iast S K P hS M F 10 rfl i rfl (by show i < 160; omega) d_Mo_openn_52 (fun σ H locs P hS M F => ?_)
    refine lv_iinc (k := 0) S.1 S.2.1 d_Mo_openn_53 hl rfl rfl (by decide) rfl (fun ls hl => ?_)
    refine lv_goto (tgt := 7) S.1 S.2.1 d_Mo_openn_56 rfl ?_
    rw [nI_m (by omega)] at hl
    refine ih (i - 1) ls H locs σ (i - 1) (by omega) ⟨rfl, by omega, by omega, hl, P, hS, ?_, F⟩
    rw [← sh_s R (by omega) hi2]
    exact M
def dwn (f : Nat → Int32) (k i : Nat) : Nat → Int32 := fun t => if k ≤ t ∧ t < i then f (t + 1) else f t
theorem dwn_0 (f : Nat → Int32) (k : Nat) : dwn f k k = f := by
  funext t
  unfold dwn
  rw [if_neg (by omega)]
theorem dwn_s (f : Nat → Int32) {k i : Nat} (h : k ≤ i) : upd (dwn f k i) i (dwn f k i (i + 1)) = dwn f k (i + 1) := by
  funext t
  unfold upd dwn
  by_cases e1 : t = i
  · subst e1
    rw [if_pos rfl, if_neg (by omega), if_pos (by omega)]
  · rw [if_neg e1]
    by_cases e2 : k ≤ t ∧ t < i
    · rw [if_pos e2, if_pos (by omega)]
    · rw [if_neg e2, if_neg (by omega)]
def dw_R (R : Rf) (k i : Nat) : Rf := (R.1, va_up (va_up (va_up R.2.1 8 (dwn (R.2.1 8) k i)) 9 (dwn (R.2.1 9) k i)) 10 (dwn (R.2.1 10) k i), R.2.2)
theorem dw_0 (R : Rf) (k : Nat) : dw_R R k k = R := by
  obtain ⟨z, A, B⟩ := R
  unfold dw_R
  simp only [dwn_0, up_id]
theorem dw_s (R : Rf) {k i : Nat} (h : k ≤ i) : sa (sa (sa (dw_R R k i) 8 i ((dw_R R k i).2.1 8 (i + 1))) 9 i ((dw_R R k i).2.1 9 (i + 1))) 10 i ((dw_R R k i).2.1 10 (i + 1)) = dw_R R k (i + 1) := by
  have a8 : (dw_R R k i).2.1 8 = dwn (R.2.1 8) k i := rfl
  have a9 : (dw_R R k i).2.1 9 = dwn (R.2.1 9) k i := rfl
  have a10 : (dw_R R k i).2.1 10 = dwn (R.2.1 10) k i := rfl
  refine Prod.ext rfl (Prod.ext ?_ rfl)
  show va_up (va_up (va_up (dw_R R k i).2.1 8 (upd ((dw_R R k i).2.1 8) i ((dw_R R k i).2.1 8 (i + 1)))) 9 (upd ((dw_R R k i).2.1 9) i ((dw_R R k i).2.1 9 (i + 1)))) 10 (upd ((dw_R R k i).2.1 10) i ((dw_R R k i).2.1 10 (i + 1))) = va_up (va_up (va_up R.2.1 8 (dwn (R.2.1 8) k (i + 1))) 9 (dwn (R.2.1 9) k (i + 1))) 10 (dwn (R.2.1 10) k (i + 1))
  rw [a8, a9, a10, dwn_s _ h, dwn_s _ h, dwn_s _ h]
  funext j
  unfold va_up
  by_cases j10 : j = 10
  · rw [if_pos j10, if_pos j10]
  · rw [if_neg j10, if_neg j10]
    by_cases j9 : j = 9
    · rw [if_pos j9, if_pos j9]
    · rw [if_neg j9, if_neg j9]
      by_cases j8 : j = 8
      · rw [if_pos j8, if_pos j8]
      · rw [if_neg j8, if_neg j8]
        show va_up (va_up (va_up R.2.1 8 _) 9 _) 10 _ j = R.2.1 j
        rw [va_up_ne _ _ j10, va_up_ne _ _ j9, va_up_ne _ _ j8]
def cl_R (R : Rf) (mp k n : Nat) : Rf := sa (dw_R (sa R 11 mp (nI (n - 1))) k (32 * mp + (n - 1))) 8 (32 * mp + (n - 1)) (-1)
set_option maxHeartbeats 4000000 in
set_option maxRecDepth 100000 in
theorem c_Mo_close (l : Launch) {s0 : State} {D : va_G} {ca : Nat → ClassId} (hB : so_B tbl s0 D vcl (tyl ca)) {σ : so_S} {mo : Nat} {ar : Nat → Nat} {R : Rf} (M : MoR ca σ mo ar R) (mp k n : Nat) (hm : mp < 5) (h2m : mp ≠ 2) (h3m : mp ≠ 3) (hz : R.2.1 11 mp = nI n) (hn1 : 1 ≤ n) (hn : n ≤ 32) (hk1 : 32 * mp ≤ k) (hk2 : k < 32 * mp + n) : mo_C l s0 D ca mo ar σ y_Mo_close b_Mo_close 4 none 1 [.int (nI mp), .int (nI k)] (fun v R1 => v = none ∧ R1 = cl_R R mp k n) := by
  refine so_of hB (by decide) (Nat.le_of_ble_eq_true rfl) ?_
  intro p e s m below meth c ls S K E hr hlk hnm P hS hl
  have hl : lv_has ls 4 [(0, .ref mo), (1, .int (nI mp)), (2, .int (nI k))] := hl
  have F : fM σ σ := fM.rf
  obtain ⟨σ0, hσ0⟩ : ∃ q, q = σ := ⟨σ, rfl⟩
  rw [← hσ0]
  rw [← hσ0] at F
  replace F : fM σ0 σ := by rw [hσ0]; exact fM.rf
  refine lv_aload_n S.1 S.2.1 d_Mo_close_0 rfl (lv_at hl 0 rfl) ?_
  refine gf_Mo_38_Mo S K P M.1 rfl d_Mo_close_1 ?_
  refine lv_iload_n S.1 S.2.1 d_Mo_close_4 rfl (lv_at hl 1 rfl) ?_
  refine lv_dup2_11 S.1 S.2.1 d_Mo_close_5 rfl rfl ?_
  refine mo_iald S K P M 11 rfl mp rfl (by show _ < 5; omega) d_Mo_close_6 ?_
  refine lv_iconst (v := 1) S.1 S.2.1 d_Mo_close_7 (by decide) ?_
  refine lv_isub S.1 S.2.1 d_Mo_close_8 ?_
  refine mo_iast S K P hS M F 11 rfl mp rfl (by show _ < 5; omega) d_Mo_close_9 (fun σ H locs P hS M F => ?_)
  refine lv_iload_n S.1 S.2.1 d_Mo_close_10 rfl (lv_at hl 2 rfl) ?_
  refine lv_istore_n S.1 S.2.1 d_Mo_close_11 rfl hl (by decide) rfl (fun ls hl => ?_)
  have e7 : R.2.1 11 mp - 1 = nI (n - 1) := by rw [hz, nI_p hn1]
  rw [e7] at M
  have hz1 : (sa R 11 mp (nI (n - 1))).2.1 11 mp = nI (n - 1) := by simp [sa, va_up, upd]
  generalize hRe : sa R 11 mp (nI (n - 1)) = R0 at M hz1
  refine so_lp (Wf := fun ls H locs σ1 (_ : Nat) => W p l e _ s m _ below meth c H locs _ _ _ (F0 m 12 ls [])) (fun n1 ls H locs σ1 i => n1 = 32 * mp + n - i ∧ k ≤ i ∧ i ≤ 32 * mp + (n - 1) ∧ mo_I ca D s0 s mo ar σ0 ls 4 [(3, .int (nI i)), (0, .ref mo), (1, .int (nI mp)), (2, .int (nI k))] H locs σ1 (dw_R R0 k i)) ?_ _ ls H locs σ k ⟨rfl, Nat.le_refl _, by omega, hl, P, hS, by rw [dw_0]; exact M, F⟩
  clear hl P hS M F
  intro n1 ls H locs σ1 i ⟨hn2, hi1, hi2, hl, P, hS, M, F⟩ ih
  have hz2 : (dw_R R0 k i).2.1 11 mp = nI (n - 1) := hz1
  refine lv_iload_n S.1 S.2.1 d_Mo_close_12 rfl (lv_at hl 0 rfl) ?_
  refine lv_aload_n S.1 S.2.1 d_Mo_close_13 rfl (lv_at hl 1 rfl) ?_
  refine lv_iload_n S.1 S.2.1 d_Mo_close_14 rfl (lv_at hl 2 rfl) ?_
  refine so_callR (cv_Mo_68_Mo S hB K E P hS M.1 (c_Mo_endd l hB M mp (n - 1) hm hz2) rfl (by decide) (Nat.le_refl _) (Nat.le_refl _) hl.1 rfl (Nat.le_of_ble_eq_true rfl) d_Mo_close_15) (fun v hv => ?_)
  subst hv
  refine lv_icmp_ge (tgt := 62) S.1 S.2.1 d_Mo_close_18 rfl (fun h18 => ?_) (fun h18 => ?_)
  · have hik : 32 * mp + (n - 1) = i := by
      rw [en_r h2m h3m] at h18
      have := (nI_leI (by omega) (by omega)).mp h18
      omega
    refine lv_aload_n S.1 S.2.1 d_Mo_close_62 rfl (lv_at hl 1 rfl) ?_
    refine gf_Mo_29_Mo S K P M.1 rfl d_Mo_close_63 ?_
    refine lv_aload_n S.1 S.2.1 d_Mo_close_66 rfl (lv_at hl 1 rfl) ?_
    refine lv_iload_n S.1 S.2.1 d_Mo_close_67 rfl (lv_at hl 2 rfl) ?_
    refine so_callR (cv_Mo_68_Mo S hB K E P hS M.1 (c_Mo_endd l hB M mp (n - 1) hm hz2) rfl (by decide) (Nat.le_refl _) (Nat.le_refl _) hl.1 rfl (Nat.le_of_ble_eq_true rfl) d_Mo_close_68) (fun v hv => ?_)
    subst hv
    rw [en_r h2m h3m]
    refine lv_iconst (v := (-1)) S.1 S.2.1 d_Mo_close_71 (by decide) ?_
    refine mo_iast S K P hS M F 8 rfl i (by rw [hik]) (by show i < 160; omega) d_Mo_close_72 (fun σ H locs P hS M F => ?_)
    refine so_vret S hr hlk P hS (Nat.le_refl _) (Nat.le_refl _) ⟨_, ?_, M, F⟩ d_Mo_close_73
    refine ⟨rfl, ?_⟩
    rw [← hik, ← hRe]
    rfl
  · have hki : i < 32 * mp + (n - 1) := Nat.not_le.mp fun q => h18 (by rw [en_r h2m h3m]; exact nI_le q (by omega))
    refine lv_aload_n S.1 S.2.1 d_Mo_close_21 rfl (lv_at hl 1 rfl) ?_
    refine lv_iload_n S.1 S.2.1 d_Mo_close_22 rfl (lv_at hl 0 rfl) ?_
    refine lv_aload_n S.1 S.2.1 d_Mo_close_23 rfl (lv_at hl 1 rfl) ?_
    refine gf_Mo_29_Mo S K P M.1 rfl d_Mo_close_24 ?_
    refine lv_iload_n S.1 S.2.1 d_Mo_close_27 rfl (lv_at hl 0 rfl) ?_
    refine lv_iconst (v := 1) S.1 S.2.1 d_Mo_close_28 (by decide) ?_
    refine lv_iadd S.1 S.2.1 d_Mo_close_29 ?_
    refine mo_iald S K P M 8 rfl (i + 1) (nI_1 i) (by show i + 1 < 160; omega) d_Mo_close_30 ?_
    refine lv_aload_n S.1 S.2.1 d_Mo_close_31 rfl (lv_at hl 1 rfl) ?_
    refine gf_Mo_32_Mo S K P M.1 rfl d_Mo_close_32 ?_
    refine lv_iload_n S.1 S.2.1 d_Mo_close_35 rfl (lv_at hl 0 rfl) ?_
    refine lv_iconst (v := 1) S.1 S.2.1 d_Mo_close_36 (by decide) ?_
    refine lv_iadd S.1 S.2.1 d_Mo_close_37 ?_
    refine mo_iald S K P M 9 rfl (i + 1) (nI_1 i) (by show i + 1 < 160; omega) d_Mo_close_38 ?_
    refine mo_after F (cv_Mo_75_Mo S hB K E P hS M.1 (c_Mo_set l hB M i (by omega) _ _) rfl (by decide) (Nat.le_refl _) (Nat.le_refl _) hl.1 rfl (Nat.le_of_ble_eq_true rfl) d_Mo_close_39) hS (fun v R1 σ H locs hp P hS M F => ?_)
    obtain ⟨rfl, rfl⟩ := hp
    refine lv_aload_n S.1 S.2.1 d_Mo_close_42 rfl (lv_at hl 1 rfl) ?_
    refine gf_Mo_35_Mo S K P M.1 rfl d_Mo_close_43 ?_
    refine lv_iload_n S.1 S.2.1 d_Mo_close_46 rfl (lv_at hl 0 rfl) ?_
    refine lv_aload_n S.1 S.2.1 d_Mo_close_47 rfl (lv_at hl 1 rfl) ?_
    refine gf_Mo_35_Mo S K P M.1 rfl d_Mo_close_48 ?_
    refine lv_iload_n S.1 S.2.1 d_Mo_close_51 rfl (lv_at hl 0 rfl) ?_
    refine lv_iconst (v := 1) S.1 S.2.1 d_Mo_close_52 (by decide) ?_
    refine lv_iadd S.1 S.2.1 d_Mo_close_53 ?_
    refine mo_iald S K P M 10 rfl (i + 1) (nI_1 i) (by show i + 1 < 160; omega) d_Mo_close_54 ?_
    refine mo_iast S K P hS M F 10 rfl i rfl (by show i < 160; omega) d_Mo_close_55 (fun σ H locs P hS M F => ?_)
    refine lv_iinc (k := 0) S.1 S.2.1 d_Mo_close_56 hl rfl rfl (by decide) rfl (fun ls hl => ?_)
    refine lv_goto (tgt := 12) S.1 S.2.1 d_Mo_close_59 rfl ?_
    rw [nI_a] at hl
    refine ih (32 * mp + n - (i + 1)) ls H locs σ (i + 1) (by omega) ⟨rfl, by omega, by omega, hl, P, hS, ?_, F⟩
    rw [← dw_s R0 hi1]
    exact M

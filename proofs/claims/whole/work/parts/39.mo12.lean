/-! The reference: get, remove, put, over the model. -/
def tk_M (n : Nms) (mp : Nat) : Nms := if mp = 1 then (n.1, n.2.1 + 1, n.2.2) else n
def gk_O (o : Obs) (x kx : Int32) : Bool := is_M x && (al_O o kx && (decide (x ≠ 3) || decide (o.2.1 kx.toNatClampNeg ≤ 7)))
theorem gk_is {R : Rf} {o : Obs} (h : obR R o.1 o.2.1 o.2.2.1 o.2.2.2) (hv : ∀ i, i < 32 → o.1 i = true → o.2.1 i < 100) {mp : Nat} (hm : mp < 5) (kx : Int32) : ky_O R mp kx = gk_O o (nI mp) kx := by
  have hM : is_M (nI mp) = true := by
    unfold is_M
    rw [if_neg (nI_pos (by omega)), if_neg (show ¬ (4 : Int32) < nI mp from nI_nlt (b := mp) (a := 4) (by omega) (by decide))]
  unfold ky_O gk_O
  rw [hM, Bool.true_and, is_al2 h]
  cases hx : al_O o kx with
  | false => rfl
  | true =>
    obtain ⟨j, hj, rfl, ha⟩ := al_cases hx
    rw [nI_clamp (by omega), ((h j hj).2 ha).1]
    have e1 : decide (mp ≠ 3) = decide (nI mp ≠ 3) := by
      by_cases c : mp = 3
      · subst c; rfl
      · rw [decide_eq_true c, decide_eq_true (show nI mp ≠ 3 from nI_ne (b := 3) (by omega) (by decide) c)]
    have e2 : decide (nI (o.2.1 j) ≤ 7) = decide (o.2.1 j ≤ 7) := by
      have := hv j hj ha
      have e3 : nI (o.2.1 j) ≤ 7 ↔ o.2.1 j ≤ 7 := nI_leI (b := 7) (by omega) (by decide)
      by_cases c : o.2.1 j ≤ 7
      · rw [decide_eq_true c, decide_eq_true (e3.mpr c)]
      · rw [decide_eq_false c, decide_eq_false (fun z => c (e3.mp z))]
    rw [e1, e2]
theorem gk_al {o : Obs} {x kx : Int32} (h : gk_O o x kx = true) : ∃ mp key : Nat, mp < 5 ∧ key < 32 ∧ x = nI mp ∧ kx = nI key ∧ o.1 key = true ∧ (mp = 3 → o.2.1 key < 8) := by
  unfold gk_O at h
  rw [Bool.and_eq_true, Bool.and_eq_true] at h
  obtain ⟨mp, hm, rfl⟩ := is_M_cases h.1
  obtain ⟨key, hk, rfl, ha⟩ := al_cases h.2.1
  refine ⟨mp, key, hm, hk, rfl, rfl, ha, fun c => ?_⟩
  have h3 := h.2.2
  subst c
  rw [nI_clamp (by omega), decide_eq_false (show ¬ (nI 3 ≠ 3) from fun z => z rfl), Bool.false_or, decide_eq_true_iff] at h3
  omega
/-- time has passed or not -/
theorem refR.tk {R : Rf} {o : Obs} {q : Mps} {n : Nms} {k : Wks} (h : refR R o q n k) {mp : Nat} {x : Int32} (hx : x = R.1 14 + (if mp = 1 then 1 else 0)) : refR (sz R 14 x) o q (tk_M n mp) k := by
  refine ⟨h.1, h.2.1, ?_, h.2.2.2⟩
  have e14 : (sz R 14 x).1 14 = x := by
    show va_up R.1 14 x 14 = x
    exact va_up_self _ _ _
  unfold tk_M
  split
  · rename_i c
    rw [if_pos c, h.2.2.1.2.1] at hx
    refine ⟨h.2.2.1.1, ?_, h.2.2.1.2.2⟩
    rw [e14, hx]
    exact nI_1 _
  · rename_i c
    rw [if_neg c] at hx
    refine ⟨h.2.2.1.1, ?_, h.2.2.1.2.2⟩
    rw [e14, hx, Int32.add_zero]
    exact h.2.2.1.2.1
set_option maxHeartbeats 400000 in
set_option maxRecDepth 100000 in
theorem c_Mo_remove (l : Launch) {s0 : State} {D : va_G} {ca : Nat → ClassId} (hB : so_B tbl s0 D vcl (tyl ca)) {σ : so_S} {mo : Nat} {ar : Nat → Nat} {R : Rf} (M : MoR ca σ mo ar R) {o : Obs} {q : Mps} {n : Nms} {k : Wks} (h0 : refR R o q n k) (hok : okM o q) (h12 : cn q.2.2.1 16 ≤ 12) (x kx : Int32) : mo_C l s0 D ca mo ar σ y_Mo_remove b_Mo_remove 5 (some .int) 3 [.int x, .int kx] (fun v R1 => (gk_O o x kx = false ∧ v = some (.int 0) ∧ R1.1 0 = 1 ∧ refR R1 o q n k) ∨ (∃ mp key, mp < 5 ∧ key < 32 ∧ x = nI mp ∧ kx = nI key ∧ o.1 key = true ∧ gk_O o x kx = true ∧ (∀ j e, ¬ hit o q mp key j e) ∧ v = some (.int (-1)) ∧ R1.1 0 = 0 ∧ refR R1 o q n k) ∨ (∃ mp key j e, mp < 5 ∧ key < 32 ∧ x = nI mp ∧ kx = nI key ∧ o.1 key = true ∧ gk_O o x kx = true ∧ hit o q mp key j e ∧ v = some (.int (nI e.2)) ∧ R1.1 0 = 0 ∧ refR R1 o (dr_M q mp j) n (k.1, va_up k.2.1 mp true, k.2.2))) := by
  refine so_of hB (by decide) (Nat.le_of_ble_eq_true rfl) ?_
  intro p e s m below meth c ls S K E hr hlk hnm P hS hl
  have hl : lv_has ls 5 [(0, .ref mo), (1, .int x), (2, .int kx)] := hl
  have F : fM σ σ := fM.rf
  refine lv_aload_n S.1 S.2.1 d_Mo_remove_0 rfl (lv_at hl 0 rfl) ?_
  refine lv_iconst (v := 0) S.1 S.2.1 d_Mo_remove_1 (by decide) ?_
  refine mo_pz_57 S K P hS M F d_Mo_remove_2 (fun σ H locs P hS M F => ?_)
  refine lv_aload_n S.1 S.2.1 d_Mo_remove_5 rfl (lv_at hl 0 rfl) ?_
  refine lv_iload_n S.1 S.2.1 d_Mo_remove_6 rfl (lv_at hl 1 rfl) ?_
  refine so_callR (cv_Mo_112_Mo S hB K E P hS M.1 (c_Mo_isMap l hB M x) rfl (by decide) (Nat.le_refl _) (Nat.le_refl _) hl.1 rfl (Nat.le_of_ble_eq_true rfl) d_Mo_remove_7) (fun v hv => ?_)
  subst hv
  refine lv_if_eq (tgt := 22) S.1 S.2.1 d_Mo_remove_10 rfl (fun h10 => ?_) (fun h10 => ?_)
  · refine lv_aload_n S.1 S.2.1 d_Mo_remove_22 rfl (lv_at hl 0 rfl) ?_
    refine lv_iconst (v := 1) S.1 S.2.1 d_Mo_remove_23 (by decide) ?_
    refine mo_after F (cv_Mo_60_Mo S hB K E P hS M.1 (c_Mo_refuse l hB M 1) rfl (by decide) (Nat.le_refl _) (Nat.le_refl _) hl.1 rfl (Nat.le_of_ble_eq_true rfl) d_Mo_remove_24) hS (fun v R1 σ H locs hp P hS M F => ?_)
    obtain ⟨rfl, rfl⟩ := hp
    refine so_iret S hr hlk P hS (Nat.le_refl _) (Nat.le_refl _) ⟨_, ?_, M, F⟩ d_Mo_remove_27
    refine Or.inl ⟨?_, rfl, rfl, ⟨h0.1, h0.2.1, h0.2.2.1, h0.2.2.2⟩⟩
    first
      | (unfold gk_O; rw [(bI_0 _).mp h10]; rfl; done)
      | (rw [← hgk]; exact (bI_0 _).mp h19)
  · have hx : is_M x = true := bI_1 h10
    obtain ⟨mp, hm, rfl⟩ := is_M_cases hx
    have hgk : ky_O R mp kx = gk_O o (nI mp) kx := gk_is h0.1 hok.1 hm kx
    refine lv_aload_n S.1 S.2.1 d_Mo_remove_13 rfl (lv_at hl 0 rfl) ?_
    refine lv_iload_n S.1 S.2.1 d_Mo_remove_14 rfl (lv_at hl 1 rfl) ?_
    refine lv_iload_n S.1 S.2.1 d_Mo_remove_15 rfl (lv_at hl 2 rfl) ?_
    refine so_callR (cv_Mo_115_Mo S hB K E P hS M.1 (c_Mo_isKey l hB M mp hm kx) rfl (by decide) (Nat.le_refl _) (Nat.le_refl _) hl.1 rfl (Nat.le_of_ble_eq_true rfl) d_Mo_remove_16) (fun v hv => ?_)
    subst hv
    refine lv_if_ne (tgt := 28) S.1 S.2.1 d_Mo_remove_19 rfl (fun h19 => ?_) (fun h19 => ?_)
    · have hg2 : gk_O o (nI mp) kx = true := by rw [← hgk]; exact bI_1 h19
      obtain ⟨mp2, key, -, hkey, -, rfl, hal, h38⟩ := gk_al hg2
      have hmp2 : True := trivial
      have h1 : refR (sz R 0 0) o q n k := h0.s0 0
      refine lv_aload_n S.1 S.2.1 d_Mo_remove_28 rfl (lv_at hl 0 rfl) ?_
      refine lv_iload_n S.1 S.2.1 d_Mo_remove_29 rfl (lv_at hl 1 rfl) ?_
      refine lv_iload_n S.1 S.2.1 d_Mo_remove_30 rfl (lv_at hl 2 rfl) ?_
      refine so_callR (cv_Mo_119_Mo S hB K E P hS M.1 (c_Mo_find l hB M mp key (sz_M q mp) hm hkey (sz_R h1.2.1 hm).1 (by have := ln_le h1.2.1 hm; have := en_ln q mp; omega) (find_ok hm h1.2.1 hok)) rfl (by decide) (Nat.le_refl _) (Nat.le_refl _) hl.1 rfl (Nat.le_of_ble_eq_true rfl) d_Mo_remove_31) (fun v hv => ?_)
      subst hv
      rcases Classical.em (∃ j e, hit o q mp key j e) with ⟨j, ex, hh⟩ | hno
      · have hfd := find_hit hm h1.1 h1.2.1 hok hkey hal hh
        rw [hfd]
        have hjl := hh.lt hm
        have hln := ln_le h1.2.1 hm
        refine lv_istore_n S.1 S.2.1 d_Mo_remove_34 rfl hl (by decide) rfl (fun ls hl => ?_)
        refine lv_iload_n S.1 S.2.1 d_Mo_remove_35 rfl (lv_at hl 0 rfl) ?_
        refine lv_if_ge (tgt := 41) S.1 S.2.1 d_Mo_remove_36 rfl (fun h36 => ?_) (fun h36 => ?_)
        · refine lv_aload_n S.1 S.2.1 d_Mo_remove_41 rfl (lv_at hl 1 rfl) ?_
          refine gf_Mo_32_Mo S K P M.1 rfl d_Mo_remove_42 ?_
          refine lv_iload_n S.1 S.2.1 d_Mo_remove_45 rfl (lv_at hl 0 rfl) ?_
          refine mo_iald S K P M 9 rfl (32 * mp + j) rfl (by show 32 * mp + j < 160; omega) d_Mo_remove_46 ?_
          refine lv_istore S.1 S.2.1 d_Mo_remove_47 hl (by decide) rfl (fun ls hl => ?_)
          refine lv_aload_n S.1 S.2.1 d_Mo_remove_49 rfl (lv_at hl 2 rfl) ?_
          refine lv_iload_n S.1 S.2.1 d_Mo_remove_50 rfl (lv_at hl 3 rfl) ?_
          refine lv_iload_n S.1 S.2.1 d_Mo_remove_51 rfl (lv_at hl 1 rfl) ?_
          refine mo_after F (cv_Mo_129_Mo S hB K E P hS M.1 (c_Mo_goesM l hB M h1 hm h12 hh) rfl (by decide) (Nat.le_refl _) (Nat.le_refl _) hl.1 rfl (Nat.le_of_ble_eq_true rfl) d_Mo_remove_52) hS (fun v R1 σ H locs hp P hS M F => ?_)
          obtain ⟨rfl, hrf, hz0, -⟩ := hp
          refine lv_iload S.1 S.2.1 d_Mo_remove_55 (lv_at hl 0 rfl) ?_
          refine so_iret S hr hlk P hS (Nat.le_refl _) (Nat.le_refl _) ⟨_, ?_, M, F⟩ d_Mo_remove_57
          refine Or.inr (Or.inr ⟨mp, key, j, ex, hm, hkey, rfl, rfl, hal, hg2, hh, ?_, by rw [hz0]; rfl, hrf⟩)
          rw [hit_what hm h1.2.1 hh]
        · exact absurd (nI_pos' (by omega)) h36
      · have hfd := find_no hm h1.1 h1.2.1 hok hkey hal (fun j e h => hno ⟨j, e, h⟩)
        rw [hfd]
        refine lv_istore_n S.1 S.2.1 d_Mo_remove_34 rfl hl (by decide) rfl (fun ls hl => ?_)
        refine lv_iload_n S.1 S.2.1 d_Mo_remove_35 rfl (lv_at hl 0 rfl) ?_
        refine lv_if_ge (tgt := 41) S.1 S.2.1 d_Mo_remove_36 rfl (fun h36 => ?_) (fun h36 => ?_)
        · exact absurd h36 (by decide)
        · refine lv_iconst (v := (-1)) S.1 S.2.1 d_Mo_remove_39 (by decide) ?_
          refine so_iret S hr hlk P hS (Nat.le_refl _) (Nat.le_refl _) ⟨_, ?_, M, F⟩ d_Mo_remove_40
          exact Or.inr (Or.inl ⟨mp, key, hm, hkey, rfl, rfl, hal, hg2, fun j e h => hno ⟨j, e, h⟩, rfl, rfl, h1⟩)
    · refine lv_aload_n S.1 S.2.1 d_Mo_remove_22 rfl (lv_at hl 0 rfl) ?_
      refine lv_iconst (v := 1) S.1 S.2.1 d_Mo_remove_23 (by decide) ?_
      refine mo_after F (cv_Mo_60_Mo S hB K E P hS M.1 (c_Mo_refuse l hB M 1) rfl (by decide) (Nat.le_refl _) (Nat.le_refl _) hl.1 rfl (Nat.le_of_ble_eq_true rfl) d_Mo_remove_24) hS (fun v R1 σ H locs hp P hS M F => ?_)
      obtain ⟨rfl, rfl⟩ := hp
      refine so_iret S hr hlk P hS (Nat.le_refl _) (Nat.le_refl _) ⟨_, ?_, M, F⟩ d_Mo_remove_27
      refine Or.inl ⟨?_, rfl, rfl, ⟨h0.1, h0.2.1, h0.2.2.1, h0.2.2.2⟩⟩
      first
        | (unfold gk_O; rw [(bI_0 _).mp h10]; rfl; done)
        | (rw [← hgk]; exact (bI_0 _).mp h19)
set_option maxHeartbeats 400000 in
set_option maxRecDepth 100000 in
theorem c_Mo_get (l : Launch) {s0 : State} {D : va_G} {ca : Nat → ClassId} (hB : so_B tbl s0 D vcl (tyl ca)) {σ : so_S} {mo : Nat} {ar : Nat → Nat} {R : Rf} (M : MoR ca σ mo ar R) {o : Obs} {q : Mps} {n : Nms} {k : Wks} (h0 : refR R o q n k) (hok : okM o q) (x kx : Int32) : mo_C l s0 D ca mo ar σ y_Mo_get b_Mo_get 5 (some .int) 3 [.int x, .int kx] (fun v R1 => (gk_O o x kx = false ∧ v = some (.int 0) ∧ R1.1 0 = 1 ∧ refR R1 o q n k) ∨ (∃ mp key, mp < 5 ∧ key < 32 ∧ x = nI mp ∧ kx = nI key ∧ o.1 key = true ∧ gk_O o x kx = true ∧ (∀ j e, ¬ hit o q mp key j e) ∧ v = some (.int (-1)) ∧ R1.1 0 = 0 ∧ refR R1 o q (tk_M n mp) k) ∨ (∃ mp key j e, mp < 5 ∧ key < 32 ∧ x = nI mp ∧ kx = nI key ∧ o.1 key = true ∧ gk_O o x kx = true ∧ hit o q mp key j e ∧ v = some (.int (nI e.2)) ∧ R1.1 0 = 0 ∧ refR R1 o (us_M q (tk_M n mp).2.1 mp j e) (tk_M n mp) (uw_M q k mp j))) := by
  refine so_of hB (by decide) (Nat.le_of_ble_eq_true rfl) ?_
  intro p e s m below meth c ls S K E hr hlk hnm P hS hl
  have hl : lv_has ls 5 [(0, .ref mo), (1, .int x), (2, .int kx)] := hl
  have F : fM σ σ := fM.rf
  refine lv_aload_n S.1 S.2.1 d_Mo_get_0 rfl (lv_at hl 0 rfl) ?_
  refine lv_iconst (v := 0) S.1 S.2.1 d_Mo_get_1 (by decide) ?_
  refine mo_pz_57 S K P hS M F d_Mo_get_2 (fun σ H locs P hS M F => ?_)
  refine lv_aload_n S.1 S.2.1 d_Mo_get_5 rfl (lv_at hl 0 rfl) ?_
  refine lv_iload_n S.1 S.2.1 d_Mo_get_6 rfl (lv_at hl 1 rfl) ?_
  refine so_callR (cv_Mo_112_Mo S hB K E P hS M.1 (c_Mo_isMap l hB M x) rfl (by decide) (Nat.le_refl _) (Nat.le_refl _) hl.1 rfl (Nat.le_of_ble_eq_true rfl) d_Mo_get_7) (fun v hv => ?_)
  subst hv
  refine lv_if_eq (tgt := 22) S.1 S.2.1 d_Mo_get_10 rfl (fun h10 => ?_) (fun h10 => ?_)
  · refine lv_aload_n S.1 S.2.1 d_Mo_get_22 rfl (lv_at hl 0 rfl) ?_
    refine lv_iconst (v := 1) S.1 S.2.1 d_Mo_get_23 (by decide) ?_
    refine mo_after F (cv_Mo_60_Mo S hB K E P hS M.1 (c_Mo_refuse l hB M 1) rfl (by decide) (Nat.le_refl _) (Nat.le_refl _) hl.1 rfl (Nat.le_of_ble_eq_true rfl) d_Mo_get_24) hS (fun v R1 σ H locs hp P hS M F => ?_)
    obtain ⟨rfl, rfl⟩ := hp
    refine so_iret S hr hlk P hS (Nat.le_refl _) (Nat.le_refl _) ⟨_, ?_, M, F⟩ d_Mo_get_27
    refine Or.inl ⟨?_, rfl, rfl, ⟨h0.1, h0.2.1, h0.2.2.1, h0.2.2.2⟩⟩
    first
      | (unfold gk_O; rw [(bI_0 _).mp h10]; rfl; done)
      | (rw [← hgk]; exact (bI_0 _).mp h19)
  · have hx : is_M x = true := bI_1 h10
    obtain ⟨mp, hm, rfl⟩ := is_M_cases hx
    have hgk : ky_O R mp kx = gk_O o (nI mp) kx := gk_is h0.1 hok.1 hm kx
    refine lv_aload_n S.1 S.2.1 d_Mo_get_13 rfl (lv_at hl 0 rfl) ?_
    refine lv_iload_n S.1 S.2.1 d_Mo_get_14 rfl (lv_at hl 1 rfl) ?_
    refine lv_iload_n S.1 S.2.1 d_Mo_get_15 rfl (lv_at hl 2 rfl) ?_
    refine so_callR (cv_Mo_115_Mo S hB K E P hS M.1 (c_Mo_isKey l hB M mp hm kx) rfl (by decide) (Nat.le_refl _) (Nat.le_refl _) hl.1 rfl (Nat.le_of_ble_eq_true rfl) d_Mo_get_16) (fun v hv => ?_)
    subst hv
    refine lv_if_ne (tgt := 28) S.1 S.2.1 d_Mo_get_19 rfl (fun h19 => ?_) (fun h19 => ?_)
    · have hg2 : gk_O o (nI mp) kx = true := by rw [← hgk]; exact bI_1 h19
      obtain ⟨mp2, key, -, hkey, -, rfl, hal, h38⟩ := gk_al hg2
      have hmp2 : True := trivial
      refine lv_aload_n S.1 S.2.1 d_Mo_get_28 rfl (lv_at hl 0 rfl) ?_
      refine lv_dup S.1 S.2.1 d_Mo_get_29 rfl ?_
      refine gf_Mo_93_Mo S K P M.1 rfl d_Mo_get_30 ?_
      refine lv_iload_n S.1 S.2.1 d_Mo_get_33 rfl (lv_at hl 1 rfl) ?_
      refine lv_iconst (v := 1) S.1 S.2.1 d_Mo_get_34 (by decide) ?_
      refine lv_icmp_ne (tgt := 42) S.1 S.2.1 d_Mo_get_35 rfl (fun h35 => ?_) (fun h35 => ?_)
      · refine lv_iconst (v := 0) S.1 S.2.1 d_Mo_get_42 (by decide) ?_
        refine lv_iadd S.1 S.2.1 d_Mo_get_43 ?_
        refine mo_pz_93 S K P hS M F d_Mo_get_44 (fun σ H locs P hS M F => ?_)
        have h1 : refR _ o q (tk_M n mp) k := (h0.s0 0).tk (mp := mp) (x := (sz R 0 0).1 14 + 0) (by rw [if_neg (fun z => h35 (by rw [z]; rfl))])
        have h1z : (sz (sz R 0 0) 14 ((sz R 0 0).1 14 + 0)).1 0 = 0 := rfl
        generalize sz (sz R 0 0) 14 ((sz R 0 0).1 14 + 0) = Rt at M h1 h1z
        refine lv_aload_n S.1 S.2.1 d_Mo_get_47 rfl (lv_at hl 0 rfl) ?_
        refine lv_iload_n S.1 S.2.1 d_Mo_get_48 rfl (lv_at hl 1 rfl) ?_
        refine lv_iload_n S.1 S.2.1 d_Mo_get_49 rfl (lv_at hl 2 rfl) ?_
        refine so_callR (cv_Mo_119_Mo S hB K E P hS M.1 (c_Mo_find l hB M mp key (sz_M q mp) hm hkey (sz_R h1.2.1 hm).1 (by have := ln_le h1.2.1 hm; have := en_ln q mp; omega) (find_ok hm h1.2.1 hok)) rfl (by decide) (Nat.le_refl _) (Nat.le_refl _) hl.1 rfl (Nat.le_of_ble_eq_true rfl) d_Mo_get_50) (fun v hv => ?_)
        subst hv
        rcases Classical.em (∃ j e, hit o q mp key j e) with ⟨j, ex, hh⟩ | hno
        · have hfd := find_hit hm h1.1 h1.2.1 hok hkey hal hh
          rw [hfd]
          have hjl := hh.lt hm
          have hln := ln_le h1.2.1 hm
          refine lv_istore_n S.1 S.2.1 d_Mo_get_53 rfl hl (by decide) rfl (fun ls hl => ?_)
          refine lv_iload_n S.1 S.2.1 d_Mo_get_54 rfl (lv_at hl 0 rfl) ?_
          refine lv_if_ge (tgt := 60) S.1 S.2.1 d_Mo_get_55 rfl (fun h55 => ?_) (fun h55 => ?_)
          · refine lv_aload_n S.1 S.2.1 d_Mo_get_60 rfl (lv_at hl 1 rfl) ?_
            refine gf_Mo_32_Mo S K P M.1 rfl d_Mo_get_61 ?_
            refine lv_iload_n S.1 S.2.1 d_Mo_get_64 rfl (lv_at hl 0 rfl) ?_
            refine mo_iald S K P M 9 rfl (32 * mp + j) rfl (by show 32 * mp + j < 160; omega) d_Mo_get_65 ?_
            refine lv_istore S.1 S.2.1 d_Mo_get_66 hl (by decide) rfl (fun ls hl => ?_)
            refine lv_aload_n S.1 S.2.1 d_Mo_get_68 rfl (lv_at hl 2 rfl) ?_
            refine lv_iload_n S.1 S.2.1 d_Mo_get_69 rfl (lv_at hl 3 rfl) ?_
            refine lv_iload_n S.1 S.2.1 d_Mo_get_70 rfl (lv_at hl 1 rfl) ?_
            refine mo_after F (cv_Mo_126_Mo S hB K E P hS M.1 (c_Mo_useM l hB M h1 hm hh) rfl (by decide) (Nat.le_refl _) (Nat.le_refl _) hl.1 rfl (Nat.le_of_ble_eq_true rfl) d_Mo_get_71) hS (fun v R1 σ H locs hp P hS M F => ?_)
            obtain ⟨rfl, hrf, hz0⟩ := hp
            refine lv_iload S.1 S.2.1 d_Mo_get_74 (lv_at hl 0 rfl) ?_
            refine so_iret S hr hlk P hS (Nat.le_refl _) (Nat.le_refl _) ⟨_, ?_, M, F⟩ d_Mo_get_76
            refine Or.inr (Or.inr ⟨mp, key, j, ex, hm, hkey, rfl, rfl, hal, hg2, hh, ?_, by rw [hz0]; exact h1z, hrf⟩)
            rw [hit_what hm h1.2.1 hh]
          · exact absurd (nI_pos' (by omega)) h55
        · have hfd := find_no hm h1.1 h1.2.1 hok hkey hal (fun j e h => hno ⟨j, e, h⟩)
          rw [hfd]
          refine lv_istore_n S.1 S.2.1 d_Mo_get_53 rfl hl (by decide) rfl (fun ls hl => ?_)
          refine lv_iload_n S.1 S.2.1 d_Mo_get_54 rfl (lv_at hl 0 rfl) ?_
          refine lv_if_ge (tgt := 60) S.1 S.2.1 d_Mo_get_55 rfl (fun h55 => ?_) (fun h55 => ?_)
          · exact absurd h55 (by decide)
          · refine lv_iconst (v := (-1)) S.1 S.2.1 d_Mo_get_58 (by decide) ?_
            refine so_iret S hr hlk P hS (Nat.le_refl _) (Nat.le_refl _) ⟨_, ?_, M, F⟩ d_Mo_get_59
            exact Or.inr (Or.inl ⟨mp, key, hm, hkey, rfl, rfl, hal, hg2, fun j e h => hno ⟨j, e, h⟩, rfl, h1z, h1⟩)
      · refine lv_iconst (v := 1) S.1 S.2.1 d_Mo_get_38 (by decide) ?_
        refine lv_goto (tgt := 43) S.1 S.2.1 d_Mo_get_39 rfl ?_
        refine lv_iadd S.1 S.2.1 d_Mo_get_43 ?_
        refine mo_pz_93 S K P hS M F d_Mo_get_44 (fun σ H locs P hS M F => ?_)
        have h1 : refR _ o q (tk_M n mp) k := (h0.s0 0).tk (mp := mp) (x := (sz R 0 0).1 14 + 1) (by rw [if_pos ((nI_eq (b := 1) (by omega) (by decide)).mp h35)])
        have h1z : (sz (sz R 0 0) 14 ((sz R 0 0).1 14 + 1)).1 0 = 0 := rfl
        generalize sz (sz R 0 0) 14 ((sz R 0 0).1 14 + 1) = Rt at M h1 h1z
        refine lv_aload_n S.1 S.2.1 d_Mo_get_47 rfl (lv_at hl 0 rfl) ?_
        refine lv_iload_n S.1 S.2.1 d_Mo_get_48 rfl (lv_at hl 1 rfl) ?_
        refine lv_iload_n S.1 S.2.1 d_Mo_get_49 rfl (lv_at hl 2 rfl) ?_
        refine so_callR (cv_Mo_119_Mo S hB K E P hS M.1 (c_Mo_find l hB M mp key (sz_M q mp) hm hkey (sz_R h1.2.1 hm).1 (by have := ln_le h1.2.1 hm; have := en_ln q mp; omega) (find_ok hm h1.2.1 hok)) rfl (by decide) (Nat.le_refl _) (Nat.le_refl _) hl.1 rfl (Nat.le_of_ble_eq_true rfl) d_Mo_get_50) (fun v hv => ?_)
        subst hv
        rcases Classical.em (∃ j e, hit o q mp key j e) with ⟨j, ex, hh⟩ | hno
        · have hfd := find_hit hm h1.1 h1.2.1 hok hkey hal hh
          rw [hfd]
          have hjl := hh.lt hm
          have hln := ln_le h1.2.1 hm
          refine lv_istore_n S.1 S.2.1 d_Mo_get_53 rfl hl (by decide) rfl (fun ls hl => ?_)
          refine lv_iload_n S.1 S.2.1 d_Mo_get_54 rfl (lv_at hl 0 rfl) ?_
          refine lv_if_ge (tgt := 60) S.1 S.2.1 d_Mo_get_55 rfl (fun h55 => ?_) (fun h55 => ?_)
          · refine lv_aload_n S.1 S.2.1 d_Mo_get_60 rfl (lv_at hl 1 rfl) ?_
            refine gf_Mo_32_Mo S K P M.1 rfl d_Mo_get_61 ?_
            refine lv_iload_n S.1 S.2.1 d_Mo_get_64 rfl (lv_at hl 0 rfl) ?_
            refine mo_iald S K P M 9 rfl (32 * mp + j) rfl (by show 32 * mp + j < 160; omega) d_Mo_get_65 ?_
            refine lv_istore S.1 S.2.1 d_Mo_get_66 hl (by decide) rfl (fun ls hl => ?_)
            refine lv_aload_n S.1 S.2.1 d_Mo_get_68 rfl (lv_at hl 2 rfl) ?_
            refine lv_iload_n S.1 S.2.1 d_Mo_get_69 rfl (lv_at hl 3 rfl) ?_
            refine lv_iload_n S.1 S.2.1 d_Mo_get_70 rfl (lv_at hl 1 rfl) ?_
            refine mo_after F (cv_Mo_126_Mo S hB K E P hS M.1 (c_Mo_useM l hB M h1 hm hh) rfl (by decide) (Nat.le_refl _) (Nat.le_refl _) hl.1 rfl (Nat.le_of_ble_eq_true rfl) d_Mo_get_71) hS (fun v R1 σ H locs hp P hS M F => ?_)
            obtain ⟨rfl, hrf, hz0⟩ := hp
            refine lv_iload S.1 S.2.1 d_Mo_get_74 (lv_at hl 0 rfl) ?_
            refine so_iret S hr hlk P hS (Nat.le_refl _) (Nat.le_refl _) ⟨_, ?_, M, F⟩ d_Mo_get_76
            refine Or.inr (Or.inr ⟨mp, key, j, ex, hm, hkey, rfl, rfl, hal, hg2, hh, ?_, by rw [hz0]; exact h1z, hrf⟩)
            rw [hit_what hm h1.2.1 hh]
          · exact absurd (nI_pos' (by omega)) h55
        · have hfd := find_no hm h1.1 h1.2.1 hok hkey hal (fun j e h => hno ⟨j, e, h⟩)
          rw [hfd]
          refine lv_istore_n S.1 S.2.1 d_Mo_get_53 rfl hl (by decide) rfl (fun ls hl => ?_)
          refine lv_iload_n S.1 S.2.1 d_Mo_get_54 rfl (lv_at hl 0 rfl) ?_
          refine lv_if_ge (tgt := 60) S.1 S.2.1 d_Mo_get_55 rfl (fun h55 => ?_) (fun h55 => ?_)
          · exact absurd h55 (by decide)
          · refine lv_iconst (v := (-1)) S.1 S.2.1 d_Mo_get_58 (by decide) ?_
            refine so_iret S hr hlk P hS (Nat.le_refl _) (Nat.le_refl _) ⟨_, ?_, M, F⟩ d_Mo_get_59
            exact Or.inr (Or.inl ⟨mp, key, hm, hkey, rfl, rfl, hal, hg2, fun j e h => hno ⟨j, e, h⟩, rfl, h1z, h1⟩)
    · refine lv_aload_n S.1 S.2.1 d_Mo_get_22 rfl (lv_at hl 0 rfl) ?_
      refine lv_iconst (v := 1) S.1 S.2.1 d_Mo_get_23 (by decide) ?_
      refine mo_after F (cv_Mo_60_Mo S hB K E P hS M.1 (c_Mo_refuse l hB M 1) rfl (by decide) (Nat.le_refl _) (Nat.le_refl _) hl.1 rfl (Nat.le_of_ble_eq_true rfl) d_Mo_get_24) hS (fun v R1 σ H locs hp P hS M F => ?_)
      obtain ⟨rfl, rfl⟩ := hp
      refine so_iret S hr hlk P hS (Nat.le_refl _) (Nat.le_refl _) ⟨_, ?_, M, F⟩ d_Mo_get_27
      refine Or.inl ⟨?_, rfl, rfl, ⟨h0.1, h0.2.1, h0.2.2.1, h0.2.2.2⟩⟩
      first
        | (unfold gk_O; rw [(bI_0 _).mp h10]; rfl; done)
        | (rw [← hgk]; exact (bI_0 _).mp h19)
/-- the entry at place j becomes e -/
def st_M (q : Mps) (mp j : Nat) (e : Nat × Nat) : Mps := if mp = 0 then (q.1.set j e, q.2) else if mp = 1 then (q.1, (q.2.1.1.set j e, q.2.1.2), q.2.2) else if mp = 2 then (q.1, q.2.1, va_up q.2.2.1 j (some e), q.2.2.2) else if mp = 3 then (q.1, q.2.1, q.2.2.1, va_up q.2.2.2.1 j (some e.2), q.2.2.2.2) else (q.1, q.2.1, q.2.2.1, q.2.2.2.1, q.2.2.2.2.set j e)
theorem cn_same {α : Type} {f : Nat → Option α} {t : Nat} {x y : α} (h : f t = some x) : ∀ (n : Nat), cn (va_up f t (some y)) n = cn f n
  | 0 => rfl
  | n + 1 => by
    unfold cn
    rw [cn_same h n]
    by_cases c : n = t
    · rw [c, va_up_self, h]; rfl
    · rw [va_up_ne _ _ c]
theorem rowR.st {R : Rf} {mp j val : Nat} {l : List (Nat × Nat)} {e : Nat × Nat} (h : rowR R mp l) (he : l[j]? = some e) : rowR (sa R 9 (32 * mp + j) (nI val)) mp (l.set j (e.1, val)) := by
  refine ⟨by rw [List.length_set]; exact h.1, by rw [List.length_set]; exact h.2.1, fun i x hx => ?_⟩
  show R.2.1 8 (32 * mp + i) = nI x.1 ∧ upd (R.2.1 9) (32 * mp + j) (nI val) (32 * mp + i) = nI x.2
  rw [List.getElem?_set] at hx
  unfold upd
  by_cases c : j = i
  · rw [if_pos c] at hx
    subst c
    rw [if_pos (List.getElem?_eq_some_iff.mp he).1] at hx
    cases hx
    rw [if_pos rfl]
    exact ⟨(h.2.2 j e he).1, rfl⟩
  · rw [if_neg c] at hx
    rw [if_neg (by omega)]
    exact h.2.2 i x hx
theorem refR.st {R : Rf} {o : Obs} {q : Mps} {n : Nms} {k : Wks} (h0 : refR R o q n k) {mp key j val : Nat} {e : Nat × Nat} (hm : mp < 5) (h : hit o q mp key j e) : refR (sa R 9 (32 * mp + j) (nI val)) o (st_M q mp j (e.1, val)) n k ∧ hit o (st_M q mp j (e.1, val)) mp key j (e.1, val) := by
  have hln := ln_le h0.2.1 hm
  have hjl := h.lt hm
  have g1 : eqo mp R (sa R 9 (32 * mp + j) (nI val)) := eqo.sa9 (by omega) (by omega)
  have ga := g1.agr
  obtain ⟨a, ⟨b1, b2, b3⟩, ⟨c1, c2⟩, ⟨d1, d2⟩, ee⟩ := h0.2.1
  have ul : q.2.1.2.length ≤ 32 := by have := b1.2.1; omega
  have hob := ga.ob (fun _ _ => rfl) h0.1
  have hwk := ga.wk2 rfl h0.2.2.2
  rcases (show mp = 0 ∨ mp = 1 ∨ mp = 2 ∨ mp = 3 ∨ mp = 4 by omega) with rfl | rfl | rfl | rfl | rfl
  · exact ⟨⟨hob, ⟨a.st h.1, ⟨ga.row (by decide) b1, ga.use (by decide) ul b2, b3⟩, ⟨ga.id (by decide) c1, c2⟩, ⟨ga.pl (by decide) d1, d2⟩, ga.row (by decide) ee⟩, h0.2.2.1, hwk⟩, List.getElem?_set_self (List.getElem?_eq_some_iff.mp h.1).1, h.2⟩
  · exact ⟨⟨hob, ⟨ga.row (by decide) a, ⟨b1.st h.1, b2, by show q.2.1.2.length = (q.2.1.1.set j (e.1, val)).length; rw [List.length_set]; exact b3⟩, ⟨ga.id (by decide) c1, c2⟩, ⟨ga.pl (by decide) d1, d2⟩, ga.row (by decide) ee⟩, h0.2.2.1, hwk⟩, List.getElem?_set_self (List.getElem?_eq_some_iff.mp h.1).1, h.2⟩
  · refine ⟨⟨hob, ⟨ga.row (by decide) a, ⟨ga.row (by decide) b1, ga.use (by decide) ul b2, b3⟩, ⟨fun s hs => ?_, by show R.2.1 11 2 = nI (cn (va_up q.2.2.1 j (some (e.1, val))) 16); rw [cn_same h.2.1]; exact c2⟩, ⟨ga.pl (by decide) d1, d2⟩, ga.row (by decide) ee⟩, h0.2.2.1, hwk⟩, h.1, va_up_self _ _ _, h.2.2⟩
    show slR _ s (va_up q.2.2.1 j (some (e.1, val)) s)
    have k9 : (sa R 9 (32 * 2 + j) (nI val)).2.1 9 (64 + s) = upd (R.2.1 9) (32 * 2 + j) (nI val) (64 + s) := rfl
    by_cases c : s = j
    · have h1 := c1 s hs
      rw [c, h.2.1] at h1
      rw [c, va_up_self]
      rw [c] at k9
      exact ⟨h1.1, k9.trans (if_pos (by omega)), h1.2.2⟩
    · rw [va_up_ne _ _ c]
      have h1 := c1 s hs
      unfold slR at h1 ⊢
      rw [k9]
      unfold upd
      rw [if_neg (by omega)]
      exact h1
  · refine ⟨⟨hob, ⟨ga.row (by decide) a, ⟨ga.row (by decide) b1, ga.use (by decide) ul b2, b3⟩, ⟨ga.id (by decide) c1, c2⟩, ⟨fun s hs => ?_, by show R.2.1 11 3 = nI (cn (va_up q.2.2.2.1 j (some val)) 8); rw [cn_same h.2.1]; exact d2⟩, ga.row (by decide) ee⟩, h0.2.2.1, hwk⟩, h.1, va_up_self _ _ _, h.2.2⟩
    show ppR _ s (va_up q.2.2.2.1 j (some val) s)
    have k9 : (sa R 9 (32 * 3 + j) (nI val)).2.1 9 (96 + s) = upd (R.2.1 9) (32 * 3 + j) (nI val) (96 + s) := rfl
    by_cases c : s = j
    · have h1 := d1 s hs
      rw [c, h.2.1] at h1
      rw [c, va_up_self]
      rw [c] at k9
      exact ⟨h1.1, k9.trans (if_pos (by omega))⟩
    · rw [va_up_ne _ _ c]
      have h1 := d1 s hs
      unfold ppR at h1 ⊢
      rw [k9]
      unfold upd
      rw [if_neg (by omega)]
      exact h1
  · exact ⟨⟨hob, ⟨ga.row (by decide) a, ⟨ga.row (by decide) b1, ga.use (by decide) ul b2, b3⟩, ⟨ga.id (by decide) c1, c2⟩, ⟨ga.pl (by decide) d1, d2⟩, ee.st h.1⟩, h0.2.2.1, hwk⟩, List.getElem?_set_self (List.getElem?_eq_some_iff.mp h.1).1, h.2⟩
def po_O (o : Obs) (x kx vx : Int32) : Bool := gk_O o x kx && al_O o vx
set_option maxHeartbeats 400000 in
set_option maxRecDepth 100000 in
theorem c_Mo_put (l : Launch) {s0 : State} {D : va_G} {ca : Nat → ClassId} (hB : so_B tbl s0 D vcl (tyl ca)) {σ : so_S} {mo : Nat} {ar : Nat → Nat} {R : Rf} (M : MoR ca σ mo ar R) {o : Obs} {q : Mps} {n : Nms} {k : Wks} (h0 : refR R o q n k) (hok : okM o q) (h12 : cn q.2.2.1 16 ≤ 12) (hbk : n.1 ≤ 32) (hlens : ∀ key, key < 32 → o.1 key = true → ((∀ j e, ¬ hit o q 0 key j e) → q.1.length < 32) ∧ ((∀ j e, ¬ hit o q 1 key j e) → q.2.1.1.length < 32) ∧ q.2.2.2.2.length < 32) (x kx vx : Int32) : mo_C l s0 D ca mo ar σ y_Mo_put b_Mo_put 6 (some .int) 5 [.int x, .int kx, .int vx] (fun v R1 => (po_O o x kx vx = false ∧ v = some (.int 0) ∧ R1.1 0 = 1 ∧ refR R1 o q n k) ∨ (∃ key, key < 32 ∧ x = nI 2 ∧ kx = nI key ∧ o.1 key = true ∧ po_O o x kx vx = true ∧ (∀ j e, ¬ hit o q 2 key j e) ∧ cn q.2.2.1 16 = 12 ∧ v = some (.int 0) ∧ R1.1 0 = 2 ∧ refR R1 o q n k) ∨ (∃ mp key val q1 n1, mp < 5 ∧ key < 32 ∧ val < 32 ∧ x = nI mp ∧ kx = nI key ∧ vx = nI val ∧ o.1 key = true ∧ o.1 val = true ∧ po_O o x kx vx = true ∧ (∀ j e, ¬ hit o q mp key j e) ∧ (mp = 2 → cn q.2.2.1 16 < 12) ∧ adR o q (tk_M n mp) mp key val q1 n1 ∧ v = some (.int (-1)) ∧ R1.1 0 = 0 ∧ refR R1 o q1 n1 (k.1, va_up k.2.1 mp true, k.2.2)) ∨ (∃ mp key val j e, mp < 5 ∧ key < 32 ∧ val < 32 ∧ x = nI mp ∧ kx = nI key ∧ vx = nI val ∧ o.1 key = true ∧ o.1 val = true ∧ po_O o x kx vx = true ∧ hit o q mp key j e ∧ v = some (.int (nI e.2)) ∧ R1.1 0 = 0 ∧ refR R1 o (us_M (st_M q mp j (e.1, val)) (tk_M n mp).2.1 mp j (e.1, val)) (tk_M n mp) (uw_M (st_M q mp j (e.1, val)) k mp j))) := by
  refine so_of hB (by decide) (Nat.le_of_ble_eq_true rfl) ?_
  intro p e s m below meth c ls S K E hr hlk hnm P hS hl
  have hl : lv_has ls 6 [(0, .ref mo), (1, .int x), (2, .int kx), (3, .int vx)] := hl
  have F : fM σ σ := fM.rf
  refine lv_aload_n S.1 S.2.1 d_Mo_put_0 rfl (lv_at hl 0 rfl) ?_
  refine lv_iconst (v := 0) S.1 S.2.1 d_Mo_put_1 (by decide) ?_
  refine mo_pz_57 S K P hS M F d_Mo_put_2 (fun σ H locs P hS M F => ?_)
  refine lv_aload_n S.1 S.2.1 d_Mo_put_5 rfl (lv_at hl 0 rfl) ?_
  refine lv_iload_n S.1 S.2.1 d_Mo_put_6 rfl (lv_at hl 1 rfl) ?_
  refine so_callR (cv_Mo_112_Mo S hB K E P hS M.1 (c_Mo_isMap l hB M x) rfl (by decide) (Nat.le_refl _) (Nat.le_refl _) hl.1 rfl (Nat.le_of_ble_eq_true rfl) d_Mo_put_7) (fun v hv => ?_)
  subst hv
  refine lv_if_eq (tgt := 30) S.1 S.2.1 d_Mo_put_10 rfl (fun h10 => ?_) (fun h10 => ?_)
  · refine lv_aload_n S.1 S.2.1 d_Mo_put_30 rfl (lv_at hl 0 rfl) ?_
    refine lv_iconst (v := 1) S.1 S.2.1 d_Mo_put_31 (by decide) ?_
    refine mo_after F (cv_Mo_60_Mo S hB K E P hS M.1 (c_Mo_refuse l hB M 1) rfl (by decide) (Nat.le_refl _) (Nat.le_refl _) hl.1 rfl (Nat.le_of_ble_eq_true rfl) d_Mo_put_32) hS (fun v R1 σ H locs hp P hS M F => ?_)
    obtain ⟨rfl, rfl⟩ := hp
    refine so_iret S hr hlk P hS (Nat.le_refl _) (Nat.le_refl _) ⟨_, ?_, M, F⟩ d_Mo_put_35
    refine Or.inl ⟨?_, rfl, rfl, ⟨h0.1, h0.2.1, h0.2.2.1, h0.2.2.2⟩⟩
    have e9 : is_M x = false := (bI_0 _).mp h10
    unfold po_O gk_O
    rw [e9, Bool.false_and, Bool.false_and]
  · have hx : is_M x = true := bI_1 h10
    obtain ⟨mp, hm, rfl⟩ := is_M_cases hx
    have hgk : ky_O R mp kx = gk_O o (nI mp) kx := gk_is h0.1 hok.1 hm kx
    refine lv_aload_n S.1 S.2.1 d_Mo_put_13 rfl (lv_at hl 0 rfl) ?_
    refine lv_iload_n S.1 S.2.1 d_Mo_put_14 rfl (lv_at hl 1 rfl) ?_
    refine lv_iload_n S.1 S.2.1 d_Mo_put_15 rfl (lv_at hl 2 rfl) ?_
    refine so_callR (cv_Mo_115_Mo S hB K E P hS M.1 (c_Mo_isKey l hB M mp hm kx) rfl (by decide) (Nat.le_refl _) (Nat.le_refl _) hl.1 rfl (Nat.le_of_ble_eq_true rfl) d_Mo_put_16) (fun v hv => ?_)
    subst hv
    refine lv_if_eq (tgt := 30) S.1 S.2.1 d_Mo_put_19 rfl (fun h19 => ?_) (fun h19 => ?_)
    · refine lv_aload_n S.1 S.2.1 d_Mo_put_30 rfl (lv_at hl 0 rfl) ?_
      refine lv_iconst (v := 1) S.1 S.2.1 d_Mo_put_31 (by decide) ?_
      refine mo_after F (cv_Mo_60_Mo S hB K E P hS M.1 (c_Mo_refuse l hB M 1) rfl (by decide) (Nat.le_refl _) (Nat.le_refl _) hl.1 rfl (Nat.le_of_ble_eq_true rfl) d_Mo_put_32) hS (fun v R1 σ H locs hp P hS M F => ?_)
      obtain ⟨rfl, rfl⟩ := hp
      refine so_iret S hr hlk P hS (Nat.le_refl _) (Nat.le_refl _) ⟨_, ?_, M, F⟩ d_Mo_put_35
      refine Or.inl ⟨?_, rfl, rfl, ⟨h0.1, h0.2.1, h0.2.2.1, h0.2.2.2⟩⟩
      have e9 : gk_O o (nI mp) kx = false := by rw [← hgk]; exact (bI_0 _).mp h19
      unfold po_O
      rw [e9, Bool.false_and]
    · have hg2 : gk_O o (nI mp) kx = true := by rw [← hgk]; exact bI_1 h19
      refine lv_aload_n S.1 S.2.1 d_Mo_put_22 rfl (lv_at hl 0 rfl) ?_
      refine lv_iload_n S.1 S.2.1 d_Mo_put_23 rfl (lv_at hl 3 rfl) ?_
      refine so_callR (cv_Mo_64_Mo S hB K E P hS M.1 (c_Mo_isObject l hB M vx) rfl (by decide) (Nat.le_refl _) (Nat.le_refl _) hl.1 rfl (Nat.le_of_ble_eq_true rfl) d_Mo_put_24) (fun v hv => ?_)
      subst hv
      refine lv_if_ne (tgt := 36) S.1 S.2.1 d_Mo_put_27 rfl (fun h27 => ?_) (fun h27 => ?_)
      · have hv2 : al_O o vx = true := by rw [← is_al2 h0.1]; exact bI_1 h27
        have hpo : po_O o (nI mp) kx vx = true := by unfold po_O; rw [hg2, hv2]; rfl
        obtain ⟨mp2, key, hmp2, hkey, hme, rfl, hal, h38⟩ := gk_al hg2
        obtain rfl : mp = mp2 := (nI_eq (by omega) (by omega)).mp hme
        obtain ⟨val, hval, rfl, hvl⟩ := al_cases hv2
        have hs0 : refR (sz R 0 0) o q n k := h0.s0 0
        have hlen := hlens key hkey hal
        have hpn : mp = 3 → (¬ ∃ j e, hit o q mp key j e) → q.2.2.2.1 (o.2.1 key) = none := fun c hn => by
          subst c
          cases hx9 : q.2.2.2.1 (o.2.1 key) with
          | none => rfl
          | some y => exact absurd ⟨o.2.1 key, (o.2.1 key, y), h38 rfl, hx9, rfl, rfl⟩ hn
        refine lv_aload_n S.1 S.2.1 d_Mo_put_36 rfl (lv_at hl 0 rfl) ?_
        refine lv_iload_n S.1 S.2.1 d_Mo_put_37 rfl (lv_at hl 1 rfl) ?_
        refine lv_iload_n S.1 S.2.1 d_Mo_put_38 rfl (lv_at hl 2 rfl) ?_
        refine so_callR (cv_Mo_119_Mo S hB K E P hS M.1 (c_Mo_find l hB M mp key (sz_M q mp) hm hkey (sz_R hs0.2.1 hm).1 (by have := ln_le hs0.2.1 hm; have := en_ln q mp; omega) (find_ok hm hs0.2.1 hok)) rfl (by decide) (Nat.le_refl _) (Nat.le_refl _) hl.1 rfl (Nat.le_of_ble_eq_true rfl) d_Mo_put_39) (fun v hv => ?_)
        subst hv
        rcases Classical.em (∃ j e, hit o q mp key j e) with ⟨j, ex, hh⟩ | hno
        · have hfd := find_hit hm hs0.1 hs0.2.1 hok hkey hal hh
          rw [hfd]
          have hjl := hh.lt hm
          have hln := ln_le hs0.2.1 hm
          refine lv_istore S.1 S.2.1 d_Mo_put_42 hl (by decide) rfl (fun ls hl => ?_)
          refine lv_iload_n S.1 S.2.1 d_Mo_put_44 rfl (lv_at hl 2 rfl) ?_
          refine lv_iconst (v := 2) S.1 S.2.1 d_Mo_put_45 (by decide) ?_
          refine lv_icmp_ne (tgt := 71) S.1 S.2.1 d_Mo_put_46 rfl (fun h46 => ?_) (fun h46 => ?_)
          · refine lv_aload_n S.1 S.2.1 d_Mo_put_71 rfl (lv_at hl 1 rfl) ?_
            refine lv_dup S.1 S.2.1 d_Mo_put_72 rfl ?_
            refine gf_Mo_93_Mo S K P M.1 rfl d_Mo_put_73 ?_
            refine lv_iload_n S.1 S.2.1 d_Mo_put_76 rfl (lv_at hl 2 rfl) ?_
            refine lv_iconst (v := 1) S.1 S.2.1 d_Mo_put_77 (by decide) ?_
            refine lv_icmp_ne (tgt := 85) S.1 S.2.1 d_Mo_put_78 rfl (fun h78 => ?_) (fun h78 => ?_)
            · refine lv_iconst (v := 0) S.1 S.2.1 d_Mo_put_85 (by decide) ?_
              refine lv_iadd S.1 S.2.1 d_Mo_put_86 ?_
              refine mo_pz_93 S K P hS M F d_Mo_put_87 (fun σ H locs P hS M F => ?_)
              have h1 : refR _ o q (tk_M n mp) k := (h0.s0 0).tk (mp := mp) (x := (sz R 0 0).1 14 + 0) (by rw [if_neg (fun z => h78 (by rw [z]; rfl))])
              have h1z : (sz (sz R 0 0) 14 ((sz R 0 0).1 14 + 0)).1 0 = 0 := rfl
              generalize sz (sz R 0 0) 14 ((sz R 0 0).1 14 + 0) = Rt at M h1 h1z
              refine lv_iload S.1 S.2.1 d_Mo_put_90 (lv_at hl 0 rfl) ?_
              refine lv_if_ge (tgt := 104) S.1 S.2.1 d_Mo_put_92 rfl (fun h92 => ?_) (fun h92 => ?_)
              · refine lv_aload_n S.1 S.2.1 d_Mo_put_104 rfl (lv_at hl 1 rfl) ?_
                refine gf_Mo_32_Mo S K P M.1 rfl d_Mo_put_105 ?_
                refine lv_iload S.1 S.2.1 d_Mo_put_108 (lv_at hl 0 rfl) ?_
                refine mo_iald S K P M 9 rfl (32 * mp + j) rfl (by show 32 * mp + j < 160; omega) d_Mo_put_110 ?_
                refine lv_istore S.1 S.2.1 d_Mo_put_111 hl (by decide) rfl (fun ls hl => ?_)
                refine lv_aload_n S.1 S.2.1 d_Mo_put_113 rfl (lv_at hl 2 rfl) ?_
                refine gf_Mo_32_Mo S K P M.1 rfl d_Mo_put_114 ?_
                refine lv_iload S.1 S.2.1 d_Mo_put_117 (lv_at hl 1 rfl) ?_
                refine lv_iload_n S.1 S.2.1 d_Mo_put_119 rfl (lv_at hl 5 rfl) ?_
                refine mo_iast S K P hS M F 9 rfl (32 * mp + j) rfl (by show 32 * mp + j < 160; omega) d_Mo_put_120 (fun σ H locs P hS M F => ?_)
                have hst := h1.st (val := val) hm hh
                refine lv_aload_n S.1 S.2.1 d_Mo_put_121 rfl (lv_at hl 2 rfl) ?_
                refine lv_iload_n S.1 S.2.1 d_Mo_put_122 rfl (lv_at hl 3 rfl) ?_
                refine lv_iload S.1 S.2.1 d_Mo_put_123 (lv_at hl 1 rfl) ?_
                refine mo_after F (cv_Mo_126_Mo S hB K E P hS M.1 (c_Mo_useM l hB M hst.1 hm hst.2) rfl (by decide) (Nat.le_refl _) (Nat.le_refl _) hl.1 rfl (Nat.le_of_ble_eq_true rfl) d_Mo_put_125) hS (fun v R1 σ H locs hp P hS M F => ?_)
                obtain ⟨rfl, hrf, hz0⟩ := hp
                refine lv_iload S.1 S.2.1 d_Mo_put_128 (lv_at hl 0 rfl) ?_
                refine so_iret S hr hlk P hS (Nat.le_refl _) (Nat.le_refl _) ⟨_, ?_, M, F⟩ d_Mo_put_130
                refine Or.inr (Or.inr (Or.inr ⟨mp, key, val, j, ex, hm, hkey, hval, rfl, rfl, rfl, hal, hvl, hpo, hh, ?_, by rw [hz0]; exact h1z, hrf⟩))
                rw [hit_what hm h1.2.1 hh]
              · exact absurd (nI_pos' (by omega)) h92
            · refine lv_iconst (v := 1) S.1 S.2.1 d_Mo_put_81 (by decide) ?_
              refine lv_goto (tgt := 86) S.1 S.2.1 d_Mo_put_82 rfl ?_
              refine lv_iadd S.1 S.2.1 d_Mo_put_86 ?_
              refine mo_pz_93 S K P hS M F d_Mo_put_87 (fun σ H locs P hS M F => ?_)
              have h1 : refR _ o q (tk_M n mp) k := (h0.s0 0).tk (mp := mp) (x := (sz R 0 0).1 14 + 1) (by rw [if_pos ((nI_eq (b := 1) (by omega) (by decide)).mp h78)])
              have h1z : (sz (sz R 0 0) 14 ((sz R 0 0).1 14 + 1)).1 0 = 0 := rfl
              generalize sz (sz R 0 0) 14 ((sz R 0 0).1 14 + 1) = Rt at M h1 h1z
              refine lv_iload S.1 S.2.1 d_Mo_put_90 (lv_at hl 0 rfl) ?_
              refine lv_if_ge (tgt := 104) S.1 S.2.1 d_Mo_put_92 rfl (fun h92 => ?_) (fun h92 => ?_)
              · refine lv_aload_n S.1 S.2.1 d_Mo_put_104 rfl (lv_at hl 1 rfl) ?_
                refine gf_Mo_32_Mo S K P M.1 rfl d_Mo_put_105 ?_
                refine lv_iload S.1 S.2.1 d_Mo_put_108 (lv_at hl 0 rfl) ?_
                refine mo_iald S K P M 9 rfl (32 * mp + j) rfl (by show 32 * mp + j < 160; omega) d_Mo_put_110 ?_
                refine lv_istore S.1 S.2.1 d_Mo_put_111 hl (by decide) rfl (fun ls hl => ?_)
                refine lv_aload_n S.1 S.2.1 d_Mo_put_113 rfl (lv_at hl 2 rfl) ?_
                refine gf_Mo_32_Mo S K P M.1 rfl d_Mo_put_114 ?_
                refine lv_iload S.1 S.2.1 d_Mo_put_117 (lv_at hl 1 rfl) ?_
                refine lv_iload_n S.1 S.2.1 d_Mo_put_119 rfl (lv_at hl 5 rfl) ?_
                refine mo_iast S K P hS M F 9 rfl (32 * mp + j) rfl (by show 32 * mp + j < 160; omega) d_Mo_put_120 (fun σ H locs P hS M F => ?_)
                have hst := h1.st (val := val) hm hh
                refine lv_aload_n S.1 S.2.1 d_Mo_put_121 rfl (lv_at hl 2 rfl) ?_
                refine lv_iload_n S.1 S.2.1 d_Mo_put_122 rfl (lv_at hl 3 rfl) ?_
                refine lv_iload S.1 S.2.1 d_Mo_put_123 (lv_at hl 1 rfl) ?_
                refine mo_after F (cv_Mo_126_Mo S hB K E P hS M.1 (c_Mo_useM l hB M hst.1 hm hst.2) rfl (by decide) (Nat.le_refl _) (Nat.le_refl _) hl.1 rfl (Nat.le_of_ble_eq_true rfl) d_Mo_put_125) hS (fun v R1 σ H locs hp P hS M F => ?_)
                obtain ⟨rfl, hrf, hz0⟩ := hp
                refine lv_iload S.1 S.2.1 d_Mo_put_128 (lv_at hl 0 rfl) ?_
                refine so_iret S hr hlk P hS (Nat.le_refl _) (Nat.le_refl _) ⟨_, ?_, M, F⟩ d_Mo_put_130
                refine Or.inr (Or.inr (Or.inr ⟨mp, key, val, j, ex, hm, hkey, hval, rfl, rfl, rfl, hal, hvl, hpo, hh, ?_, by rw [hz0]; exact h1z, hrf⟩))
                rw [hit_what hm h1.2.1 hh]
              · exact absurd (nI_pos' (by omega)) h92
          · have c2 : mp = 2 := (nI_eq (b := 2) (by omega) (by decide)).mp h46
            refine lv_iload S.1 S.2.1 d_Mo_put_49 (lv_at hl 0 rfl) ?_
            refine lv_if_ge (tgt := 71) S.1 S.2.1 d_Mo_put_51 rfl (fun h51 => ?_) (fun h51 => ?_)
            · refine lv_aload_n S.1 S.2.1 d_Mo_put_71 rfl (lv_at hl 1 rfl) ?_
              refine lv_dup S.1 S.2.1 d_Mo_put_72 rfl ?_
              refine gf_Mo_93_Mo S K P M.1 rfl d_Mo_put_73 ?_
              refine lv_iload_n S.1 S.2.1 d_Mo_put_76 rfl (lv_at hl 2 rfl) ?_
              refine lv_iconst (v := 1) S.1 S.2.1 d_Mo_put_77 (by decide) ?_
              refine lv_icmp_ne (tgt := 85) S.1 S.2.1 d_Mo_put_78 rfl (fun h78 => ?_) (fun h78 => ?_)
              · refine lv_iconst (v := 0) S.1 S.2.1 d_Mo_put_85 (by decide) ?_
                refine lv_iadd S.1 S.2.1 d_Mo_put_86 ?_
                refine mo_pz_93 S K P hS M F d_Mo_put_87 (fun σ H locs P hS M F => ?_)
                have h1 : refR _ o q (tk_M n mp) k := (h0.s0 0).tk (mp := mp) (x := (sz R 0 0).1 14 + 0) (by rw [if_neg (fun z => h78 (by rw [z]; rfl))])
                have h1z : (sz (sz R 0 0) 14 ((sz R 0 0).1 14 + 0)).1 0 = 0 := rfl
                generalize sz (sz R 0 0) 14 ((sz R 0 0).1 14 + 0) = Rt at M h1 h1z
                refine lv_iload S.1 S.2.1 d_Mo_put_90 (lv_at hl 0 rfl) ?_
                refine lv_if_ge (tgt := 104) S.1 S.2.1 d_Mo_put_92 rfl (fun h92 => ?_) (fun h92 => ?_)
                · refine lv_aload_n S.1 S.2.1 d_Mo_put_104 rfl (lv_at hl 1 rfl) ?_
                  refine gf_Mo_32_Mo S K P M.1 rfl d_Mo_put_105 ?_
                  refine lv_iload S.1 S.2.1 d_Mo_put_108 (lv_at hl 0 rfl) ?_
                  refine mo_iald S K P M 9 rfl (32 * mp + j) rfl (by show 32 * mp + j < 160; omega) d_Mo_put_110 ?_
                  refine lv_istore S.1 S.2.1 d_Mo_put_111 hl (by decide) rfl (fun ls hl => ?_)
                  refine lv_aload_n S.1 S.2.1 d_Mo_put_113 rfl (lv_at hl 2 rfl) ?_
                  refine gf_Mo_32_Mo S K P M.1 rfl d_Mo_put_114 ?_
                  refine lv_iload S.1 S.2.1 d_Mo_put_117 (lv_at hl 1 rfl) ?_
                  refine lv_iload_n S.1 S.2.1 d_Mo_put_119 rfl (lv_at hl 5 rfl) ?_
                  refine mo_iast S K P hS M F 9 rfl (32 * mp + j) rfl (by show 32 * mp + j < 160; omega) d_Mo_put_120 (fun σ H locs P hS M F => ?_)
                  have hst := h1.st (val := val) hm hh
                  refine lv_aload_n S.1 S.2.1 d_Mo_put_121 rfl (lv_at hl 2 rfl) ?_
                  refine lv_iload_n S.1 S.2.1 d_Mo_put_122 rfl (lv_at hl 3 rfl) ?_
                  refine lv_iload S.1 S.2.1 d_Mo_put_123 (lv_at hl 1 rfl) ?_
                  refine mo_after F (cv_Mo_126_Mo S hB K E P hS M.1 (c_Mo_useM l hB M hst.1 hm hst.2) rfl (by decide) (Nat.le_refl _) (Nat.le_refl _) hl.1 rfl (Nat.le_of_ble_eq_true rfl) d_Mo_put_125) hS (fun v R1 σ H locs hp P hS M F => ?_)
                  obtain ⟨rfl, hrf, hz0⟩ := hp
                  refine lv_iload S.1 S.2.1 d_Mo_put_128 (lv_at hl 0 rfl) ?_
                  refine so_iret S hr hlk P hS (Nat.le_refl _) (Nat.le_refl _) ⟨_, ?_, M, F⟩ d_Mo_put_130
                  refine Or.inr (Or.inr (Or.inr ⟨mp, key, val, j, ex, hm, hkey, hval, rfl, rfl, rfl, hal, hvl, hpo, hh, ?_, by rw [hz0]; exact h1z, hrf⟩))
                  rw [hit_what hm h1.2.1 hh]
                · exact absurd (nI_pos' (by omega)) h92
              · refine lv_iconst (v := 1) S.1 S.2.1 d_Mo_put_81 (by decide) ?_
                refine lv_goto (tgt := 86) S.1 S.2.1 d_Mo_put_82 rfl ?_
                refine lv_iadd S.1 S.2.1 d_Mo_put_86 ?_
                refine mo_pz_93 S K P hS M F d_Mo_put_87 (fun σ H locs P hS M F => ?_)
                have h1 : refR _ o q (tk_M n mp) k := (h0.s0 0).tk (mp := mp) (x := (sz R 0 0).1 14 + 1) (by rw [if_pos ((nI_eq (b := 1) (by omega) (by decide)).mp h78)])
                have h1z : (sz (sz R 0 0) 14 ((sz R 0 0).1 14 + 1)).1 0 = 0 := rfl
                generalize sz (sz R 0 0) 14 ((sz R 0 0).1 14 + 1) = Rt at M h1 h1z
                refine lv_iload S.1 S.2.1 d_Mo_put_90 (lv_at hl 0 rfl) ?_
                refine lv_if_ge (tgt := 104) S.1 S.2.1 d_Mo_put_92 rfl (fun h92 => ?_) (fun h92 => ?_)
                · refine lv_aload_n S.1 S.2.1 d_Mo_put_104 rfl (lv_at hl 1 rfl) ?_
                  refine gf_Mo_32_Mo S K P M.1 rfl d_Mo_put_105 ?_
                  refine lv_iload S.1 S.2.1 d_Mo_put_108 (lv_at hl 0 rfl) ?_
                  refine mo_iald S K P M 9 rfl (32 * mp + j) rfl (by show 32 * mp + j < 160; omega) d_Mo_put_110 ?_
                  refine lv_istore S.1 S.2.1 d_Mo_put_111 hl (by decide) rfl (fun ls hl => ?_)
                  refine lv_aload_n S.1 S.2.1 d_Mo_put_113 rfl (lv_at hl 2 rfl) ?_
                  refine gf_Mo_32_Mo S K P M.1 rfl d_Mo_put_114 ?_
                  refine lv_iload S.1 S.2.1 d_Mo_put_117 (lv_at hl 1 rfl) ?_
                  refine lv_iload_n S.1 S.2.1 d_Mo_put_119 rfl (lv_at hl 5 rfl) ?_
                  refine mo_iast S K P hS M F 9 rfl (32 * mp + j) rfl (by show 32 * mp + j < 160; omega) d_Mo_put_120 (fun σ H locs P hS M F => ?_)
                  have hst := h1.st (val := val) hm hh
                  refine lv_aload_n S.1 S.2.1 d_Mo_put_121 rfl (lv_at hl 2 rfl) ?_
                  refine lv_iload_n S.1 S.2.1 d_Mo_put_122 rfl (lv_at hl 3 rfl) ?_
                  refine lv_iload S.1 S.2.1 d_Mo_put_123 (lv_at hl 1 rfl) ?_
                  refine mo_after F (cv_Mo_126_Mo S hB K E P hS M.1 (c_Mo_useM l hB M hst.1 hm hst.2) rfl (by decide) (Nat.le_refl _) (Nat.le_refl _) hl.1 rfl (Nat.le_of_ble_eq_true rfl) d_Mo_put_125) hS (fun v R1 σ H locs hp P hS M F => ?_)
                  obtain ⟨rfl, hrf, hz0⟩ := hp
                  refine lv_iload S.1 S.2.1 d_Mo_put_128 (lv_at hl 0 rfl) ?_
                  refine so_iret S hr hlk P hS (Nat.le_refl _) (Nat.le_refl _) ⟨_, ?_, M, F⟩ d_Mo_put_130
                  refine Or.inr (Or.inr (Or.inr ⟨mp, key, val, j, ex, hm, hkey, hval, rfl, rfl, rfl, hal, hvl, hpo, hh, ?_, by rw [hz0]; exact h1z, hrf⟩))
                  rw [hit_what hm h1.2.1 hh]
                · exact absurd (nI_pos' (by omega)) h92
            · exact absurd (nI_pos' (by omega)) h51
        · have hfd := find_no hm hs0.1 hs0.2.1 hok hkey hal (fun j e h => hno ⟨j, e, h⟩)
          rw [hfd]
          replace hpn := fun c => hpn c hno
          refine lv_istore S.1 S.2.1 d_Mo_put_42 hl (by decide) rfl (fun ls hl => ?_)
          refine lv_iload_n S.1 S.2.1 d_Mo_put_44 rfl (lv_at hl 2 rfl) ?_
          refine lv_iconst (v := 2) S.1 S.2.1 d_Mo_put_45 (by decide) ?_
          refine lv_icmp_ne (tgt := 71) S.1 S.2.1 d_Mo_put_46 rfl (fun h46 => ?_) (fun h46 => ?_)
          · have hfull : mp = 2 → cn q.2.2.1 16 < 12 := fun c => by
              exact absurd (show nI mp = 2 by rw [c]; rfl) h46
            refine lv_aload_n S.1 S.2.1 d_Mo_put_71 rfl (lv_at hl 1 rfl) ?_
            refine lv_dup S.1 S.2.1 d_Mo_put_72 rfl ?_
            refine gf_Mo_93_Mo S K P M.1 rfl d_Mo_put_73 ?_
            refine lv_iload_n S.1 S.2.1 d_Mo_put_76 rfl (lv_at hl 2 rfl) ?_
            refine lv_iconst (v := 1) S.1 S.2.1 d_Mo_put_77 (by decide) ?_
            refine lv_icmp_ne (tgt := 85) S.1 S.2.1 d_Mo_put_78 rfl (fun h78 => ?_) (fun h78 => ?_)
            · refine lv_iconst (v := 0) S.1 S.2.1 d_Mo_put_85 (by decide) ?_
              refine lv_iadd S.1 S.2.1 d_Mo_put_86 ?_
              refine mo_pz_93 S K P hS M F d_Mo_put_87 (fun σ H locs P hS M F => ?_)
              have h1 : refR _ o q (tk_M n mp) k := (h0.s0 0).tk (mp := mp) (x := (sz R 0 0).1 14 + 0) (by rw [if_neg (fun z => h78 (by rw [z]; rfl))])
              have h1z : (sz (sz R 0 0) 14 ((sz R 0 0).1 14 + 0)).1 0 = 0 := rfl
              generalize sz (sz R 0 0) 14 ((sz R 0 0).1 14 + 0) = Rt at M h1 h1z
              refine lv_iload S.1 S.2.1 d_Mo_put_90 (lv_at hl 0 rfl) ?_
              refine lv_if_ge (tgt := 104) S.1 S.2.1 d_Mo_put_92 rfl (fun h92 => ?_) (fun h92 => ?_)
              · exact absurd h92 (by decide)
              · refine lv_aload_n S.1 S.2.1 d_Mo_put_95 rfl (lv_at hl 1 rfl) ?_
                refine lv_iload_n S.1 S.2.1 d_Mo_put_96 rfl (lv_at hl 2 rfl) ?_
                refine lv_iload_n S.1 S.2.1 d_Mo_put_97 rfl (lv_at hl 3 rfl) ?_
                refine lv_iload_n S.1 S.2.1 d_Mo_put_98 rfl (lv_at hl 4 rfl) ?_
                refine mo_after F (cv_Mo_123_Mo S hB K E P hS M.1 (c_Mo_comesM l hB M h1 hok hm hkey hal (fun c => by subst c; have := hfull rfl; omega) (fun c => ⟨h38 c, hpn c⟩) (fun c => hlen.1 (fun j e h => hno ⟨j, e, by subst c; exact h⟩)) (fun c => hlen.2.1 (fun j e h => hno ⟨j, e, by subst c; exact h⟩)) (fun c => hlen.2.2) (by unfold tk_M; split <;> exact hbk)) rfl (by decide) (Nat.le_refl _) (Nat.le_refl _) hl.1 rfl (Nat.le_of_ble_eq_true rfl) d_Mo_put_99) hS (fun v R1 σ H locs hp P hS M F => ?_)
                obtain ⟨rfl, hrf, hz0⟩ := hp
                refine lv_iconst (v := (-1)) S.1 S.2.1 d_Mo_put_102 (by decide) ?_
                refine so_iret S hr hlk P hS (Nat.le_refl _) (Nat.le_refl _) ⟨_, ?_, M, F⟩ d_Mo_put_103
                obtain ⟨q1, n1, hq1, hq2⟩ := hrf
                exact Or.inr (Or.inr (Or.inl ⟨mp, key, val, q1, n1, hm, hkey, hval, rfl, rfl, rfl, hal, hvl, hpo, fun j e h => hno ⟨j, e, h⟩, hfull, hq1, rfl, by rw [hz0]; exact h1z, hq2⟩))
            · refine lv_iconst (v := 1) S.1 S.2.1 d_Mo_put_81 (by decide) ?_
              refine lv_goto (tgt := 86) S.1 S.2.1 d_Mo_put_82 rfl ?_
              refine lv_iadd S.1 S.2.1 d_Mo_put_86 ?_
              refine mo_pz_93 S K P hS M F d_Mo_put_87 (fun σ H locs P hS M F => ?_)
              have h1 : refR _ o q (tk_M n mp) k := (h0.s0 0).tk (mp := mp) (x := (sz R 0 0).1 14 + 1) (by rw [if_pos ((nI_eq (b := 1) (by omega) (by decide)).mp h78)])
              have h1z : (sz (sz R 0 0) 14 ((sz R 0 0).1 14 + 1)).1 0 = 0 := rfl
              generalize sz (sz R 0 0) 14 ((sz R 0 0).1 14 + 1) = Rt at M h1 h1z
              refine lv_iload S.1 S.2.1 d_Mo_put_90 (lv_at hl 0 rfl) ?_
              refine lv_if_ge (tgt := 104) S.1 S.2.1 d_Mo_put_92 rfl (fun h92 => ?_) (fun h92 => ?_)
              · exact absurd h92 (by decide)
              · refine lv_aload_n S.1 S.2.1 d_Mo_put_95 rfl (lv_at hl 1 rfl) ?_
                refine lv_iload_n S.1 S.2.1 d_Mo_put_96 rfl (lv_at hl 2 rfl) ?_
                refine lv_iload_n S.1 S.2.1 d_Mo_put_97 rfl (lv_at hl 3 rfl) ?_
                refine lv_iload_n S.1 S.2.1 d_Mo_put_98 rfl (lv_at hl 4 rfl) ?_
                refine mo_after F (cv_Mo_123_Mo S hB K E P hS M.1 (c_Mo_comesM l hB M h1 hok hm hkey hal (fun c => by subst c; have := hfull rfl; omega) (fun c => ⟨h38 c, hpn c⟩) (fun c => hlen.1 (fun j e h => hno ⟨j, e, by subst c; exact h⟩)) (fun c => hlen.2.1 (fun j e h => hno ⟨j, e, by subst c; exact h⟩)) (fun c => hlen.2.2) (by unfold tk_M; split <;> exact hbk)) rfl (by decide) (Nat.le_refl _) (Nat.le_refl _) hl.1 rfl (Nat.le_of_ble_eq_true rfl) d_Mo_put_99) hS (fun v R1 σ H locs hp P hS M F => ?_)
                obtain ⟨rfl, hrf, hz0⟩ := hp
                refine lv_iconst (v := (-1)) S.1 S.2.1 d_Mo_put_102 (by decide) ?_
                refine so_iret S hr hlk P hS (Nat.le_refl _) (Nat.le_refl _) ⟨_, ?_, M, F⟩ d_Mo_put_103
                obtain ⟨q1, n1, hq1, hq2⟩ := hrf
                exact Or.inr (Or.inr (Or.inl ⟨mp, key, val, q1, n1, hm, hkey, hval, rfl, rfl, rfl, hal, hvl, hpo, fun j e h => hno ⟨j, e, h⟩, hfull, hq1, rfl, by rw [hz0]; exact h1z, hq2⟩))
          · have c2 : mp = 2 := (nI_eq (b := 2) (by omega) (by decide)).mp h46
            refine lv_iload S.1 S.2.1 d_Mo_put_49 (lv_at hl 0 rfl) ?_
            refine lv_if_ge (tgt := 71) S.1 S.2.1 d_Mo_put_51 rfl (fun h51 => ?_) (fun h51 => ?_)
            · have hfull : mp = 2 → cn q.2.2.1 16 < 12 := fun c => by
                exact absurd h51 (by decide)
              refine lv_aload_n S.1 S.2.1 d_Mo_put_71 rfl (lv_at hl 1 rfl) ?_
              refine lv_dup S.1 S.2.1 d_Mo_put_72 rfl ?_
              refine gf_Mo_93_Mo S K P M.1 rfl d_Mo_put_73 ?_
              refine lv_iload_n S.1 S.2.1 d_Mo_put_76 rfl (lv_at hl 2 rfl) ?_
              refine lv_iconst (v := 1) S.1 S.2.1 d_Mo_put_77 (by decide) ?_
              refine lv_icmp_ne (tgt := 85) S.1 S.2.1 d_Mo_put_78 rfl (fun h78 => ?_) (fun h78 => ?_)
              · refine lv_iconst (v := 0) S.1 S.2.1 d_Mo_put_85 (by decide) ?_
                refine lv_iadd S.1 S.2.1 d_Mo_put_86 ?_
                refine mo_pz_93 S K P hS M F d_Mo_put_87 (fun σ H locs P hS M F => ?_)
                have h1 : refR _ o q (tk_M n mp) k := (h0.s0 0).tk (mp := mp) (x := (sz R 0 0).1 14 + 0) (by rw [if_neg (fun z => h78 (by rw [z]; rfl))])
                have h1z : (sz (sz R 0 0) 14 ((sz R 0 0).1 14 + 0)).1 0 = 0 := rfl
                generalize sz (sz R 0 0) 14 ((sz R 0 0).1 14 + 0) = Rt at M h1 h1z
                refine lv_iload S.1 S.2.1 d_Mo_put_90 (lv_at hl 0 rfl) ?_
                refine lv_if_ge (tgt := 104) S.1 S.2.1 d_Mo_put_92 rfl (fun h92 => ?_) (fun h92 => ?_)
                · exact absurd h92 (by decide)
                · refine lv_aload_n S.1 S.2.1 d_Mo_put_95 rfl (lv_at hl 1 rfl) ?_
                  refine lv_iload_n S.1 S.2.1 d_Mo_put_96 rfl (lv_at hl 2 rfl) ?_
                  refine lv_iload_n S.1 S.2.1 d_Mo_put_97 rfl (lv_at hl 3 rfl) ?_
                  refine lv_iload_n S.1 S.2.1 d_Mo_put_98 rfl (lv_at hl 4 rfl) ?_
                  refine mo_after F (cv_Mo_123_Mo S hB K E P hS M.1 (c_Mo_comesM l hB M h1 hok hm hkey hal (fun c => by subst c; have := hfull rfl; omega) (fun c => ⟨h38 c, hpn c⟩) (fun c => hlen.1 (fun j e h => hno ⟨j, e, by subst c; exact h⟩)) (fun c => hlen.2.1 (fun j e h => hno ⟨j, e, by subst c; exact h⟩)) (fun c => hlen.2.2) (by unfold tk_M; split <;> exact hbk)) rfl (by decide) (Nat.le_refl _) (Nat.le_refl _) hl.1 rfl (Nat.le_of_ble_eq_true rfl) d_Mo_put_99) hS (fun v R1 σ H locs hp P hS M F => ?_)
                  obtain ⟨rfl, hrf, hz0⟩ := hp
                  refine lv_iconst (v := (-1)) S.1 S.2.1 d_Mo_put_102 (by decide) ?_
                  refine so_iret S hr hlk P hS (Nat.le_refl _) (Nat.le_refl _) ⟨_, ?_, M, F⟩ d_Mo_put_103
                  obtain ⟨q1, n1, hq1, hq2⟩ := hrf
                  exact Or.inr (Or.inr (Or.inl ⟨mp, key, val, q1, n1, hm, hkey, hval, rfl, rfl, rfl, hal, hvl, hpo, fun j e h => hno ⟨j, e, h⟩, hfull, hq1, rfl, by rw [hz0]; exact h1z, hq2⟩))
              · refine lv_iconst (v := 1) S.1 S.2.1 d_Mo_put_81 (by decide) ?_
                refine lv_goto (tgt := 86) S.1 S.2.1 d_Mo_put_82 rfl ?_
                refine lv_iadd S.1 S.2.1 d_Mo_put_86 ?_
                refine mo_pz_93 S K P hS M F d_Mo_put_87 (fun σ H locs P hS M F => ?_)
                have h1 : refR _ o q (tk_M n mp) k := (h0.s0 0).tk (mp := mp) (x := (sz R 0 0).1 14 + 1) (by rw [if_pos ((nI_eq (b := 1) (by omega) (by decide)).mp h78)])
                have h1z : (sz (sz R 0 0) 14 ((sz R 0 0).1 14 + 1)).1 0 = 0 := rfl
                generalize sz (sz R 0 0) 14 ((sz R 0 0).1 14 + 1) = Rt at M h1 h1z
                refine lv_iload S.1 S.2.1 d_Mo_put_90 (lv_at hl 0 rfl) ?_
                refine lv_if_ge (tgt := 104) S.1 S.2.1 d_Mo_put_92 rfl (fun h92 => ?_) (fun h92 => ?_)
                · exact absurd h92 (by decide)
                · refine lv_aload_n S.1 S.2.1 d_Mo_put_95 rfl (lv_at hl 1 rfl) ?_
                  refine lv_iload_n S.1 S.2.1 d_Mo_put_96 rfl (lv_at hl 2 rfl) ?_
                  refine lv_iload_n S.1 S.2.1 d_Mo_put_97 rfl (lv_at hl 3 rfl) ?_
                  refine lv_iload_n S.1 S.2.1 d_Mo_put_98 rfl (lv_at hl 4 rfl) ?_
                  refine mo_after F (cv_Mo_123_Mo S hB K E P hS M.1 (c_Mo_comesM l hB M h1 hok hm hkey hal (fun c => by subst c; have := hfull rfl; omega) (fun c => ⟨h38 c, hpn c⟩) (fun c => hlen.1 (fun j e h => hno ⟨j, e, by subst c; exact h⟩)) (fun c => hlen.2.1 (fun j e h => hno ⟨j, e, by subst c; exact h⟩)) (fun c => hlen.2.2) (by unfold tk_M; split <;> exact hbk)) rfl (by decide) (Nat.le_refl _) (Nat.le_refl _) hl.1 rfl (Nat.le_of_ble_eq_true rfl) d_Mo_put_99) hS (fun v R1 σ H locs hp P hS M F => ?_)
                  obtain ⟨rfl, hrf, hz0⟩ := hp
                  refine lv_iconst (v := (-1)) S.1 S.2.1 d_Mo_put_102 (by decide) ?_
                  refine so_iret S hr hlk P hS (Nat.le_refl _) (Nat.le_refl _) ⟨_, ?_, M, F⟩ d_Mo_put_103
                  obtain ⟨q1, n1, hq1, hq2⟩ := hrf
                  exact Or.inr (Or.inr (Or.inl ⟨mp, key, val, q1, n1, hm, hkey, hval, rfl, rfl, rfl, hal, hvl, hpo, fun j e h => hno ⟨j, e, h⟩, hfull, hq1, rfl, by rw [hz0]; exact h1z, hq2⟩))
            · refine lv_aload_n S.1 S.2.1 d_Mo_put_54 rfl (lv_at hl 1 rfl) ?_
              refine gf_Mo_38_Mo S K P M.1 rfl d_Mo_put_55 ?_
              refine lv_iconst (v := 2) S.1 S.2.1 d_Mo_put_58 (by decide) ?_
              refine mo_iald S K P M 11 rfl 2 rfl (by show _ < 5; omega) d_Mo_put_59 ?_
              refine lv_bipush (v := 12) S.1 S.2.1 d_Mo_put_60 (by decide) ?_
              refine lv_icmp_ne (tgt := 71) S.1 S.2.1 d_Mo_put_62 rfl (fun h62 => ?_) (fun h62 => ?_)
              · have hfull : mp = 2 → cn q.2.2.1 16 < 12 := fun c => by
                  have h9 : cn q.2.2.1 16 ≠ 12 := fun z => h62 (by
                    show R.2.1 11 2 = 12
                    rw [h0.2.1.2.2.1.2, z]
                    rfl)
                  omega
                refine lv_aload_n S.1 S.2.1 d_Mo_put_71 rfl (lv_at hl 1 rfl) ?_
                refine lv_dup S.1 S.2.1 d_Mo_put_72 rfl ?_
                refine gf_Mo_93_Mo S K P M.1 rfl d_Mo_put_73 ?_
                refine lv_iload_n S.1 S.2.1 d_Mo_put_76 rfl (lv_at hl 2 rfl) ?_
                refine lv_iconst (v := 1) S.1 S.2.1 d_Mo_put_77 (by decide) ?_
                refine lv_icmp_ne (tgt := 85) S.1 S.2.1 d_Mo_put_78 rfl (fun h78 => ?_) (fun h78 => ?_)
                · refine lv_iconst (v := 0) S.1 S.2.1 d_Mo_put_85 (by decide) ?_
                  refine lv_iadd S.1 S.2.1 d_Mo_put_86 ?_
                  refine mo_pz_93 S K P hS M F d_Mo_put_87 (fun σ H locs P hS M F => ?_)
                  have h1 : refR _ o q (tk_M n mp) k := (h0.s0 0).tk (mp := mp) (x := (sz R 0 0).1 14 + 0) (by rw [if_neg (fun z => h78 (by rw [z]; rfl))])
                  have h1z : (sz (sz R 0 0) 14 ((sz R 0 0).1 14 + 0)).1 0 = 0 := rfl
                  generalize sz (sz R 0 0) 14 ((sz R 0 0).1 14 + 0) = Rt at M h1 h1z
                  refine lv_iload S.1 S.2.1 d_Mo_put_90 (lv_at hl 0 rfl) ?_
                  refine lv_if_ge (tgt := 104) S.1 S.2.1 d_Mo_put_92 rfl (fun h92 => ?_) (fun h92 => ?_)
                  · exact absurd h92 (by decide)
                  · refine lv_aload_n S.1 S.2.1 d_Mo_put_95 rfl (lv_at hl 1 rfl) ?_
                    refine lv_iload_n S.1 S.2.1 d_Mo_put_96 rfl (lv_at hl 2 rfl) ?_
                    refine lv_iload_n S.1 S.2.1 d_Mo_put_97 rfl (lv_at hl 3 rfl) ?_
                    refine lv_iload_n S.1 S.2.1 d_Mo_put_98 rfl (lv_at hl 4 rfl) ?_
                    refine mo_after F (cv_Mo_123_Mo S hB K E P hS M.1 (c_Mo_comesM l hB M h1 hok hm hkey hal (fun c => by subst c; have := hfull rfl; omega) (fun c => ⟨h38 c, hpn c⟩) (fun c => hlen.1 (fun j e h => hno ⟨j, e, by subst c; exact h⟩)) (fun c => hlen.2.1 (fun j e h => hno ⟨j, e, by subst c; exact h⟩)) (fun c => hlen.2.2) (by unfold tk_M; split <;> exact hbk)) rfl (by decide) (Nat.le_refl _) (Nat.le_refl _) hl.1 rfl (Nat.le_of_ble_eq_true rfl) d_Mo_put_99) hS (fun v R1 σ H locs hp P hS M F => ?_)
                    obtain ⟨rfl, hrf, hz0⟩ := hp
                    refine lv_iconst (v := (-1)) S.1 S.2.1 d_Mo_put_102 (by decide) ?_
                    refine so_iret S hr hlk P hS (Nat.le_refl _) (Nat.le_refl _) ⟨_, ?_, M, F⟩ d_Mo_put_103
                    obtain ⟨q1, n1, hq1, hq2⟩ := hrf
                    exact Or.inr (Or.inr (Or.inl ⟨mp, key, val, q1, n1, hm, hkey, hval, rfl, rfl, rfl, hal, hvl, hpo, fun j e h => hno ⟨j, e, h⟩, hfull, hq1, rfl, by rw [hz0]; exact h1z, hq2⟩))
                · refine lv_iconst (v := 1) S.1 S.2.1 d_Mo_put_81 (by decide) ?_
                  refine lv_goto (tgt := 86) S.1 S.2.1 d_Mo_put_82 rfl ?_
                  refine lv_iadd S.1 S.2.1 d_Mo_put_86 ?_
                  refine mo_pz_93 S K P hS M F d_Mo_put_87 (fun σ H locs P hS M F => ?_)
                  have h1 : refR _ o q (tk_M n mp) k := (h0.s0 0).tk (mp := mp) (x := (sz R 0 0).1 14 + 1) (by rw [if_pos ((nI_eq (b := 1) (by omega) (by decide)).mp h78)])
                  have h1z : (sz (sz R 0 0) 14 ((sz R 0 0).1 14 + 1)).1 0 = 0 := rfl
                  generalize sz (sz R 0 0) 14 ((sz R 0 0).1 14 + 1) = Rt at M h1 h1z
                  refine lv_iload S.1 S.2.1 d_Mo_put_90 (lv_at hl 0 rfl) ?_
                  refine lv_if_ge (tgt := 104) S.1 S.2.1 d_Mo_put_92 rfl (fun h92 => ?_) (fun h92 => ?_)
                  · exact absurd h92 (by decide)
                  · refine lv_aload_n S.1 S.2.1 d_Mo_put_95 rfl (lv_at hl 1 rfl) ?_
                    refine lv_iload_n S.1 S.2.1 d_Mo_put_96 rfl (lv_at hl 2 rfl) ?_
                    refine lv_iload_n S.1 S.2.1 d_Mo_put_97 rfl (lv_at hl 3 rfl) ?_
                    refine lv_iload_n S.1 S.2.1 d_Mo_put_98 rfl (lv_at hl 4 rfl) ?_
                    refine mo_after F (cv_Mo_123_Mo S hB K E P hS M.1 (c_Mo_comesM l hB M h1 hok hm hkey hal (fun c => by subst c; have := hfull rfl; omega) (fun c => ⟨h38 c, hpn c⟩) (fun c => hlen.1 (fun j e h => hno ⟨j, e, by subst c; exact h⟩)) (fun c => hlen.2.1 (fun j e h => hno ⟨j, e, by subst c; exact h⟩)) (fun c => hlen.2.2) (by unfold tk_M; split <;> exact hbk)) rfl (by decide) (Nat.le_refl _) (Nat.le_refl _) hl.1 rfl (Nat.le_of_ble_eq_true rfl) d_Mo_put_99) hS (fun v R1 σ H locs hp P hS M F => ?_)
                    obtain ⟨rfl, hrf, hz0⟩ := hp
                    refine lv_iconst (v := (-1)) S.1 S.2.1 d_Mo_put_102 (by decide) ?_
                    refine so_iret S hr hlk P hS (Nat.le_refl _) (Nat.le_refl _) ⟨_, ?_, M, F⟩ d_Mo_put_103
                    obtain ⟨q1, n1, hq1, hq2⟩ := hrf
                    exact Or.inr (Or.inr (Or.inl ⟨mp, key, val, q1, n1, hm, hkey, hval, rfl, rfl, rfl, hal, hvl, hpo, fun j e h => hno ⟨j, e, h⟩, hfull, hq1, rfl, by rw [hz0]; exact h1z, hq2⟩))
              · refine lv_aload_n S.1 S.2.1 d_Mo_put_65 rfl (lv_at hl 1 rfl) ?_
                refine lv_iconst (v := 2) S.1 S.2.1 d_Mo_put_66 (by decide) ?_
                refine mo_after F (cv_Mo_60_Mo S hB K E P hS M.1 (c_Mo_refuse l hB M 2) rfl (by decide) (Nat.le_refl _) (Nat.le_refl _) hl.1 rfl (Nat.le_of_ble_eq_true rfl) d_Mo_put_67) hS (fun v R1 σ H locs hp P hS M F => ?_)
                obtain ⟨rfl, rfl⟩ := hp
                refine so_iret S hr hlk P hS (Nat.le_refl _) (Nat.le_refl _) ⟨_, ?_, M, F⟩ d_Mo_put_70
                subst c2
                refine Or.inr (Or.inl ⟨key, hkey, rfl, rfl, hal, hpo, fun j e h => hno ⟨j, e, h⟩, ?_, rfl, rfl, ⟨h0.1, h0.2.1, h0.2.2.1, h0.2.2.2⟩⟩)
                have h9 : nI (cn q.2.2.1 16) = 12 := by rw [← h0.2.1.2.2.1.2]; exact h62
                exact (nI_eq (b := 12) (by omega) (by decide)).mp h9
      · refine lv_aload_n S.1 S.2.1 d_Mo_put_30 rfl (lv_at hl 0 rfl) ?_
        refine lv_iconst (v := 1) S.1 S.2.1 d_Mo_put_31 (by decide) ?_
        refine mo_after F (cv_Mo_60_Mo S hB K E P hS M.1 (c_Mo_refuse l hB M 1) rfl (by decide) (Nat.le_refl _) (Nat.le_refl _) hl.1 rfl (Nat.le_of_ble_eq_true rfl) d_Mo_put_32) hS (fun v R1 σ H locs hp P hS M F => ?_)
        obtain ⟨rfl, rfl⟩ := hp
        refine so_iret S hr hlk P hS (Nat.le_refl _) (Nat.le_refl _) ⟨_, ?_, M, F⟩ d_Mo_put_35
        refine Or.inl ⟨?_, rfl, rfl, ⟨h0.1, h0.2.1, h0.2.2.1, h0.2.2.2⟩⟩
        have e9 : al_O o vx = false := by rw [← is_al2 h0.1 vx]; exact (bI_0 _).mp h27
        unfold po_O
        rw [e9, Bool.and_false]

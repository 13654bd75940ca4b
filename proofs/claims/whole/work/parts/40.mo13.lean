/-! The reference's marks: what is held, and all that it reaches. -/
def hR (R : Rf) (S : Nat → Bool) : Rf := (R.1, R.2.1, va_up R.2.2 6 S)
def sH (S : Nat → Bool) (t : Option Nat) : Nat → Bool := match t with
  | none => S
  | some j => va_up S j true
theorem hR_id (R : Rf) : hR R (R.2.2 6) = R := by
  obtain ⟨z, A, B⟩ := R
  unfold hR
  simp only [up_id]
theorem hR_hR (R : Rf) (S T : Nat → Bool) : hR (hR R S) T = hR R T := by
  unfold hR
  simp only [bx_uu]
theorem hR_6 (R : Rf) (S : Nat → Bool) : (hR R S).2.2 6 = S := by
  unfold hR
  simp only [va_up_self]
theorem hR_sbb (R : Rf) (S : Nat → Bool) (j : Nat) : sbb (hR R S) 6 j true = hR R (va_up S j true) := by
  unfold sbb hR
  simp only [bx_uu, va_up_self]
theorem c_Mo_holdR (l : Launch) {s0 : State} {D : va_G} {ca : Nat → ClassId} (hB : so_B tbl s0 D vcl (tyl ca)) {σ : so_S} {mo : Nat} {ar : Nat → Nat} {R : Rf} {S : Nat → Bool} (M : MoR ca σ mo ar (hR R S)) (t : Option Nat) (ht : ∀ j, t = some j → j < 32) (x : Int32) (hx : x = rI t) :
    mo_C l s0 D ca mo ar σ y_Mo_hold b_Mo_hold 2 none 0 [.int x] (fun v R1 => v = none ∧ R1 = hR R (sH S t)) := by
  subst hx
  cases t with
  | none =>
    refine (c_Mo_hold l hB M (-1) (Or.inl (by decide))).mono (fun v R1 hp => ?_)
    obtain ⟨rfl, h | ⟨j, hj, h1, -⟩⟩ := hp
    · exact ⟨rfl, h.2⟩
    · exact absurd (show (-1 : Int32) < 0 by decide) (by rw [h1]; exact nI_pos (by omega))
  | some j =>
    have hj := ht j rfl
    refine (c_Mo_hold l hB M (nI j) (Or.inr ⟨j, hj, rfl⟩)).mono (fun v R1 hp => ?_)
    obtain ⟨rfl, h | ⟨i, hi, h1, h2⟩⟩ := hp
    · exact absurd h.1 (nI_pos (by omega))
    · have hij : j = i := (nI_eq (by omega) (by omega)).mp h1
      subst hij
      exact ⟨rfl, h2.trans (hR_sbb R S j)⟩
def clP (rf : Nat → Nat → Option Nat) (T : Nat → Prop) : Prop := ∀ i, i < 32 → T i → ∀ w, w < 2 → ∀ j, rf i w = some j → T j
/-- S1 is all that S reaches -/
def isCl (rf : Nat → Nat → Option Nat) (S S1 : Nat → Bool) : Prop := (∀ i, i < 32 → S i = true → S1 i = true) ∧ clP rf (fun i => S1 i = true) ∧ ∀ T : Nat → Prop, clP rf T → (∀ i, i < 32 → S i = true → T i) → ∀ i, i < 32 → S1 i = true → T i
def okO (o : Obs) : Prop := ∀ i, i < 32 → o.1 i = true → ∀ w, w < 2 → ∀ j, o.2.2.2 i w = some j → j < 32 ∧ o.1 j = true
theorem sH_le {S : Nat → Bool} {t : Option Nat} {i : Nat} (h : S i = true) : sH S t i = true := by
  cases t with
  | none => exact h
  | some j =>
    show va_up S j true i = true
    unfold va_up
    split
    · rfl
    · exact h
theorem sH_in {S : Nat → Bool} {j : Nat} : sH S (some j) j = true := va_up_self _ _ _
theorem sH_or {S : Nat → Bool} {t : Option Nat} {i : Nat} (h : sH S t i = true) : S i = true ∨ t = some i := by
  cases t with
  | none => exact Or.inl h
  | some j =>
    have h : va_up S j true i = true := h
    unfold va_up at h
    split at h
    · rename_i e; exact Or.inr (by rw [e])
    · exact Or.inl h
theorem cb_mono {S T : Nat → Bool} : ∀ {n : Nat}, (∀ i, i < n → S i = true → T i = true) → cb S n ≤ cb T n
  | 0, _ => Nat.le_refl _
  | n + 1, h => by
    have h1 := cb_mono (n := n) (fun i hi => h i (by omega))
    unfold cb
    by_cases c : S n = true
    · rw [if_pos c, if_pos (h n (by omega) c)]; omega
    · rw [if_neg c]; omega
theorem cb_lt {S T : Nat → Bool} : ∀ {n i0 : Nat}, (∀ i, i < n → S i = true → T i = true) → i0 < n → T i0 = true → ¬ S i0 = true → cb S n < cb T n
  | 0, _, _, h, _, _ => absurd h (Nat.not_lt_zero _)
  | n + 1, i0, h, h1, h2, h3 => by
    unfold cb
    by_cases e : i0 = n
    · subst e
      have := cb_mono (n := i0) (fun i hi => h i (by omega))
      rw [if_neg h3, if_pos h2]
      omega
    · have h4 := cb_lt (n := n) (i0 := i0) (fun i hi => h i (by omega)) (by omega) h2 h3
      by_cases c : S n = true
      · rw [if_pos c, if_pos (h n (by omega) c)]; omega
      · rw [if_neg c]; omega
theorem cb_all {S : Nat → Bool} : ∀ {n : Nat}, n ≤ cb S n → ∀ i, i < n → S i = true
  | 0, _, i, h => absurd h (Nat.not_lt_zero _)
  | n + 1, h, i, hi => by
    have h1 := cb_le S n
    unfold cb at h
    by_cases c : S n = true
    · rw [if_pos c] at h
      by_cases e : i = n
      · rw [e]; exact c
      · exact cb_all (n := n) (by omega) i (by omega)
    · rw [if_neg c] at h; omega
set_option maxHeartbeats 400000 in
set_option maxRecDepth 100000 in
theorem c_Mo_spread (l : Launch) {s0 : State} {D : va_G} {ca : Nat → ClassId} (hB : so_B tbl s0 D vcl (tyl ca)) {σ : so_S} {mo : Nat} {ar : Nat → Nat} {R : Rf} (M : MoR ca σ mo ar R) {o : Obs} {q : Mps} {n : Nms} {k : Wks} (h0 : refR R o q n k) (hokO : okO o) (hal : ∀ i, i < 32 → R.2.2 6 i = true → o.1 i = true) : mo_C l s0 D ca mo ar σ y_Mo_spread b_Mo_spread 3 none 1 [] (fun v R1 => v = none ∧ ∃ S1, R1 = hR R S1 ∧ isCl o.2.2.2 (R.2.2 6) S1) := by
  refine so_of hB (by decide) (Nat.le_of_ble_eq_true rfl) ?_
  intro p e s m below meth c ls S K E hr hlk hnm P hS hl
  have hl : lv_has ls 3 [(0, .ref mo)] := hl
  have F : fM σ σ := fM.rf
  obtain ⟨σ0, hσ0⟩ : ∃ q, q = σ := ⟨σ, rfl⟩
  rw [← hσ0]
  replace F : fM σ0 σ := by rw [hσ0]; exact fM.rf
  refine lv_iconst (v := 0) S.1 S.2.1 d_Mo_spread_0 (by decide) ?_
  refine lv_istore_n S.1 S.2.1 d_Mo_spread_1 rfl hl (by decide) rfl (fun ls hl => ?_)
  have hS0 : hR R (R.2.2 6) = R := hR_id R
  refine so_lp (Wf := fun ls H locs σ1 (_ : Nat × (Nat → Bool)) => W p l e _ s m _ below meth c H locs _ _ _ (F0 m 2 ls [])) (fun n1 ls H locs σ1 a => n1 = 32 - a.1 ∧ a.1 ≤ 32 ∧ (∀ i, i < 32 → R.2.2 6 i = true → a.2 i = true) ∧ (∀ i, i < 32 → a.2 i = true → o.1 i = true) ∧ (∀ T : Nat → Prop, clP o.2.2.2 T → (∀ i, i < 32 → R.2.2 6 i = true → T i) → ∀ i, i < 32 → a.2 i = true → T i) ∧ (clP o.2.2.2 (fun i => a.2 i = true) ∨ a.1 ≤ cb a.2 32) ∧ mo_I ca D s0 s mo ar σ0 ls 3 [(1, .int (nI a.1)), (0, .ref mo)] H locs σ1 (hR R a.2)) ?_ _ ls s.heap [] σ (0, R.2.2 6) ⟨rfl, Nat.zero_le _, fun _ _ h => h, hal, fun T _ h => h, Or.inr (Nat.zero_le _), hl, P, hS, by rw [hS0]; exact M, F⟩
  clear hl P hS M F
  rintro n1 ls H locs σ ⟨nn, S1⟩ ⟨hn1, hnn, hle1, hal1, hsnd1, hcl1, hl, P, hS, M, F⟩ ih
  simp only at hn1 hnn hle1 hal1 hsnd1 hcl1 hl M ih
  refine lv_iload_n S.1 S.2.1 d_Mo_spread_2 rfl (lv_at hl 0 rfl) ?_
  refine lv_bipush (v := 32) S.1 S.2.1 d_Mo_spread_3 (by decide) ?_
  refine lv_icmp_ge (tgt := 57) S.1 S.2.1 d_Mo_spread_5 rfl (fun h5 => ?_) (fun h5 => ?_)
  · refine so_vret S hr hlk P hS (Nat.le_refl _) (Nat.le_refl _) ⟨_, ?_, M, F⟩ d_Mo_spread_57
    have hnn2 : 32 ≤ nn := (nI_leI (a := 32) (by decide) (by omega)).mp h5
    refine ⟨rfl, S1, rfl, hle1, ?_, hsnd1⟩
    rcases hcl1 with hc | hc
    · exact hc
    · intro i hi h w hw j hj
      exact cb_all (Nat.le_trans hnn2 hc) j (hokO i hi (hal1 i hi h) w hw j hj).1
  · refine lv_iconst (v := 0) S.1 S.2.1 d_Mo_spread_8 (by decide) ?_
    refine lv_istore_n S.1 S.2.1 d_Mo_spread_9 rfl hl (by decide) rfl (fun ls hl => ?_)
    refine so_lp (Wf := fun ls H locs σ1 (_ : Nat × (Nat → Bool)) => W p l e _ s m _ below meth c H locs _ _ _ (F0 m 10 ls [])) (fun n1 ls H locs σ1 a => n1 = 32 - a.1 ∧ a.1 ≤ 32 ∧ (∀ i, i < 32 → S1 i = true → a.2 i = true) ∧ (∀ i, i < 32 → a.2 i = true → o.1 i = true) ∧ (∀ T : Nat → Prop, clP o.2.2.2 T → (∀ i, i < 32 → S1 i = true → T i) → ∀ i, i < 32 → a.2 i = true → T i) ∧ (∀ y, y < a.1 → S1 y = true → ∀ w, w < 2 → ∀ j, o.2.2.2 y w = some j → a.2 j = true) ∧ mo_I ca D s0 s mo ar σ0 ls 3 [(2, .int (nI a.1)), (1, .int (nI nn)), (0, .ref mo)] H locs σ1 (hR R a.2)) ?_ _ ls H locs σ (0, S1) ⟨rfl, Nat.zero_le _, fun _ _ h => h, hal1, fun T _ h => h, fun y hy => absurd hy (Nat.not_lt_zero _), hl, P, hS, M, F⟩
    clear hl P hS M F
    rintro n2 ls H locs σ ⟨x, S2⟩ ⟨hn2, hxx, hle2, hal2, hsnd2, hdo2, hl, P, hS, M, F⟩ ih2
    simp only at hn2 hxx hle2 hal2 hsnd2 hdo2 hl M ih2
    refine lv_iload_n S.1 S.2.1 d_Mo_spread_10 rfl (lv_at hl 0 rfl) ?_
    refine lv_bipush (v := 32) S.1 S.2.1 d_Mo_spread_11 (by decide) ?_
    refine lv_icmp_ge (tgt := 51) S.1 S.2.1 d_Mo_spread_13 rfl (fun h13 => ?_) (fun h13 => ?_)
    · refine lv_iinc (k := 1) S.1 S.2.1 d_Mo_spread_51 hl rfl rfl (by decide) rfl (fun ls hl => ?_)
      refine lv_goto (tgt := 2) S.1 S.2.1 d_Mo_spread_54 rfl ?_
      rw [nI_a] at hl
      have hx32 : x = 32 := by
        have := (nI_leI (a := 32) (by decide) (by omega)).mp h13
        omega
      subst hx32
      have hlt : nn < 32 := Nat.not_le.mp fun z => h5 (nI_le (a := 32) z (by omega))
      refine ih (32 - (nn + 1)) ls H locs σ (nn + 1, S2) (by omega) ⟨rfl, by show nn + 1 ≤ 32; omega, fun i hi h => hle2 i hi (hle1 i hi h), hal2, fun T hT h3 i hi h => hsnd2 T hT (fun i2 hi2 h2 => hsnd1 T hT h3 i2 hi2 h2) i hi h, ?_, lv_sub hl [0, 2] rfl, P, hS, M, F⟩
      by_cases c : ∃ i, i < 32 ∧ S2 i = true ∧ ¬ S1 i = true
      · obtain ⟨i, hi, c1, c2⟩ := c
        rcases hcl1 with hc | hc
        · exact absurd (hsnd2 _ hc (fun _ _ h => h) i hi c1) c2
        · have := cb_lt hle2 hi c1 c2
          exact Or.inr (by show nn + 1 ≤ cb S2 32; omega)
      · refine Or.inl (fun i hi h w hw j hj => ?_)
        have h1 : S1 i = true := by
          cases hs : S1 i with
          | true => rfl
          | false => exact absurd ⟨i, hi, h, by rw [hs]; exact Bool.false_ne_true⟩ c
        exact hdo2 i hi h1 w hw j hj
    · have hlt : x < 32 := Nat.not_le.mp fun z => h13 (nI_le (a := 32) z (by omega))
      refine lv_aload_n S.1 S.2.1 d_Mo_spread_16 rfl (lv_at hl 2 rfl) ?_
      refine gf_Mo_26_Mo S K P M.1 rfl d_Mo_spread_17 ?_
      refine lv_iload_n S.1 S.2.1 d_Mo_spread_20 rfl (lv_at hl 0 rfl) ?_
      refine mo_zald S K P M 6 rfl x rfl (by show x < 32; omega) d_Mo_spread_21 ?_
      refine lv_if_eq (tgt := 45) S.1 S.2.1 d_Mo_spread_22 rfl (fun h22 => ?_) (fun h22 => ?_)
      · refine lv_iinc (k := 0) S.1 S.2.1 d_Mo_spread_45 hl rfl rfl (by decide) rfl (fun ls hl => ?_)
        refine lv_goto (tgt := 10) S.1 S.2.1 d_Mo_spread_48 rfl ?_
        rw [nI_a] at hl
        refine ih2 (32 - (x + 1)) ls H locs σ (x + 1, S2) (by omega) ⟨rfl, by show x + 1 ≤ 32; omega, hle2, hal2, hsnd2, fun y hy h w hw j hj => ?_, hl, P, hS, M, F⟩
        rcases Nat.lt_succ_iff_lt_or_eq.mp hy with c | c
        · exact hdo2 y c h w hw j hj
        · subst c
          have h9 := hle2 y hlt h
          rw [show S2 y = false by rw [← hR_6 R S2]; exact (bI_0 _).mp h22] at h9
          cases h9
      · have hsx : S2 x = true := by rw [← hR_6 R S2]; exact bI_1 h22
        have hax := hal2 x hlt hsx
        have hr1 : (hR R S2).2.1 2 x = rI (o.2.2.2 x 0) := ((h0.1 x hlt).2 hax).2.2.1
        have hr2 : (hR R (sH S2 (o.2.2.2 x 0))).2.1 3 x = rI (o.2.2.2 x 1) := ((h0.1 x hlt).2 hax).2.2.2
        refine lv_aload_n S.1 S.2.1 d_Mo_spread_25 rfl (lv_at hl 2 rfl) ?_
        refine lv_aload_n S.1 S.2.1 d_Mo_spread_26 rfl (lv_at hl 2 rfl) ?_
        refine gf_Mo_13_Mo S K P M.1 rfl d_Mo_spread_27 ?_
        refine lv_iload_n S.1 S.2.1 d_Mo_spread_30 rfl (lv_at hl 0 rfl) ?_
        refine mo_iald S K P M 2 rfl x rfl (by show x < 32; omega) d_Mo_spread_31 ?_
        refine mo_after F (cv_Mo_135_Mo S hB K E P hS M.1 (c_Mo_holdR l hB M (o.2.2.2 x 0) (fun j hj => (hokO x hlt hax 0 (by decide) j hj).1) _ hr1) rfl (by decide) (Nat.le_refl _) (Nat.le_refl _) hl.1 rfl (Nat.le_of_ble_eq_true rfl) d_Mo_spread_32) hS (fun v R1 σ H locs hp P hS M F => ?_)
        obtain ⟨rfl, rfl⟩ := hp
        refine lv_aload_n S.1 S.2.1 d_Mo_spread_35 rfl (lv_at hl 2 rfl) ?_
        refine lv_aload_n S.1 S.2.1 d_Mo_spread_36 rfl (lv_at hl 2 rfl) ?_
        refine gf_Mo_16_Mo S K P M.1 rfl d_Mo_spread_37 ?_
        refine lv_iload_n S.1 S.2.1 d_Mo_spread_40 rfl (lv_at hl 0 rfl) ?_
        refine mo_iald S K P M 3 rfl x rfl (by show x < 32; omega) d_Mo_spread_41 ?_
        refine mo_after F (cv_Mo_135_Mo S hB K E P hS M.1 (c_Mo_holdR l hB M (o.2.2.2 x 1) (fun j hj => (hokO x hlt hax 1 (by decide) j hj).1) _ hr2) rfl (by decide) (Nat.le_refl _) (Nat.le_refl _) hl.1 rfl (Nat.le_of_ble_eq_true rfl) d_Mo_spread_42) hS (fun v R1 σ H locs hp P hS M F => ?_)
        obtain ⟨rfl, rfl⟩ := hp
        refine lv_iinc (k := 0) S.1 S.2.1 d_Mo_spread_45 hl rfl rfl (by decide) rfl (fun ls hl => ?_)
        refine lv_goto (tgt := 10) S.1 S.2.1 d_Mo_spread_48 rfl ?_
        rw [nI_a] at hl
        refine ih2 (32 - (x + 1)) ls H locs σ (x + 1, sH (sH S2 (o.2.2.2 x 0)) (o.2.2.2 x 1)) (by omega) ⟨rfl, by show x + 1 ≤ 32; omega, fun i hi h => sH_le (sH_le (hle2 i hi h)), fun i hi h => ?_, fun T hT h3 i hi h => ?_, fun y hy h w hw j hj => ?_, hl, P, hS, M, F⟩
        · rcases sH_or h with h | h
          · rcases sH_or h with h | h
            · exact hal2 i hi h
            · exact (hokO x hlt hax 0 (by decide) i h).2
          · exact (hokO x hlt hax 1 (by decide) i h).2
        · have hTx : T x := hsnd2 T hT h3 x hlt hsx
          rcases sH_or h with h | h
          · rcases sH_or h with h | h
            · exact hsnd2 T hT h3 i hi h
            · exact hT x hlt hTx 0 (by decide) i h
          · exact hT x hlt hTx 1 (by decide) i h
        · rcases Nat.lt_succ_iff_lt_or_eq.mp hy with c | c
          · exact sH_le (sH_le (hdo2 y c h w hw j hj))
          · subst c
            rcases (show w = 0 ∨ w = 1 by omega) with rfl | rfl
            · show sH (sH S2 (o.2.2.2 y 0)) (o.2.2.2 y 1) j = true
              rw [hj]
              exact sH_le sH_in
            · show sH (sH S2 (o.2.2.2 y 0)) (o.2.2.2 y 1) j = true
              rw [hj]
              exact sH_in

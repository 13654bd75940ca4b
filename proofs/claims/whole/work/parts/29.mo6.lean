/-! The reference's identity slots: sl s is what lies in slot s. -/
def slR (R : Rf) (s : Nat) (x : Option (Nat × Nat)) : Prop := match x with
  | none => R.2.1 8 (64 + s) < 0
  | some e => R.2.1 8 (64 + s) = nI e.1 ∧ R.2.1 9 (64 + s) = nI e.2 ∧ e.1 < 32
def idR (R : Rf) (sl : Nat → Option (Nat × Nat)) : Prop := ∀ s, s < 16 → slR R s (sl s)
theorem idR.occ {R : Rf} {sl : Nat → Option (Nat × Nat)} (h : idR R sl) {s : Nat} (hs : s < 16) (hk : ¬ R.2.1 8 (64 + s) < 0) : ∃ e, sl s = some e ∧ R.2.1 8 (64 + s) = nI e.1 ∧ R.2.1 9 (64 + s) = nI e.2 ∧ e.1 < 32 := by
  have h1 := h s hs
  cases hx : sl s with
  | none => rw [hx] at h1; exact absurd h1 hk
  | some e => rw [hx] at h1; exact ⟨e, rfl, h1⟩
theorem idR.free {R : Rf} {sl : Nat → Option (Nat × Nat)} (h : idR R sl) {s : Nat} (hs : s < 16) (hk : R.2.1 8 (64 + s) < 0) : sl s = none := by
  have h1 := h s hs
  cases hx : sl s with
  | none => rfl
  | some e =>
    rw [hx] at h1
    rw [h1.1] at hk
    exact absurd hk (nI_pos (by have := h1.2.2; omega))
/-- t is the first free slot from a on -/
def isPr (sl : Nat → Option (Nat × Nat)) (a t : Nat) : Prop := ∃ d, d < 16 ∧ t = (a + d) % 16 ∧ sl t = none ∧ ∀ d1, d1 < d → sl ((a + d1) % 16) ≠ none
theorem isPr.uni {sl : Nat → Option (Nat × Nat)} {a t u : Nat} (h : isPr sl a t) (h2 : isPr sl a u) : t = u := by
  obtain ⟨d, -, rfl, h3, h4⟩ := h
  obtain ⟨e, -, rfl, h5, h6⟩ := h2
  rcases Nat.lt_trichotomy d e with h | h | h
  · exact absurd h3 (h6 d h)
  · rw [h]
  · exact absurd h5 (h4 e h)
theorem rem16 {x : Nat} (h : x < 2 ^ 31) : nI x - nI x / 16 * 16 = nI (x % 16) := pk_rem (d := 16) h (by decide) (by decide)
theorem m16 (a i : Nat) : ((a + i) % 16 + 1) % 16 = (a + (i + 1)) % 16 := by omega
set_option maxHeartbeats 4000000 in
set_option maxRecDepth 100000 in
theorem c_Mo_putIdentity (l : Launch) {s0 : State} {D : va_G} {ca : Nat → ClassId} (hB : so_B tbl s0 D vcl (tyl ca)) {σ : so_S} {mo : Nat} {ar : Nat → Nat} {R : Rf} (M : MoR ca σ mo ar R) {sl : Nat → Option (Nat × Nat)} (key val : Nat) (hid : idR R sl) (hfree : ∃ d0, d0 < 16 ∧ sl ((7 * key % 16 + d0) % 16) = none) (hkey : key < 32) : mo_C l s0 D ca mo ar σ y_Mo_putIdentity b_Mo_putIdentity 4 none 1 [.int (nI key), .int (nI val)] (fun v R1 => v = none ∧ ∃ t, t < 16 ∧ isPr sl (7 * key % 16) t ∧ R1 = sa (sa (sa R 8 (64 + t) (nI key)) 9 (64 + t) (nI val)) 11 2 (R.2.1 11 2 + 1)) := by
  refine so_of hB (by decide) (Nat.le_of_ble_eq_true rfl) ?_
  intro p e s m below meth c ls S K E hr hlk hnm P hS hl
  have hl : lv_has ls 4 [(0, .ref mo), (1, .int (nI key)), (2, .int (nI val))] := hl
  have F : fM σ σ := fM.rf
  refine lv_iload_n S.1 S.2.1 d_Mo_putIdentity_0 rfl (lv_at hl 1 rfl) ?_
  refine so_callR (cs_Mo_90 S hB E P hS (c_Mo_slotOf l hB key hkey) rfl (by decide) (Nat.le_refl _) (Nat.le_refl _) hl.1 rfl (Nat.le_of_ble_eq_true rfl) d_Mo_putIdentity_1) (fun v hv => ?_)
  subst hv
  refine lv_istore_n S.1 S.2.1 d_Mo_putIdentity_4 rfl hl (by decide) rfl (fun ls hl => ?_)
  obtain ⟨d0, hd0, hf0⟩ := hfree
  refine so_lpR (Wf := fun ls (_ : Nat) => W p l e _ s m _ below meth c _ _ _ _ _ (F0 m 5 ls [])) (fun n1 ls i => n1 = d0 - i ∧ i ≤ d0 ∧ (∀ d1, d1 < i → sl ((7 * key % 16 + d1) % 16) ≠ none) ∧ lv_has ls 4 [(3, .int (nI ((7 * key % 16 + i) % 16))), (0, .ref mo), (1, .int (nI key)), (2, .int (nI val))]) ?_ _ ls 0 ⟨rfl, Nat.zero_le _, fun j hj => absurd hj (Nat.not_lt_zero _), by rw [Nat.add_zero, Nat.mod_mod]; exact hl⟩
  clear hl
  intro n1 ls i ⟨hn1, hi1, hall, hl⟩ ih
  have hs16 : (7 * key % 16 + i) % 16 < 16 := Nat.mod_lt _ (by decide)
  generalize hse : (7 * key % 16 + i) % 16 = sx at hl hs16
  refine lv_aload_n S.1 S.2.1 d_Mo_putIdentity_5 rfl (lv_at hl 1 rfl) ?_
  refine gf_Mo_29_Mo S K P M.1 rfl d_Mo_putIdentity_6 ?_
  refine lv_bipush (v := 64) S.1 S.2.1 d_Mo_putIdentity_9 (by decide) ?_
  refine lv_iload_n S.1 S.2.1 d_Mo_putIdentity_11 rfl (lv_at hl 0 rfl) ?_
  refine lv_iadd S.1 S.2.1 d_Mo_putIdentity_12 ?_
  refine mo_iald S K P M 8 rfl (64 + sx) (nI_add 64 sx) (by show 64 + sx < 160; omega) d_Mo_putIdentity_13 ?_
  refine lv_if_lt (tgt := 27) S.1 S.2.1 d_Mo_putIdentity_14 rfl (fun h14 => ?_) (fun h14 => ?_)
  · have hfr := hid.free hs16 h14
    refine lv_aload_n S.1 S.2.1 d_Mo_putIdentity_27 rfl (lv_at hl 1 rfl) ?_
    refine lv_bipush (v := 64) S.1 S.2.1 d_Mo_putIdentity_28 (by decide) ?_
    refine lv_iload_n S.1 S.2.1 d_Mo_putIdentity_30 rfl (lv_at hl 0 rfl) ?_
    refine lv_iadd S.1 S.2.1 d_Mo_putIdentity_31 ?_
    refine lv_iload_n S.1 S.2.1 d_Mo_putIdentity_32 rfl (lv_at hl 2 rfl) ?_
    refine lv_iload_n S.1 S.2.1 d_Mo_putIdentity_33 rfl (lv_at hl 3 rfl) ?_
    rw [show (64 : Int32) + nI sx = nI (64 + sx) from nI_add 64 sx]
    refine mo_after F (cv_Mo_75_Mo S hB K E P hS M.1 (c_Mo_set l hB M (64 + sx) (by omega) (nI key) (nI val)) rfl (by decide) (Nat.le_refl _) (Nat.le_refl _) hl.1 rfl (Nat.le_of_ble_eq_true rfl) d_Mo_putIdentity_34) hS (fun v R1 σ H locs hp P hS M F => ?_)
    obtain ⟨rfl, rfl⟩ := hp
    refine lv_aload_n S.1 S.2.1 d_Mo_putIdentity_37 rfl (lv_at hl 1 rfl) ?_
    refine gf_Mo_38_Mo S K P M.1 rfl d_Mo_putIdentity_38 ?_
    refine lv_iconst (v := 2) S.1 S.2.1 d_Mo_putIdentity_41 (by decide) ?_
    refine lv_dup2_11 S.1 S.2.1 d_Mo_putIdentity_42 rfl rfl ?_
    refine mo_iald S K P M 11 rfl 2 rfl (by show _ < 5; omega) d_Mo_putIdentity_43 ?_
    refine lv_iconst (v := 1) S.1 S.2.1 d_Mo_putIdentity_44 (by decide) ?_
    refine lv_iadd S.1 S.2.1 d_Mo_putIdentity_45 ?_
    refine mo_iast S K P hS M F 11 rfl 2 rfl (by show _ < 5; omega) d_Mo_putIdentity_46 (fun σ H locs P hS M F => ?_)
    refine so_vret S hr hlk P hS (Nat.le_refl _) (Nat.le_refl _) ⟨_, ?_, M, F⟩ d_Mo_putIdentity_47
    exact ⟨rfl, sx, hs16, ⟨i, by omega, hse.symm, hfr, hall⟩, rfl⟩
  · obtain ⟨x, hox, -⟩ := hid.occ hs16 h14
    refine lv_iload_n S.1 S.2.1 d_Mo_putIdentity_17 rfl (lv_at hl 0 rfl) ?_
    refine lv_iconst (v := 1) S.1 S.2.1 d_Mo_putIdentity_18 (by decide) ?_
    refine lv_iadd S.1 S.2.1 d_Mo_putIdentity_19 ?_
    refine lv_bipush (v := 16) S.1 S.2.1 d_Mo_putIdentity_20 (by decide) ?_
    refine lv_irem S.1 S.2.1 d_Mo_putIdentity_22 (by decide) ?_
    refine lv_istore_n S.1 S.2.1 d_Mo_putIdentity_23 rfl hl (by decide) rfl (fun ls hl => ?_)
    refine lv_goto (tgt := 5) S.1 S.2.1 d_Mo_putIdentity_24 rfl ?_
    rw [nI_1, rem16 (by omega), ← hse, m16] at hl
    refine ih (d0 - (i + 1)) ls (i + 1) ?_ ⟨rfl, ?_, fun d1 hd1 => ?_, hl⟩
    · have : i ≠ d0 := fun z => by subst z; rw [hse, hox] at hf0; cases hf0
      omega
    · have : i ≠ d0 := fun z => by subst z; rw [hse, hox] at hf0; cases hf0
      omega
    · rcases Nat.lt_succ_iff_lt_or_eq.mp hd1 with h | h
      · exact hall d1 h
      · subst h
        rw [hse, hox]
        exact fun z => by cases z
/-- what moves up behind a slot that has come free -/
def clo : Nat → (Nat → Option (Nat × Nat)) → Nat → Nat → Nat → Option (Nat × Nat)
  | 0, sl, _, _ => sl
  | n + 1, sl, free, s => match sl s with
    | none => sl
    | some e => if (7 * e.1 % 16 + 16 - free) % 16 = 0 ∨ (s + 16 - free) % 16 < (7 * e.1 % 16 + 16 - free) % 16 then clo n (va_up (va_up sl free (some e)) s none) s ((s + 1) % 16) else clo n sl free ((s + 1) % 16)
theorem clo_none {n : Nat} {sl : Nat → Option (Nat × Nat)} {free s : Nat} (h : sl s = none) : clo n sl free s = sl := by
  cases n with
  | zero => rfl
  | succ n =>
    unfold clo
    rw [h]
theorem far16 {a b : Nat} (hb : b < 16) : nI a - nI b + 16 = nI (a + 16 - b) := by
  have e1 : nI a - nI b + 16 = (nI a + 16) - nI b := by
    rw [Int32.sub_eq_add_neg, Int32.sub_eq_add_neg, Int32.add_assoc, Int32.add_comm (-nI b), ← Int32.add_assoc]
  rw [e1, show nI a + 16 = nI (a + 16) from nI_add a 16, pk_sub (by omega)]
theorem idR.set {R : Rf} {sl : Nat → Option (Nat × Nat)} (h : idR R sl) {t : Nat} {e : Nat × Nat} (he : e.1 < 32) : idR (sa (sa R 8 (64 + t) (nI e.1)) 9 (64 + t) (nI e.2)) (va_up sl t (some e)) := by
  intro s hs
  have k8 : (sa (sa R 8 (64 + t) (nI e.1)) 9 (64 + t) (nI e.2)).2.1 8 (64 + s) = upd (R.2.1 8) (64 + t) (nI e.1) (64 + s) := rfl
  have k9 : (sa (sa R 8 (64 + t) (nI e.1)) 9 (64 + t) (nI e.2)).2.1 9 (64 + s) = upd (R.2.1 9) (64 + t) (nI e.2) (64 + s) := rfl
  by_cases c : s = t
  · subst c
    rw [va_up_self]
    refine ⟨?_, ?_, he⟩
    · rw [k8]; exact if_pos rfl
    · rw [k9]; exact if_pos rfl
  · rw [va_up_ne _ _ c]
    have h1 := h s hs
    unfold slR at h1 ⊢
    rw [k8, k9]
    unfold upd
    rw [if_neg (by omega), if_neg (by omega)]
    exact h1
theorem idR.clr {R : Rf} {sl : Nat → Option (Nat × Nat)} (h : idR R sl) (t : Nat) : idR (sa R 8 (64 + t) (-1)) (va_up sl t none) := by
  intro s hs
  have k8 : (sa R 8 (64 + t) (-1)).2.1 8 (64 + s) = upd (R.2.1 8) (64 + t) (-1) (64 + s) := rfl
  have k9 : (sa R 8 (64 + t) (-1)).2.1 9 (64 + s) = R.2.1 9 (64 + s) := rfl
  by_cases c : s = t
  · subst c
    rw [va_up_self]
    show (sa R 8 (64 + s) (-1)).2.1 8 (64 + s) < 0
    rw [k8, show upd (R.2.1 8) (64 + s) (-1) (64 + s) = -1 from if_pos rfl]
    decide
  · rw [va_up_ne _ _ c]
    have h1 := h s hs
    unfold slR at h1 ⊢
    rw [k8, k9]
    unfold upd
    rw [if_neg (by omega)]
    exact h1
theorem idR.s11 {R : Rf} {sl : Nat → Option (Nat × Nat)} (h : idR R sl) (i : Nat) (x : Int32) : idR (sa R 11 i x) sl := h
set_option maxHeartbeats 4000000 in
set_option maxRecDepth 100000 in
theorem c_Mo_takeIdentity (l : Launch) {s0 : State} {D : va_G} {ca : Nat → ClassId} (hB : so_B tbl s0 D vcl (tyl ca)) {σ : so_S} {mo : Nat} {ar : Nat → Nat} {R : Rf} (M : MoR ca σ mo ar R) {sl : Nat → Option (Nat × Nat)} (g : Nat) (hg : g < 16) (hid : idR R sl) (hfree : ∃ d0, 1 ≤ d0 ∧ d0 < 16 ∧ sl ((g + d0) % 16) = none) : mo_C l s0 D ca mo ar σ y_Mo_takeIdentity b_Mo_takeIdentity 7 none 1 [.int (nI (64 + g))] (fun v R1 => v = none ∧ idR R1 (clo 15 (va_up sl g none) g ((g + 1) % 16)) ∧ eqo 2 R R1 ∧ R1.2.1 11 2 = R.2.1 11 2 - 1) := by
  refine so_of hB (by decide) (Nat.le_of_ble_eq_true rfl) ?_
  intro p e s m below meth c ls S K E hr hlk hnm P hS hl
  have hl : lv_has ls 7 [(0, .ref mo), (1, .int (nI (64 + g)))] := hl
  have F : fM σ σ := fM.rf
  obtain ⟨σ0, hσ0⟩ : ∃ q, q = σ := ⟨σ, rfl⟩
  rw [← hσ0]
  replace F : fM σ0 σ := by rw [hσ0]; exact fM.rf
  refine lv_iload_n S.1 S.2.1 d_Mo_takeIdentity_0 rfl (lv_at hl 1 rfl) ?_
  refine lv_bipush (v := 64) S.1 S.2.1 d_Mo_takeIdentity_1 (by decide) ?_
  refine lv_isub S.1 S.2.1 d_Mo_takeIdentity_3 ?_
  refine lv_istore_n S.1 S.2.1 d_Mo_takeIdentity_4 rfl hl (by decide) rfl (fun ls hl => ?_)
  refine lv_aload_n S.1 S.2.1 d_Mo_takeIdentity_5 rfl (lv_at hl 1 rfl) ?_
  refine gf_Mo_29_Mo S K P M.1 rfl d_Mo_takeIdentity_6 ?_
  refine lv_iload_n S.1 S.2.1 d_Mo_takeIdentity_9 rfl (lv_at hl 2 rfl) ?_
  refine lv_iconst (v := (-1)) S.1 S.2.1 d_Mo_takeIdentity_10 (by decide) ?_
  refine mo_iast S K P hS M F 8 rfl (64 + g) rfl (by show 64 + g < 160; omega) d_Mo_takeIdentity_11 (fun σ H locs P hS M F => ?_)
  refine lv_aload_n S.1 S.2.1 d_Mo_takeIdentity_12 rfl (lv_at hl 1 rfl) ?_
  refine gf_Mo_38_Mo S K P M.1 rfl d_Mo_takeIdentity_13 ?_
  refine lv_iconst (v := 2) S.1 S.2.1 d_Mo_takeIdentity_16 (by decide) ?_
  refine lv_dup2_11 S.1 S.2.1 d_Mo_takeIdentity_17 rfl rfl ?_
  refine mo_iald S K P M 11 rfl 2 rfl (by show _ < 5; omega) d_Mo_takeIdentity_18 ?_
  refine lv_iconst (v := 1) S.1 S.2.1 d_Mo_takeIdentity_19 (by decide) ?_
  refine lv_isub S.1 S.2.1 d_Mo_takeIdentity_20 ?_
  refine mo_iast S K P hS M F 11 rfl 2 rfl (by show _ < 5; omega) d_Mo_takeIdentity_21 (fun σ H locs P hS M F => ?_)
  refine lv_iload_n S.1 S.2.1 d_Mo_takeIdentity_22 rfl (lv_at hl 0 rfl) ?_
  refine lv_iconst (v := 1) S.1 S.2.1 d_Mo_takeIdentity_23 (by decide) ?_
  refine lv_iadd S.1 S.2.1 d_Mo_takeIdentity_24 ?_
  refine lv_bipush (v := 16) S.1 S.2.1 d_Mo_takeIdentity_25 (by decide) ?_
  refine lv_irem S.1 S.2.1 d_Mo_takeIdentity_27 (by decide) ?_
  refine lv_istore_n S.1 S.2.1 d_Mo_takeIdentity_28 rfl hl (by decide) rfl (fun ls hl => ?_)
  obtain ⟨d0, hd1, hd0, hf0⟩ := hfree
  rw [show nI (64 + g) - 64 = nI g from by rw [show (64 : Int32) = nI 64 from rfl, pk_sub (by omega)]; congr 1; omega, nI_1, rem16 (by omega)] at hl
  have hid1 : idR (sa (sa R 8 (64 + g) (-1)) 11 2 (R.2.1 11 2 - 1)) (va_up sl g none) := (hid.clr g).s11 _ _
  generalize hRe : sa (sa R 8 (64 + g) (-1)) 11 2 ((sa R 8 (64 + g) (-1)).2.1 11 2 - 1) = R0 at M
  replace hid1 : idR R0 (va_up sl g none) := by rw [← hRe]; exact hid1
  have hf1 : va_up sl g none ((g + d0) % 16) = none := by rw [va_up_ne _ _ (by omega)]; exact hf0
  refine so_lp (Wf := fun ls H locs σ1 (_ : Nat × Nat × Rf × (Nat → Option (Nat × Nat))) => W p l e _ s m _ below meth c H locs _ _ _ (F0 m 29 ls [])) (fun n1 ls H locs σ1 a => n1 = d0 - a.1 ∧ 1 ≤ a.1 ∧ a.1 ≤ d0 ∧ a.2.1 < 16 ∧ (∃ j, j < a.1 ∧ a.2.1 = (g + j) % 16) ∧ idR a.2.2.1 a.2.2.2 ∧ a.2.2.2 ((g + d0) % 16) = none ∧ eqo 2 R0 a.2.2.1 ∧ a.2.2.1.2.1 11 2 = R0.2.1 11 2 ∧ clo (16 - a.1) a.2.2.2 a.2.1 ((g + a.1) % 16) = clo 15 (va_up sl g none) g ((g + 1) % 16) ∧ mo_I ca D s0 s mo ar σ0 ls 7 [(3, .int (nI ((g + a.1) % 16))), (2, .int (nI a.2.1)), (0, .ref mo)] H locs σ1 a.2.2.1) ?_ _ ls H locs σ (1, g, R0, va_up sl g none) ⟨rfl, Nat.le_refl _, hd1, hg, ⟨0, Nat.zero_lt_one, by show g = (g + 0) % 16; rw [Nat.add_zero, Nat.mod_eq_of_lt hg]⟩, hid1, hf1, eqo.rf, rfl, rfl, lv_sub hl [0, 1, 2] rfl, P, hS, M, F⟩
  clear hl P hS M F hid1
  rintro n1 ls H locs σ ⟨i, fr, Ra, sa1⟩ ⟨hn1, hi0, hi1, hfr, ⟨j, hj1, hj2⟩, hida, hfa, heq, hsz, hclo, hl, P, hS, M, F⟩ ih
  simp only at hn1 hi0 hi1 hfr hj1 hj2 hida hfa heq hsz hclo hl M ih
  have hs16 : (g + i) % 16 < 16 := Nat.mod_lt _ (by decide)
  have hnx : ((g + i) % 16 + 1) % 16 = (g + (i + 1)) % 16 := m16 g i
  generalize hse : (g + i) % 16 = sx at hl hs16 hclo hnx
  refine lv_aload_n S.1 S.2.1 d_Mo_takeIdentity_29 rfl (lv_at hl 2 rfl) ?_
  refine gf_Mo_29_Mo S K P M.1 rfl d_Mo_takeIdentity_30 ?_
  refine lv_bipush (v := 64) S.1 S.2.1 d_Mo_takeIdentity_33 (by decide) ?_
  refine lv_iload_n S.1 S.2.1 d_Mo_takeIdentity_35 rfl (lv_at hl 0 rfl) ?_
  refine lv_iadd S.1 S.2.1 d_Mo_takeIdentity_36 ?_
  refine mo_iald S K P M 8 rfl (64 + sx) (nI_add 64 sx) (by show 64 + sx < 160; omega) d_Mo_takeIdentity_37 ?_
  refine lv_if_lt (tgt := 138) S.1 S.2.1 d_Mo_takeIdentity_38 rfl (fun h38 => ?_) (fun h38 => ?_)
  · refine so_vret S hr hlk P hS (Nat.le_refl _) (Nat.le_refl _) ⟨_, ?_, M, F⟩ d_Mo_takeIdentity_138
    have hfs := hida.free hs16 h38
    rw [clo_none hfs] at hclo
    refine ⟨rfl, ?_, ?_, ?_⟩
    · rw [← hclo]; exact hida
    · exact ((eqo.sa8 (i := 64 + g) (x := -1) (by omega) (by omega)).tr eqo.sa11).tr (by rw [hRe]; exact heq)
    · rw [hsz, ← hRe]
      show upd (R.2.1 11) 2 (R.2.1 11 2 - 1) 2 = _
      exact if_pos rfl
  · obtain ⟨x, hox, hx8, hx9, hx32⟩ := hida.occ hs16 h38
    have hid0 : i < d0 := by
      have : i ≠ d0 := fun z => by subst z; rw [hse, hox] at hfa; cases hfa
      omega
    refine lv_aload_n S.1 S.2.1 d_Mo_takeIdentity_41 rfl (lv_at hl 2 rfl) ?_
    refine gf_Mo_29_Mo S K P M.1 rfl d_Mo_takeIdentity_42 ?_
    refine lv_bipush (v := 64) S.1 S.2.1 d_Mo_takeIdentity_45 (by decide) ?_
    refine lv_iload_n S.1 S.2.1 d_Mo_takeIdentity_47 rfl (lv_at hl 0 rfl) ?_
    refine lv_iadd S.1 S.2.1 d_Mo_takeIdentity_48 ?_
    refine mo_iald S K P M 8 rfl (64 + sx) (nI_add 64 sx) (by show 64 + sx < 160; omega) d_Mo_takeIdentity_49 ?_
    rw [hx8]
    refine so_callR (cs_Mo_90 S hB E P hS (c_Mo_slotOf l hB x.1 hx32) rfl (by decide) (Nat.le_refl _) (Nat.le_refl _) hl.1 rfl (Nat.le_of_ble_eq_true rfl) d_Mo_takeIdentity_50) (fun v hv => ?_)
    subst hv
    refine lv_istore S.1 S.2.1 d_Mo_takeIdentity_53 hl (by decide) rfl (fun ls hl => ?_)
    refine lv_iload S.1 S.2.1 d_Mo_takeIdentity_55 (lv_at hl 0 rfl) ?_
    refine lv_iload_n S.1 S.2.1 d_Mo_takeIdentity_57 rfl (lv_at hl 2 rfl) ?_
    refine lv_isub S.1 S.2.1 d_Mo_takeIdentity_58 ?_
    refine lv_bipush (v := 16) S.1 S.2.1 d_Mo_takeIdentity_59 (by decide) ?_
    refine lv_iadd S.1 S.2.1 d_Mo_takeIdentity_61 ?_
    refine lv_bipush (v := 16) S.1 S.2.1 d_Mo_takeIdentity_62 (by decide) ?_
    refine lv_irem S.1 S.2.1 d_Mo_takeIdentity_64 (by decide) ?_
    refine lv_istore S.1 S.2.1 d_Mo_takeIdentity_65 hl (by decide) rfl (fun ls hl => ?_)
    refine lv_iload_n S.1 S.2.1 d_Mo_takeIdentity_67 rfl (lv_at hl 2 rfl) ?_
    refine lv_iload_n S.1 S.2.1 d_Mo_takeIdentity_68 rfl (lv_at hl 3 rfl) ?_
    refine lv_isub S.1 S.2.1 d_Mo_takeIdentity_69 ?_
    refine lv_bipush (v := 16) S.1 S.2.1 d_Mo_takeIdentity_70 (by decide) ?_
    refine lv_iadd S.1 S.2.1 d_Mo_takeIdentity_72 ?_
    refine lv_bipush (v := 16) S.1 S.2.1 d_Mo_takeIdentity_73 (by decide) ?_
    refine lv_irem S.1 S.2.1 d_Mo_takeIdentity_75 (by decide) ?_
    rw [far16 hfr, rem16 (by omega)] at hl
    rw [far16 hfr, rem16 (by omega)]
    refine lv_istore S.1 S.2.1 d_Mo_takeIdentity_76 hl (by decide) rfl (fun ls hl => ?_)
    refine lv_iload S.1 S.2.1 d_Mo_takeIdentity_78 (lv_at hl 1 rfl) ?_
    refine lv_if_eq (tgt := 90) S.1 S.2.1 d_Mo_takeIdentity_80 rfl (fun h80 => ?_) (fun h80 => ?_)
    · have hcond : (7 * x.1 % 16 + 16 - fr) % 16 = 0 ∨ (sx + 16 - fr) % 16 < (7 * x.1 % 16 + 16 - fr) % 16 := by
        first
          | exact Or.inl ((nI_eq (b := 0) (by omega) (by decide)).mp h80)
          | exact Or.inr (Nat.not_le.mp fun q => h87 (nI_le q (by omega)))
      refine lv_aload_n S.1 S.2.1 d_Mo_takeIdentity_90 rfl (lv_at hl 5 rfl) ?_
      refine lv_bipush (v := 64) S.1 S.2.1 d_Mo_takeIdentity_91 (by decide) ?_
      refine lv_iload_n S.1 S.2.1 d_Mo_takeIdentity_93 rfl (lv_at hl 4 rfl) ?_
      refine lv_iadd S.1 S.2.1 d_Mo_takeIdentity_94 ?_
      refine lv_aload_n S.1 S.2.1 d_Mo_takeIdentity_95 rfl (lv_at hl 5 rfl) ?_
      refine gf_Mo_29_Mo S K P M.1 rfl d_Mo_takeIdentity_96 ?_
      refine lv_bipush (v := 64) S.1 S.2.1 d_Mo_takeIdentity_99 (by decide) ?_
      refine lv_iload_n S.1 S.2.1 d_Mo_takeIdentity_101 rfl (lv_at hl 3 rfl) ?_
      refine lv_iadd S.1 S.2.1 d_Mo_takeIdentity_102 ?_
      refine mo_iald S K P M 8 rfl (64 + sx) (nI_add 64 sx) (by show 64 + sx < 160; omega) d_Mo_takeIdentity_103 ?_
      rw [hx8]
      refine lv_aload_n S.1 S.2.1 d_Mo_takeIdentity_104 rfl (lv_at hl 5 rfl) ?_
      refine gf_Mo_32_Mo S K P M.1 rfl d_Mo_takeIdentity_105 ?_
      refine lv_bipush (v := 64) S.1 S.2.1 d_Mo_takeIdentity_108 (by decide) ?_
      refine lv_iload_n S.1 S.2.1 d_Mo_takeIdentity_110 rfl (lv_at hl 3 rfl) ?_
      refine lv_iadd S.1 S.2.1 d_Mo_takeIdentity_111 ?_
      refine mo_iald S K P M 9 rfl (64 + sx) (nI_add 64 sx) (by show 64 + sx < 160; omega) d_Mo_takeIdentity_112 ?_
      rw [hx9, show (64 : Int32) + nI fr = nI (64 + fr) from nI_add 64 fr]
      refine mo_after F (cv_Mo_75_Mo S hB K E P hS M.1 (c_Mo_set l hB M (64 + fr) (by omega) _ _) rfl (by decide) (Nat.le_refl _) (Nat.le_refl _) hl.1 rfl (Nat.le_of_ble_eq_true rfl) d_Mo_takeIdentity_113) hS (fun v R1 σ H locs hp P hS M F => ?_)
      obtain ⟨rfl, rfl⟩ := hp
      refine lv_aload_n S.1 S.2.1 d_Mo_takeIdentity_116 rfl (lv_at hl 5 rfl) ?_
      refine gf_Mo_29_Mo S K P M.1 rfl d_Mo_takeIdentity_117 ?_
      refine lv_bipush (v := 64) S.1 S.2.1 d_Mo_takeIdentity_120 (by decide) ?_
      refine lv_iload_n S.1 S.2.1 d_Mo_takeIdentity_122 rfl (lv_at hl 3 rfl) ?_
      refine lv_iadd S.1 S.2.1 d_Mo_takeIdentity_123 ?_
      refine lv_iconst (v := (-1)) S.1 S.2.1 d_Mo_takeIdentity_124 (by decide) ?_
      refine mo_iast S K P hS M F 8 rfl (64 + sx) (nI_add 64 sx) (by show 64 + sx < 160; omega) d_Mo_takeIdentity_125 (fun σ H locs P hS M F => ?_)
      refine lv_iload_n S.1 S.2.1 d_Mo_takeIdentity_126 rfl (lv_at hl 3 rfl) ?_
      refine lv_istore_n S.1 S.2.1 d_Mo_takeIdentity_127 rfl hl (by decide) rfl (fun ls hl => ?_)
      refine lv_iload_n S.1 S.2.1 d_Mo_takeIdentity_128 rfl (lv_at hl 4 rfl) ?_
      refine lv_iconst (v := 1) S.1 S.2.1 d_Mo_takeIdentity_129 (by decide) ?_
      refine lv_iadd S.1 S.2.1 d_Mo_takeIdentity_130 ?_
      refine lv_bipush (v := 16) S.1 S.2.1 d_Mo_takeIdentity_131 (by decide) ?_
      refine lv_irem S.1 S.2.1 d_Mo_takeIdentity_133 (by decide) ?_
      refine lv_istore_n S.1 S.2.1 d_Mo_takeIdentity_134 rfl hl (by decide) rfl (fun ls hl => ?_)
      refine lv_goto (tgt := 29) S.1 S.2.1 d_Mo_takeIdentity_135 rfl ?_
      rw [nI_1, rem16 (by omega), hnx] at hl
      have hcl2 := hclo
      rw [show 16 - i = (15 - i) + 1 by omega] at hcl2
      unfold clo at hcl2
      rw [hox] at hcl2
      simp only at hcl2
      rw [if_pos hcond, hnx, show 15 - i = 16 - (i + 1) by omega] at hcl2
      refine ih (d0 - (i + 1)) ls H locs σ (i + 1, sx, sa (sa (sa Ra 8 (64 + fr) (nI x.1)) 9 (64 + fr) (nI x.2)) 8 (64 + sx) (-1), va_up (va_up sa1 fr (some x)) sx none) (by omega) ⟨rfl, by show 1 ≤ i + 1; omega, by show i + 1 ≤ d0; omega, hs16, ⟨i, by show i < i + 1; omega, hse.symm⟩, (hida.set hx32).clr sx, ?_, ((heq.tr (eqo.sa8 (by omega) (by omega))).tr (eqo.sa9 (by omega) (by omega))).tr (eqo.sa8 (by omega) (by omega)), hsz, hcl2, lv_sub hl [0, 1, 5] rfl, P, hS, M, F⟩
      show va_up (va_up sa1 fr (some x)) sx none ((g + d0) % 16) = none
      rw [va_up_ne _ _ (by omega), va_up_ne _ _ (by omega)]
      exact hfa
    · refine lv_iload S.1 S.2.1 d_Mo_takeIdentity_83 (lv_at hl 1 rfl) ?_
      refine lv_iload S.1 S.2.1 d_Mo_takeIdentity_85 (lv_at hl 0 rfl) ?_
      refine lv_icmp_le (tgt := 128) S.1 S.2.1 d_Mo_takeIdentity_87 rfl (fun h87 => ?_) (fun h87 => ?_)
      · have hcond : ¬ ((7 * x.1 % 16 + 16 - fr) % 16 = 0 ∨ (sx + 16 - fr) % 16 < (7 * x.1 % 16 + 16 - fr) % 16) := by
          rintro (q | q)
          · exact h80 (by rw [q]; rfl)
          · have := (nI_leI (by omega) (by omega)).mp h87
            omega
        refine lv_iload_n S.1 S.2.1 d_Mo_takeIdentity_128 rfl (lv_at hl 3 rfl) ?_
        refine lv_iconst (v := 1) S.1 S.2.1 d_Mo_takeIdentity_129 (by decide) ?_
        refine lv_iadd S.1 S.2.1 d_Mo_takeIdentity_130 ?_
        refine lv_bipush (v := 16) S.1 S.2.1 d_Mo_takeIdentity_131 (by decide) ?_
        refine lv_irem S.1 S.2.1 d_Mo_takeIdentity_133 (by decide) ?_
        refine lv_istore_n S.1 S.2.1 d_Mo_takeIdentity_134 rfl hl (by decide) rfl (fun ls hl => ?_)
        refine lv_goto (tgt := 29) S.1 S.2.1 d_Mo_takeIdentity_135 rfl ?_
        rw [nI_1, rem16 (by omega), hnx] at hl
        have hcl2 := hclo
        rw [show 16 - i = (15 - i) + 1 by omega] at hcl2
        unfold clo at hcl2
        rw [hox] at hcl2
        simp only at hcl2
        rw [if_neg hcond, hnx, show 15 - i = 16 - (i + 1) by omega] at hcl2
        exact ih (d0 - (i + 1)) ls H locs σ (i + 1, fr, Ra, sa1) (by omega) ⟨rfl, by show 1 ≤ i + 1; omega, by show i + 1 ≤ d0; omega, hfr, ⟨j, by show j < i + 1; omega, hj2⟩, hida, hfa, heq, hsz, hcl2, lv_sub hl [0, 4, 5] rfl, P, hS, M, F⟩
      · have hcond : (7 * x.1 % 16 + 16 - fr) % 16 = 0 ∨ (sx + 16 - fr) % 16 < (7 * x.1 % 16 + 16 - fr) % 16 := by
          first
            | exact Or.inl ((nI_eq (b := 0) (by omega) (by decide)).mp h80)
            | exact Or.inr (Nat.not_le.mp fun q => h87 (nI_le q (by omega)))
        refine lv_aload_n S.1 S.2.1 d_Mo_takeIdentity_90 rfl (lv_at hl 5 rfl) ?_
        refine lv_bipush (v := 64) S.1 S.2.1 d_Mo_takeIdentity_91 (by decide) ?_
        refine lv_iload_n S.1 S.2.1 d_Mo_takeIdentity_93 rfl (lv_at hl 4 rfl) ?_
        refine lv_iadd S.1 S.2.1 d_Mo_takeIdentity_94 ?_
        refine lv_aload_n S.1 S.2.1 d_Mo_takeIdentity_95 rfl (lv_at hl 5 rfl) ?_
        refine gf_Mo_29_Mo S K P M.1 rfl d_Mo_takeIdentity_96 ?_
        refine lv_bipush (v := 64) S.1 S.2.1 d_Mo_takeIdentity_99 (by decide) ?_
        refine lv_iload_n S.1 S.2.1 d_Mo_takeIdentity_101 rfl (lv_at hl 3 rfl) ?_
        refine lv_iadd S.1 S.2.1 d_Mo_takeIdentity_102 ?_
        refine mo_iald S K P M 8 rfl (64 + sx) (nI_add 64 sx) (by show 64 + sx < 160; omega) d_Mo_takeIdentity_103 ?_
        rw [hx8]
        refine lv_aload_n S.1 S.2.1 d_Mo_takeIdentity_104 rfl (lv_at hl 5 rfl) ?_
        refine gf_Mo_32_Mo S K P M.1 rfl d_Mo_takeIdentity_105 ?_
        refine lv_bipush (v := 64) S.1 S.2.1 d_Mo_takeIdentity_108 (by decide) ?_
        refine lv_iload_n S.1 S.2.1 d_Mo_takeIdentity_110 rfl (lv_at hl 3 rfl) ?_
        refine lv_iadd S.1 S.2.1 d_Mo_takeIdentity_111 ?_
        refine mo_iald S K P M 9 rfl (64 + sx) (nI_add 64 sx) (by show 64 + sx < 160; omega) d_Mo_takeIdentity_112 ?_
        rw [hx9, show (64 : Int32) + nI fr = nI (64 + fr) from nI_add 64 fr]
        refine mo_after F (cv_Mo_75_Mo S hB K E P hS M.1 (c_Mo_set l hB M (64 + fr) (by omega) _ _) rfl (by decide) (Nat.le_refl _) (Nat.le_refl _) hl.1 rfl (Nat.le_of_ble_eq_true rfl) d_Mo_takeIdentity_113) hS (fun v R1 σ H locs hp P hS M F => ?_)
        obtain ⟨rfl, rfl⟩ := hp
        refine lv_aload_n S.1 S.2.1 d_Mo_takeIdentity_116 rfl (lv_at hl 5 rfl) ?_
        refine gf_Mo_29_Mo S K P M.1 rfl d_Mo_takeIdentity_117 ?_
        refine lv_bipush (v := 64) S.1 S.2.1 d_Mo_takeIdentity_120 (by decide) ?_
        refine lv_iload_n S.1 S.2.1 d_Mo_takeIdentity_122 rfl (lv_at hl 3 rfl) ?_
        refine lv_iadd S.1 S.2.1 d_Mo_takeIdentity_123 ?_
        refine lv_iconst (v := (-1)) S.1 S.2.1 d_Mo_takeIdentity_124 (by decide) ?_
        refine mo_iast S K P hS M F 8 rfl (64 + sx) (nI_add 64 sx) (by show 64 + sx < 160; omega) d_Mo_takeIdentity_125 (fun σ H locs P hS M F => ?_)
        refine lv_iload_n S.1 S.2.1 d_Mo_takeIdentity_126 rfl (lv_at hl 3 rfl) ?_
        refine lv_istore_n S.1 S.2.1 d_Mo_takeIdentity_127 rfl hl (by decide) rfl (fun ls hl => ?_)
        refine lv_iload_n S.1 S.2.1 d_Mo_takeIdentity_128 rfl (lv_at hl 4 rfl) ?_
        refine lv_iconst (v := 1) S.1 S.2.1 d_Mo_takeIdentity_129 (by decide) ?_
        refine lv_iadd S.1 S.2.1 d_Mo_takeIdentity_130 ?_
        refine lv_bipush (v := 16) S.1 S.2.1 d_Mo_takeIdentity_131 (by decide) ?_
        refine lv_irem S.1 S.2.1 d_Mo_takeIdentity_133 (by decide) ?_
        refine lv_istore_n S.1 S.2.1 d_Mo_takeIdentity_134 rfl hl (by decide) rfl (fun ls hl => ?_)
        refine lv_goto (tgt := 29) S.1 S.2.1 d_Mo_takeIdentity_135 rfl ?_
        rw [nI_1, rem16 (by omega), hnx] at hl
        have hcl2 := hclo
        rw [show 16 - i = (15 - i) + 1 by omega] at hcl2
        unfold clo at hcl2
        rw [hox] at hcl2
        simp only at hcl2
        rw [if_pos hcond, hnx, show 15 - i = 16 - (i + 1) by omega] at hcl2
        refine ih (d0 - (i + 1)) ls H locs σ (i + 1, sx, sa (sa (sa Ra 8 (64 + fr) (nI x.1)) 9 (64 + fr) (nI x.2)) 8 (64 + sx) (-1), va_up (va_up sa1 fr (some x)) sx none) (by omega) ⟨rfl, by show 1 ≤ i + 1; omega, by show i + 1 ≤ d0; omega, hs16, ⟨i, by show i < i + 1; omega, hse.symm⟩, (hida.set hx32).clr sx, ?_, ((heq.tr (eqo.sa8 (by omega) (by omega))).tr (eqo.sa9 (by omega) (by omega))).tr (eqo.sa8 (by omega) (by omega)), hsz, hcl2, lv_sub hl [0, 1, 5] rfl, P, hS, M, F⟩
        show va_up (va_up sa1 fr (some x)) sx none ((g + d0) % 16) = none
        rw [va_up_ne _ _ (by omega), va_up_ne _ _ (by omega)]
        exact hfa

/-! The reference: what the maps hold. -/
/-- the entry at place j of map mp -/
def at_M (q : Mps) (mp j : Nat) : Option (Nat × Nat) := if mp = 0 then q.1[j]? else if mp = 1 then q.2.1.1[j]? else if mp = 2 then (if j < 16 then q.2.2.1 j else none) else if mp = 3 then (if j < 8 then (q.2.2.2.1 j).map (fun x => (j, x)) else none) else q.2.2.2.2[j]?
/-- the entry e of map mp holds x -/
def hk_M (mp : Nat) (e : Nat × Nat) (x : Nat) : Prop := ((mp ≠ 0 ∧ mp ≠ 3) ∧ e.1 = x) ∨ (mp ≠ 1 ∧ e.2 = x)
def mh_M (q : Mps) (x : Nat) : Prop := ∃ m j e, m < 5 ∧ at_M q m j = some e ∧ hk_M m e x
theorem at_lt {q : Mps} {mp j : Nat} {e : Nat × Nat} (hm : mp < 5) (h : at_M q mp j = some e) : j < ln_M q mp := by
  rcases (show mp = 0 ∨ mp = 1 ∨ mp = 2 ∨ mp = 3 ∨ mp = 4 by omega) with rfl | rfl | rfl | rfl | rfl
  · exact (List.getElem?_eq_some_iff.mp h).1
  · exact (List.getElem?_eq_some_iff.mp h).1
  · have h : (if j < 16 then q.2.2.1 j else none) = some e := h
    split at h
    · assumption
    · cases h
  · have h : (if j < 8 then (q.2.2.2.1 j).map (fun x => (j, x)) else none) = some e := h
    split at h
    · assumption
    · cases h
  · exact (List.getElem?_eq_some_iff.mp h).1
theorem at_cell {R : Rf} {o : Obs} {q : Mps} {mp i : Nat} (hm : mp < 5) (hq : mpR R q) (hk : okM o q) (hi : i < ln_M q mp) : (∀ e, at_M q mp i = some e → (R.2.1 8 (32 * mp + i) = nI e.1 ∧ R.2.1 9 (32 * mp + i) = nI e.2) ∧ e.1 < 32 ∧ (mp ≠ 3 → o.1 e.1 = true) ∧ e.2 < 32 ∧ o.1 e.2 = true) ∧ (at_M q mp i = none → R.2.1 8 (32 * mp + i) < 0) := by
  obtain ⟨a, ⟨b1, b2, b3⟩, ⟨c1, c2⟩, ⟨d1, d2⟩, ee⟩ := hq
  have row : ∀ (l : List (Nat × Nat)) (mp2 : Nat), rowR R mp2 l → okR o l → i < l.length → (∀ e, l[i]? = some e → (R.2.1 8 (32 * mp2 + i) = nI e.1 ∧ R.2.1 9 (32 * mp2 + i) = nI e.2) ∧ e.1 < 32 ∧ (mp2 ≠ 3 → o.1 e.1 = true) ∧ e.2 < 32 ∧ o.1 e.2 = true) ∧ (l[i]? = none → R.2.1 8 (32 * mp2 + i) < 0) := by
    intro l mp2 hr hx hl
    refine ⟨fun e he => ?_, fun he => ?_⟩
    · have h2 := hx e (List.mem_of_getElem? he)
      exact ⟨hr.2.2 i e he, h2.1.1, fun _ => h2.1.2, h2.2.1, h2.2.2⟩
    · rw [List.getElem?_eq_getElem hl] at he
      cases he
  rcases (show mp = 0 ∨ mp = 1 ∨ mp = 2 ∨ mp = 3 ∨ mp = 4 by omega) with rfl | rfl | rfl | rfl | rfl
  · exact row q.1 0 a hk.2.1.1.1 hi
  · exact row q.2.1.1 1 b1 hk.2.1.2.1.1 hi
  · have hi2 : i < 16 := hi
    have h1 := c1 i hi2
    have ea : at_M q 2 i = q.2.2.1 i := if_pos hi2
    rw [ea]
    refine ⟨fun e he => ?_, fun he => ?_⟩
    · rw [he] at h1
      have h2 := hk.2.2.1.1 i e he
      exact ⟨⟨h1.1, h1.2.1⟩, h2.1.1, fun _ => h2.1.2, h2.2.1, h2.2.2⟩
    · rw [he] at h1
      exact h1
  · have hi2 : i < 8 := hi
    have h1 := d1 i hi2
    have ea : at_M q 3 i = (q.2.2.2.1 i).map (fun x => (i, x)) := if_pos hi2
    rw [ea]
    cases hx : q.2.2.2.1 i with
    | none =>
      rw [hx] at h1
      exact ⟨fun e he => (by cases he), fun _ => h1⟩
    | some x =>
      rw [hx] at h1
      have h2 := hk.2.2.2 i x hx
      refine ⟨fun e he => ?_, fun he => (by cases he)⟩
      cases he
      exact ⟨h1, by show i < 32; omega, fun z => absurd rfl z, h2.1, h2.2⟩
  · exact row q.2.2.2.2 4 ee hk.2.1.2.2.1 hi
theorem sH_iff {S : Nat → Bool} {j x : Nat} : sH S (some j) x = true ↔ S x = true ∨ j = x := by
  constructor
  · intro h
    rcases sH_or h with h | h
    · exact Or.inl h
    · cases h; exact Or.inr rfl
  · rintro (h | h)
    · exact sH_le h
    · rw [h]; exact sH_in
theorem hm_up {S1 S2 T : Nat → Bool} {q : Mps} {mp i : Nat} {e : Nat × Nat} (h : ∀ x, S2 x = true ↔ S1 x = true ∨ ∃ j e, j < i ∧ at_M q mp j = some e ∧ hk_M mp e x) (he : at_M q mp i = some e) (hT : ∀ x, T x = true ↔ S2 x = true ∨ hk_M mp e x) : ∀ x, T x = true ↔ S1 x = true ∨ ∃ j e, j < i + 1 ∧ at_M q mp j = some e ∧ hk_M mp e x := by
  intro x
  rw [hT x, h x]
  constructor
  · rintro ((h | ⟨j, e2, h1, h2, h3⟩) | h)
    · exact Or.inl h
    · exact Or.inr ⟨j, e2, by omega, h2, h3⟩
    · exact Or.inr ⟨i, e, by omega, he, h⟩
  · rintro (h | ⟨j, e2, h1, h2, h3⟩)
    · exact Or.inl (Or.inl h)
    · rcases Nat.lt_succ_iff_lt_or_eq.mp h1 with c | c
      · exact Or.inl (Or.inr ⟨j, e2, c, h2, h3⟩)
      · rw [c] at h2
        cases he.symm.trans h2
        exact Or.inr h3
theorem hm_no {S1 S2 : Nat → Bool} {q : Mps} {mp i : Nat} (h : ∀ x, S2 x = true ↔ S1 x = true ∨ ∃ j e, j < i ∧ at_M q mp j = some e ∧ hk_M mp e x) (he : at_M q mp i = none) : ∀ x, S2 x = true ↔ S1 x = true ∨ ∃ j e, j < i + 1 ∧ at_M q mp j = some e ∧ hk_M mp e x := by
  intro x
  rw [h x]
  constructor
  · rintro (h | ⟨j, e2, h1, h2, h3⟩)
    · exact Or.inl h
    · exact Or.inr ⟨j, e2, by omega, h2, h3⟩
  · rintro (h | ⟨j, e2, h1, h2, h3⟩)
    · exact Or.inl h
    · rcases Nat.lt_succ_iff_lt_or_eq.mp h1 with c | c
      · exact Or.inr ⟨j, e2, c, h2, h3⟩
      · rw [c] at h2
        cases he.symm.trans h2
theorem hk_11 {S : Nat → Bool} {mp : Nat} {e : Nat × Nat} (h0 : mp ≠ 0) (h3 : mp ≠ 3) (h1 : mp ≠ 1) : ∀ x, sH (sH S (some e.1)) (some e.2) x = true ↔ S x = true ∨ hk_M mp e x := by
  intro x
  rw [sH_iff, sH_iff]
  constructor
  · rintro ((h | h) | h)
    · exact Or.inl h
    · exact Or.inr (Or.inl ⟨⟨h0, h3⟩, h⟩)
    · exact Or.inr (Or.inr ⟨h1, h⟩)
  · rintro (h | h | h)
    · exact Or.inl (Or.inl h)
    · exact Or.inl (Or.inr h.2)
    · exact Or.inr h.2
theorem hk_10 {S : Nat → Bool} {mp : Nat} {e : Nat × Nat} (h1 : mp = 1) : ∀ x, sH S (some e.1) x = true ↔ S x = true ∨ hk_M mp e x := by
  intro x
  rw [sH_iff]
  constructor
  · rintro (h | h)
    · exact Or.inl h
    · exact Or.inr (Or.inl ⟨⟨by omega, by omega⟩, h⟩)
  · rintro (h | h | h)
    · exact Or.inl h
    · exact Or.inr h.2
    · exact absurd h1 h.1
theorem hk_01 {S : Nat → Bool} {mp : Nat} {e : Nat × Nat} (h0 : mp = 0 ∨ mp = 3) : ∀ x, sH S (some e.2) x = true ↔ S x = true ∨ hk_M mp e x := by
  intro x
  rw [sH_iff]
  constructor
  · rintro (h | h)
    · exact Or.inl h
    · exact Or.inr (Or.inr ⟨by omega, h⟩)
  · rintro (h | h | h)
    · exact Or.inl h
    · rcases h0 with c | c
      · exact absurd c h.1.1
      · exact absurd c h.1.2
    · exact Or.inr h.2
set_option maxHeartbeats 400000 in
set_option maxRecDepth 100000 in
theorem c_Mo_holdMaps (l : Launch) {s0 : State} {D : va_G} {ca : Nat → ClassId} (hB : so_B tbl s0 D vcl (tyl ca)) {σ : so_S} {mo : Nat} {ar : Nat → Nat} {R : Rf} (M : MoR ca σ mo ar R) {o : Obs} {q : Mps} {n : Nms} {k : Wks} (h0 : refR R o q n k) (hok : okM o q) : mo_C l s0 D ca mo ar σ y_Mo_holdMaps b_Mo_holdMaps 3 none 1 [] (fun v R1 => v = none ∧ ∃ S1, R1 = hR R S1 ∧ ∀ x, S1 x = true ↔ R.2.2 6 x = true ∨ mh_M q x) := by
  refine so_of hB (by decide) (Nat.le_of_ble_eq_true rfl) ?_
  intro p e s m below meth c ls S K E hr hlk hnm P hS hl
  have hl : lv_has ls 3 [(0, .ref mo)] := hl
  have F : fM σ σ := fM.rf
  obtain ⟨σ0, hσ0⟩ : ∃ q, q = σ := ⟨σ, rfl⟩
  rw [← hσ0]
  replace F : fM σ0 σ := by rw [hσ0]; exact fM.rf
  refine lv_iconst (v := 0) S.1 S.2.1 d_Mo_holdMaps_0 (by decide) ?_
  refine lv_istore_n S.1 S.2.1 d_Mo_holdMaps_1 rfl hl (by decide) rfl (fun ls hl => ?_)
  have hS0 : hR R (R.2.2 6) = R := hR_id R
  refine so_lp (Wf := fun ls H locs σ1 (_ : Nat × (Nat → Bool)) => W p l e _ s m _ below meth c H locs _ _ _ (F0 m 2 ls [])) (fun n1 ls H locs σ1 a => n1 = 5 - a.1 ∧ a.1 ≤ 5 ∧ (∀ x, a.2 x = true ↔ R.2.2 6 x = true ∨ ∃ m j e, m < a.1 ∧ at_M q m j = some e ∧ hk_M m e x) ∧ mo_I ca D s0 s mo ar σ0 ls 3 [(1, .int (nI a.1)), (0, .ref mo)] H locs σ1 (hR R a.2)) ?_ _ ls s.heap [] σ (0, R.2.2 6) ⟨rfl, Nat.zero_le _, fun x => ⟨Or.inl, fun h => h.elim id (fun ⟨m, j, e, h1, _⟩ => absurd h1 (Nat.not_lt_zero _))⟩, hl, P, hS, by rw [hS0]; exact M, F⟩
  clear hl P hS M F
  rintro n1 ls H locs σ ⟨mp, S1⟩ ⟨hn1, hmp, hin1, hl, P, hS, M, F⟩ ih
  simp only at hn1 hmp hin1 hl M ih
  refine lv_iload_n S.1 S.2.1 d_Mo_holdMaps_2 rfl (lv_at hl 0 rfl) ?_
  refine lv_iconst (v := 5) S.1 S.2.1 d_Mo_holdMaps_3 (by decide) ?_
  refine lv_icmp_ge (tgt := 76) S.1 S.2.1 d_Mo_holdMaps_4 rfl (fun h4 => ?_) (fun h4 => ?_)
  · refine so_vret S hr hlk P hS (Nat.le_refl _) (Nat.le_refl _) ⟨_, ?_, M, F⟩ d_Mo_holdMaps_76
    have hmp5 : mp = 5 := by
      have := (nI_leI (a := 5) (by decide) (by omega)).mp h4
      omega
    subst hmp5
    exact ⟨rfl, S1, rfl, hin1⟩
  · have hm5 : mp < 5 := Nat.not_le.mp fun z => h4 (nI_le (a := 5) z (by omega))
    refine lv_bipush (v := 32) S.1 S.2.1 d_Mo_holdMaps_7 (by decide) ?_
    refine lv_iload_n S.1 S.2.1 d_Mo_holdMaps_9 rfl (lv_at hl 0 rfl) ?_
    refine lv_imul S.1 S.2.1 d_Mo_holdMaps_10 ?_
    refine lv_istore_n S.1 S.2.1 d_Mo_holdMaps_11 rfl hl (by decide) rfl (fun ls hl => ?_)
    have e0 : (32 : Int32) * nI mp = nI (32 * mp) := pk_mul 32 mp
    rw [e0] at hl
    refine so_lp (Wf := fun ls H locs σ1 (_ : Nat × (Nat → Bool)) => W p l e _ s m _ below meth c H locs _ _ _ (F0 m 12 ls [])) (fun n1 ls H locs σ1 a => n1 = ln_M q mp - a.1 ∧ a.1 ≤ ln_M q mp ∧ (∀ x, a.2 x = true ↔ S1 x = true ∨ ∃ j e, j < a.1 ∧ at_M q mp j = some e ∧ hk_M mp e x) ∧ mo_I ca D s0 s mo ar σ0 ls 3 [(2, .int (nI (32 * mp + a.1))), (1, .int (nI mp)), (0, .ref mo)] H locs σ1 (hR R a.2)) ?_ _ ls H locs σ (0, S1) ⟨rfl, Nat.zero_le _, fun x => ⟨Or.inl, fun h => h.elim id (fun ⟨j, e, h1, _⟩ => absurd h1 (Nat.not_lt_zero _))⟩, hl, P, hS, M, F⟩
    clear hl P hS M F
    rintro n2 ls H locs σ ⟨i, S2⟩ ⟨hn2, hii, hin2, hl, P, hS, M, F⟩ ih2
    simp only at hn2 hii hin2 hl M ih2
    have een : en_O mp (sz_M q mp) = 32 * mp + ln_M q mp := by
      have := en_ln q mp
      have : 32 * mp ≤ en_O mp (sz_M q mp) := by unfold en_O; exact Nat.le_add_right _ _
      omega
    have hln := ln_le h0.2.1 hm5
    refine lv_iload_n S.1 S.2.1 d_Mo_holdMaps_12 rfl (lv_at hl 0 rfl) ?_
    refine lv_aload_n S.1 S.2.1 d_Mo_holdMaps_13 rfl (lv_at hl 2 rfl) ?_
    refine lv_iload_n S.1 S.2.1 d_Mo_holdMaps_14 rfl (lv_at hl 1 rfl) ?_
    refine so_callR (cv_Mo_68_Mo S hB K E P hS M.1 (c_Mo_endd l hB M mp (sz_M q mp) hm5 (sz_R h0.2.1 hm5).1) rfl (by decide) (Nat.le_refl _) (Nat.le_refl _) hl.1 rfl (Nat.le_of_ble_eq_true rfl) d_Mo_holdMaps_15) (fun v hv => ?_)
    subst hv
    refine lv_icmp_ge (tgt := 70) S.1 S.2.1 d_Mo_holdMaps_18 rfl (fun h18 => ?_) (fun h18 => ?_)
    · refine lv_iinc (k := 1) S.1 S.2.1 d_Mo_holdMaps_70 hl rfl rfl (by decide) rfl (fun ls hl => ?_)
      refine lv_goto (tgt := 2) S.1 S.2.1 d_Mo_holdMaps_73 rfl ?_
      rw [nI_a] at hl
      have hil : ln_M q mp ≤ i := by
        have h9 : nI (en_O mp (sz_M q mp)) ≤ nI (32 * mp + i) := h18
        have := (nI_leI (by omega) (by omega)).mp h9
        omega
      refine ih (5 - (mp + 1)) ls H locs σ (mp + 1, S2) (by omega) ⟨rfl, by show mp + 1 ≤ 5; omega, fun x => ?_, lv_sub hl [0, 2] rfl, P, hS, M, F⟩
      show S2 x = true ↔ R.2.2 6 x = true ∨ ∃ m j e, m < mp + 1 ∧ at_M q m j = some e ∧ hk_M m e x
      rw [hin2 x, hin1 x]
      constructor
      · rintro ((h | ⟨m2, j, e2, h1, h2⟩) | ⟨j, e2, h1, h2⟩)
        · exact Or.inl h
        · exact Or.inr ⟨m2, j, e2, by omega, h2⟩
        · exact Or.inr ⟨mp, j, e2, by omega, h2⟩
      · rintro (h | ⟨m2, j, e2, h1, h2⟩)
        · exact Or.inl (Or.inl h)
        · rcases Nat.lt_succ_iff_lt_or_eq.mp h1 with c | c
          · exact Or.inl (Or.inr ⟨m2, j, e2, c, h2⟩)
          · subst c
            have := at_lt hm5 h2.1
            exact Or.inr ⟨j, e2, by omega, h2⟩
    · have hil : i < ln_M q mp := Nat.not_le.mp fun z => h18 (by rw [een]; exact nI_le (by omega) (by omega))
      have hcell := at_cell (R := R) hm5 h0.2.1 hok hil
      refine lv_aload_n S.1 S.2.1 d_Mo_holdMaps_21 rfl (lv_at hl 2 rfl) ?_
      rcases hat : at_M q mp i with _ | ex
      · have htt : True := trivial
        refine gf_Mo_29_Mo S K P M.1 rfl d_Mo_holdMaps_22 ?_
        refine lv_iload_n S.1 S.2.1 d_Mo_holdMaps_25 rfl (lv_at hl 0 rfl) ?_
        refine mo_iald S K P M 8 rfl (32 * mp + i) rfl (by show 32 * mp + i < 160; omega) d_Mo_holdMaps_26 ?_
        refine lv_if_lt (tgt := 64) S.1 S.2.1 d_Mo_holdMaps_27 rfl (fun h27 => ?_) (fun h27 => ?_)
        · refine lv_iinc (k := 0) S.1 S.2.1 d_Mo_holdMaps_64 hl rfl rfl (by decide) rfl (fun ls hl => ?_)
          refine lv_goto (tgt := 12) S.1 S.2.1 d_Mo_holdMaps_67 rfl ?_
          rw [nI_a, show 32 * mp + i + 1 = 32 * mp + (i + 1) from rfl] at hl
          exact ih2 (ln_M q mp - (i + 1)) ls H locs σ (i + 1, S2) (by omega) ⟨rfl, by show i + 1 ≤ _; omega, hm_no hin2 hat, hl, P, hS, M, F⟩
        · exact absurd (hcell.2 hat) h27
      · have hce := hcell.1 ex hat
        refine gf_Mo_29_Mo S K P M.1 rfl d_Mo_holdMaps_22 ?_
        refine lv_iload_n S.1 S.2.1 d_Mo_holdMaps_25 rfl (lv_at hl 0 rfl) ?_
        refine mo_iald S K P M 8 rfl (32 * mp + i) rfl (by show 32 * mp + i < 160; omega) d_Mo_holdMaps_26 ?_
        refine lv_if_lt (tgt := 64) S.1 S.2.1 d_Mo_holdMaps_27 rfl (fun h27 => ?_) (fun h27 => ?_)
        · exact absurd h27 (by rw [show (hR R S2).2.1 8 (32 * mp + i) = nI ex.1 from hce.1.1]; exact nI_pos (by omega))
        · refine lv_iload_n S.1 S.2.1 d_Mo_holdMaps_30 rfl (lv_at hl 1 rfl) ?_
          refine lv_if_eq (tgt := 49) S.1 S.2.1 d_Mo_holdMaps_31 rfl (fun h31 => ?_) (fun h31 => ?_)
          · refine lv_iload_n S.1 S.2.1 d_Mo_holdMaps_49 rfl (lv_at hl 1 rfl) ?_
            refine lv_iconst (v := 1) S.1 S.2.1 d_Mo_holdMaps_50 (by decide) ?_
            refine lv_icmp_eq (tgt := 64) S.1 S.2.1 d_Mo_holdMaps_51 rfl (fun h51 => ?_) (fun h51 => ?_)
            · refine lv_iinc (k := 0) S.1 S.2.1 d_Mo_holdMaps_64 hl rfl rfl (by decide) rfl (fun ls hl => ?_)
              refine lv_goto (tgt := 12) S.1 S.2.1 d_Mo_holdMaps_67 rfl ?_
              rw [nI_a, show 32 * mp + i + 1 = 32 * mp + (i + 1) from rfl] at hl
              have c1 : mp = 1 := (nI_eq (b := 1) (by omega) (by decide)).mp h51
              subst c1
              first
                | exact absurd h31 (by decide)
                | exact absurd h36 (by decide)
            · refine lv_aload_n S.1 S.2.1 d_Mo_holdMaps_54 rfl (lv_at hl 2 rfl) ?_
              refine lv_aload_n S.1 S.2.1 d_Mo_holdMaps_55 rfl (lv_at hl 2 rfl) ?_
              refine gf_Mo_32_Mo S K P M.1 rfl d_Mo_holdMaps_56 ?_
              refine lv_iload_n S.1 S.2.1 d_Mo_holdMaps_59 rfl (lv_at hl 0 rfl) ?_
              refine mo_iald S K P M 9 rfl (32 * mp + i) rfl (by show 32 * mp + i < 160; omega) d_Mo_holdMaps_60 ?_
              refine mo_after F (cv_Mo_135_Mo S hB K E P hS M.1 (c_Mo_holdR l hB M (some ex.2) (fun j hj => by cases hj; exact hce.2.2.2.1) _ hce.1.2) rfl (by decide) (Nat.le_refl _) (Nat.le_refl _) hl.1 rfl (Nat.le_of_ble_eq_true rfl) d_Mo_holdMaps_61) hS (fun v R1 σ H locs hp P hS M F => ?_)
              obtain ⟨rfl, rfl⟩ := hp
              refine lv_iinc (k := 0) S.1 S.2.1 d_Mo_holdMaps_64 hl rfl rfl (by decide) rfl (fun ls hl => ?_)
              refine lv_goto (tgt := 12) S.1 S.2.1 d_Mo_holdMaps_67 rfl ?_
              rw [nI_a, show 32 * mp + i + 1 = 32 * mp + (i + 1) from rfl] at hl
              have c03 : mp = 0 ∨ mp = 3 := by
                first
                  | exact Or.inl ((nI_eq (b := 0) (by omega) (by decide)).mp h31)
                  | exact Or.inr ((nI_eq (b := 3) (by omega) (by decide)).mp h36)
              exact ih2 (ln_M q mp - (i + 1)) ls H locs σ (i + 1, sH S2 (some ex.2)) (by omega) ⟨rfl, by show i + 1 ≤ _; omega, hm_up hin2 hat (hk_01 c03), hl, P, hS, M, F⟩
          · refine lv_iload_n S.1 S.2.1 d_Mo_holdMaps_34 rfl (lv_at hl 1 rfl) ?_
            refine lv_iconst (v := 3) S.1 S.2.1 d_Mo_holdMaps_35 (by decide) ?_
            refine lv_icmp_eq (tgt := 49) S.1 S.2.1 d_Mo_holdMaps_36 rfl (fun h36 => ?_) (fun h36 => ?_)
            · refine lv_iload_n S.1 S.2.1 d_Mo_holdMaps_49 rfl (lv_at hl 1 rfl) ?_
              refine lv_iconst (v := 1) S.1 S.2.1 d_Mo_holdMaps_50 (by decide) ?_
              refine lv_icmp_eq (tgt := 64) S.1 S.2.1 d_Mo_holdMaps_51 rfl (fun h51 => ?_) (fun h51 => ?_)
              · refine lv_iinc (k := 0) S.1 S.2.1 d_Mo_holdMaps_64 hl rfl rfl (by decide) rfl (fun ls hl => ?_)
                refine lv_goto (tgt := 12) S.1 S.2.1 d_Mo_holdMaps_67 rfl ?_
                rw [nI_a, show 32 * mp + i + 1 = 32 * mp + (i + 1) from rfl] at hl
                have c1 : mp = 1 := (nI_eq (b := 1) (by omega) (by decide)).mp h51
                subst c1
                first
                  | exact absurd h31 (by decide)
                  | exact absurd h36 (by decide)
              · refine lv_aload_n S.1 S.2.1 d_Mo_holdMaps_54 rfl (lv_at hl 2 rfl) ?_
                refine lv_aload_n S.1 S.2.1 d_Mo_holdMaps_55 rfl (lv_at hl 2 rfl) ?_
                refine gf_Mo_32_Mo S K P M.1 rfl d_Mo_holdMaps_56 ?_
                refine lv_iload_n S.1 S.2.1 d_Mo_holdMaps_59 rfl (lv_at hl 0 rfl) ?_
                refine mo_iald S K P M 9 rfl (32 * mp + i) rfl (by show 32 * mp + i < 160; omega) d_Mo_holdMaps_60 ?_
                refine mo_after F (cv_Mo_135_Mo S hB K E P hS M.1 (c_Mo_holdR l hB M (some ex.2) (fun j hj => by cases hj; exact hce.2.2.2.1) _ hce.1.2) rfl (by decide) (Nat.le_refl _) (Nat.le_refl _) hl.1 rfl (Nat.le_of_ble_eq_true rfl) d_Mo_holdMaps_61) hS (fun v R1 σ H locs hp P hS M F => ?_)
                obtain ⟨rfl, rfl⟩ := hp
                refine lv_iinc (k := 0) S.1 S.2.1 d_Mo_holdMaps_64 hl rfl rfl (by decide) rfl (fun ls hl => ?_)
                refine lv_goto (tgt := 12) S.1 S.2.1 d_Mo_holdMaps_67 rfl ?_
                rw [nI_a, show 32 * mp + i + 1 = 32 * mp + (i + 1) from rfl] at hl
                have c03 : mp = 0 ∨ mp = 3 := by
                  first
                    | exact Or.inl ((nI_eq (b := 0) (by omega) (by decide)).mp h31)
                    | exact Or.inr ((nI_eq (b := 3) (by omega) (by decide)).mp h36)
                exact ih2 (ln_M q mp - (i + 1)) ls H locs σ (i + 1, sH S2 (some ex.2)) (by omega) ⟨rfl, by show i + 1 ≤ _; omega, hm_up hin2 hat (hk_01 c03), hl, P, hS, M, F⟩
            · refine lv_aload_n S.1 S.2.1 d_Mo_holdMaps_39 rfl (lv_at hl 2 rfl) ?_
              refine lv_aload_n S.1 S.2.1 d_Mo_holdMaps_40 rfl (lv_at hl 2 rfl) ?_
              refine gf_Mo_29_Mo S K P M.1 rfl d_Mo_holdMaps_41 ?_
              refine lv_iload_n S.1 S.2.1 d_Mo_holdMaps_44 rfl (lv_at hl 0 rfl) ?_
              refine mo_iald S K P M 8 rfl (32 * mp + i) rfl (by show 32 * mp + i < 160; omega) d_Mo_holdMaps_45 ?_
              refine mo_after F (cv_Mo_135_Mo S hB K E P hS M.1 (c_Mo_holdR l hB M (some ex.1) (fun j hj => by cases hj; exact hce.2.1) _ hce.1.1) rfl (by decide) (Nat.le_refl _) (Nat.le_refl _) hl.1 rfl (Nat.le_of_ble_eq_true rfl) d_Mo_holdMaps_46) hS (fun v R1 σ H locs hp P hS M F => ?_)
              obtain ⟨rfl, rfl⟩ := hp
              refine lv_iload_n S.1 S.2.1 d_Mo_holdMaps_49 rfl (lv_at hl 1 rfl) ?_
              refine lv_iconst (v := 1) S.1 S.2.1 d_Mo_holdMaps_50 (by decide) ?_
              refine lv_icmp_eq (tgt := 64) S.1 S.2.1 d_Mo_holdMaps_51 rfl (fun h51 => ?_) (fun h51 => ?_)
              · refine lv_iinc (k := 0) S.1 S.2.1 d_Mo_holdMaps_64 hl rfl rfl (by decide) rfl (fun ls hl => ?_)
                refine lv_goto (tgt := 12) S.1 S.2.1 d_Mo_holdMaps_67 rfl ?_
                rw [nI_a, show 32 * mp + i + 1 = 32 * mp + (i + 1) from rfl] at hl
                exact ih2 (ln_M q mp - (i + 1)) ls H locs σ (i + 1, sH S2 (some ex.1)) (by omega) ⟨rfl, by show i + 1 ≤ _; omega, hm_up hin2 hat (hk_10 ((nI_eq (b := 1) (by omega) (by decide)).mp h51)), hl, P, hS, M, F⟩
              · refine lv_aload_n S.1 S.2.1 d_Mo_holdMaps_54 rfl (lv_at hl 2 rfl) ?_
                refine lv_aload_n S.1 S.2.1 d_Mo_holdMaps_55 rfl (lv_at hl 2 rfl) ?_
                refine gf_Mo_32_Mo S K P M.1 rfl d_Mo_holdMaps_56 ?_
                refine lv_iload_n S.1 S.2.1 d_Mo_holdMaps_59 rfl (lv_at hl 0 rfl) ?_
                refine mo_iald S K P M 9 rfl (32 * mp + i) rfl (by show 32 * mp + i < 160; omega) d_Mo_holdMaps_60 ?_
                refine mo_after F (cv_Mo_135_Mo S hB K E P hS M.1 (c_Mo_holdR l hB M (some ex.2) (fun j hj => by cases hj; exact hce.2.2.2.1) _ hce.1.2) rfl (by decide) (Nat.le_refl _) (Nat.le_refl _) hl.1 rfl (Nat.le_of_ble_eq_true rfl) d_Mo_holdMaps_61) hS (fun v R1 σ H locs hp P hS M F => ?_)
                obtain ⟨rfl, rfl⟩ := hp
                refine lv_iinc (k := 0) S.1 S.2.1 d_Mo_holdMaps_64 hl rfl rfl (by decide) rfl (fun ls hl => ?_)
                refine lv_goto (tgt := 12) S.1 S.2.1 d_Mo_holdMaps_67 rfl ?_
                rw [nI_a, show 32 * mp + i + 1 = 32 * mp + (i + 1) from rfl] at hl
                have c0 : mp ≠ 0 := fun z => h31 (by rw [z]; rfl)
                have c3 : mp ≠ 3 := fun z => h36 (by rw [z]; rfl)
                have c1 : mp ≠ 1 := fun z => h51 (by rw [z]; rfl)
                exact ih2 (ln_M q mp - (i + 1)) ls H locs σ (i + 1, sH (sH S2 (some ex.1)) (some ex.2)) (by omega) ⟨rfl, by show i + 1 ≤ _; omega, hm_up hin2 hat (hk_11 c0 c3 c1), hl, P, hS, M, F⟩

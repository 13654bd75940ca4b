/-! The reference: placeOf, entry, step. -/
def cO (f : Nat → Bool) (lo : Nat) : Nat → Nat
  | 0 => 0
  | m + 1 => cO f lo m + if f (lo + m) = true then 1 else 0
theorem cO_mono {f : Nat → Bool} {lo a b : Nat} (h : a ≤ b) : cO f lo a ≤ cO f lo b := by
  induction b with
  | zero => rw [show a = 0 by omega]; exact Nat.le_refl _
  | succ b ih =>
    by_cases c : a = b + 1
    · rw [c]; exact Nat.le_refl _
    · have := ih (by omega)
      show cO f lo a ≤ cO f lo b + _
      omega
theorem cO_le {f : Nat → Bool} {lo : Nat} (n : Nat) : cO f lo n ≤ n := by
  induction n with
  | zero => exact Nat.le_refl _
  | succ n ih => unfold cO; split <;> omega
theorem cO_hit {f : Nat → Bool} {lo : Nat} {n k : Nat} (h : k < cO f lo n) : ∃ m, m ≤ n ∧ cO f lo m = k + 1 := by
  induction n with
  | zero => exact absurd h (Nat.not_lt_zero _)
  | succ n ih =>
    by_cases c : k < cO f lo n
    · obtain ⟨m, h1, h2⟩ := ih c
      exact ⟨m, by omega, h2⟩
    · refine ⟨n + 1, Nat.le_refl _, ?_⟩
      unfold cO at h ⊢
      split at h
      · rename_i e; rw [if_pos e]; omega
      · omega
theorem cO_cong {f g : Nat → Bool} {a b : Nat} : ∀ {n : Nat}, (∀ i, i < n → f (a + i) = g (b + i)) → cO f a n = cO g b n
  | 0, _ => rfl
  | n + 1, h => by
    unfold cO
    rw [cO_cong (fun i hi => h i (by omega)), h n (by omega)]
def oc_O (R : Rf) (i : Nat) : Bool := decide (¬ R.2.1 8 i < 0)
theorem p1_le {a b : Nat} (ha : a < 2 ^ 30) (hb : b < 2 ^ 30) : nI a ≤ nI b - 1 ↔ a + 1 ≤ b := by
  have e1 : (nI b - nI 1).toInt = (b : Int) - (1 : Nat) := pk_sub_toInt hb (by decide)
  rw [Int32.le_iff_toInt_le, show nI b - 1 = nI b - nI 1 from rfl, e1, nI_toInt (by omega)]
  omega
theorem p1_ad (a : Nat) (b : Int32) : nI a - 1 + b = nI a + b - 1 := by
  rw [Int32.sub_eq_add_neg, Int32.sub_eq_add_neg, Int32.add_assoc, Int32.add_comm (-1), ← Int32.add_assoc]
theorem p1_in (a : Nat) : nI a - 1 + Int32.ofInt 1 = nI a := by
  show nI a - 1 + 1 = nI a
  rw [Int32.sub_add_cancel]
set_option maxHeartbeats 400000 in
set_option maxRecDepth 100000 in
theorem c_Mo_placeOf (l : Launch) {s0 : State} {D : va_G} {ca : Nat → ClassId} (hB : so_B tbl s0 D vcl (tyl ca)) {σ : so_S} {mo : Nat} {ar : Nat → Nat} {R : Rf} (M : MoR ca σ mo ar R) (mp kk : Nat) (hm : mp < 5) (hk : kk < 1000) (hf : ∃ m0, m0 ≤ 32 ∧ 32 * mp + m0 ≤ 160 ∧ cO (oc_O R) (32 * mp) m0 = kk + 1) : mo_D l s0 D mo σ y_Mo_placeOf b_Mo_placeOf 5 (some .int) 0 [.int (nI mp), .int (nI kk)] (fun v => ∃ p, 32 * mp ≤ p ∧ p < 32 * mp + 32 ∧ p < 160 ∧ oc_O R p = true ∧ cO (oc_O R) (32 * mp) (p - 32 * mp) = kk ∧ v = some (.int (nI p))) := by
  refine so_ofR hB (by decide) (Nat.le_of_ble_eq_true rfl) ?_
  intro p e s m below meth c ls S K E hr hlk P hS hl
  have hl : lv_has ls 5 [(0, .ref mo), (1, .int (nI mp)), (2, .int (nI kk))] := hl
  refine lv_iconst (v := (-1)) S.1 S.2.1 d_Mo_placeOf_0 (by decide) ?_
  refine lv_istore_n S.1 S.2.1 d_Mo_placeOf_1 rfl hl (by decide) rfl (fun ls hl => ?_)
  refine lv_bipush (v := 32) S.1 S.2.1 d_Mo_placeOf_2 (by decide) ?_
  refine lv_iload_n S.1 S.2.1 d_Mo_placeOf_4 rfl (lv_at hl 2 rfl) ?_
  refine lv_imul S.1 S.2.1 d_Mo_placeOf_5 ?_
  refine lv_iconst (v := 1) S.1 S.2.1 d_Mo_placeOf_6 (by decide) ?_
  refine lv_isub S.1 S.2.1 d_Mo_placeOf_7 ?_
  refine lv_istore S.1 S.2.1 d_Mo_placeOf_8 hl (by decide) rfl (fun ls hl => ?_)
  have e0 : (32 : Int32) * nI mp = nI (32 * mp) := pk_mul 32 mp
  rw [e0] at hl
  obtain ⟨m0, hm0, hm1, hm2⟩ := hf
  refine so_lpR (Wf := fun ls (_ : Nat) => W p l e _ s m _ below meth c _ _ _ _ _ (F0 m 10 ls [])) (fun n1 ls i => n1 = m0 - i ∧ i ≤ m0 ∧ (cO (oc_O R) (32 * mp) i ≤ kk ∨ (1 ≤ i ∧ cO (oc_O R) (32 * mp) i = kk + 1 ∧ cO (oc_O R) (32 * mp) (i - 1) = kk ∧ oc_O R (32 * mp + (i - 1)) = true)) ∧ lv_has ls 5 [(4, .int (nI (32 * mp + i) - 1)), (3, .int (nI (cO (oc_O R) (32 * mp) i) - 1)), (0, .ref mo), (1, .int (nI mp)), (2, .int (nI kk))]) ?_ _ ls 0 ⟨rfl, Nat.zero_le _, Or.inl (Nat.zero_le _), hl⟩
  clear hl
  intro n1 ls i ⟨hn1, hi1, hinv, hl⟩ ih
  have hci : cO (oc_O R) (32 * mp) i ≤ i := cO_le i
  refine lv_iload_n S.1 S.2.1 d_Mo_placeOf_10 rfl (lv_at hl 1 rfl) ?_
  refine lv_iload_n S.1 S.2.1 d_Mo_placeOf_11 rfl (lv_at hl 4 rfl) ?_
  refine lv_icmp_ge (tgt := 39) S.1 S.2.1 d_Mo_placeOf_12 rfl (fun h12 => ?_) (fun h12 => ?_)
  · refine lv_iload S.1 S.2.1 d_Mo_placeOf_39 (lv_at hl 0 rfl) ?_
    refine so_iretR S hr hlk ?_ d_Mo_placeOf_41
    have h9 := (p1_le (by omega) (by omega)).mp h12
    rcases hinv with h | ⟨h1, h2, h3, h4⟩
    · omega
    · refine ⟨32 * mp + (i - 1), by omega, by omega, by omega, h4, ?_, ?_⟩
      · rw [Nat.add_sub_cancel_left]; exact h3
      · rw [show 32 * mp + i = 32 * mp + (i - 1) + 1 by omega, nI_pred]
  · have hlt : cO (oc_O R) (32 * mp) i ≤ kk := by
      have : ¬ kk + 1 ≤ cO (oc_O R) (32 * mp) i := fun q => h12 ((p1_le (by omega) (by omega)).mpr q)
      omega
    have him : i < m0 := by
      have : i ≠ m0 := fun z => by rw [z] at hlt; omega
      omega
    refine lv_iinc (k := 0) S.1 S.2.1 d_Mo_placeOf_15 hl rfl rfl (by decide) rfl (fun ls hl => ?_)
    rw [p1_in] at hl
    refine lv_iload_n S.1 S.2.1 d_Mo_placeOf_18 rfl (lv_at hl 1 rfl) ?_
    refine lv_aload_n S.1 S.2.1 d_Mo_placeOf_19 rfl (lv_at hl 2 rfl) ?_
    refine gf_Mo_29_Mo S K P M.1 rfl d_Mo_placeOf_20 ?_
    refine lv_iload S.1 S.2.1 d_Mo_placeOf_23 (lv_at hl 0 rfl) ?_
    refine mo_iald S K P M 8 rfl (32 * mp + i) rfl (by show 32 * mp + i < 160; omega) d_Mo_placeOf_25 ?_
    refine lv_if_lt (tgt := 33) S.1 S.2.1 d_Mo_placeOf_26 rfl (fun h26 => ?_) (fun h26 => ?_)
    · refine lv_iconst (v := 0) S.1 S.2.1 d_Mo_placeOf_33 (by decide) ?_
      refine lv_iadd S.1 S.2.1 d_Mo_placeOf_34 ?_
      refine lv_istore_n S.1 S.2.1 d_Mo_placeOf_35 rfl hl (by decide) rfl (fun ls hl => ?_)
      refine lv_goto (tgt := 10) S.1 S.2.1 d_Mo_placeOf_36 rfl ?_
      have hoc : oc_O R (32 * mp + i) = false := decide_eq_false (fun z => z h26)
      have e8 : cO (oc_O R) (32 * mp) (i + 1) = cO (oc_O R) (32 * mp) i + 0 := by
        show cO (oc_O R) (32 * mp) i + _ = _
        rw [hoc]
        rfl
      have e9 : nI (cO (oc_O R) (32 * mp) i) - 1 + 0 = nI (cO (oc_O R) (32 * mp) (i + 1)) - 1 := by
        rw [p1_ad, e8, show nI (cO (oc_O R) (32 * mp) i) + 0 = nI (cO (oc_O R) (32 * mp) i + 0) from nI_add _ _]
      have e7 : nI (32 * mp + i) = nI (32 * mp + (i + 1)) - 1 := by
        rw [show 32 * mp + (i + 1) = (32 * mp + i) + 1 by omega, nI_pred]
      rw [e9, e7] at hl
      refine ih (m0 - (i + 1)) ls (i + 1) (by omega) ⟨rfl, by omega, ?_, lv_sub hl [1, 0, 2, 3, 4] rfl⟩
      rw [e8]
      exact Or.inl (by omega)
    · refine lv_iconst (v := 1) S.1 S.2.1 d_Mo_placeOf_29 (by decide) ?_
      refine lv_goto (tgt := 34) S.1 S.2.1 d_Mo_placeOf_30 rfl ?_
      refine lv_iadd S.1 S.2.1 d_Mo_placeOf_34 ?_
      refine lv_istore_n S.1 S.2.1 d_Mo_placeOf_35 rfl hl (by decide) rfl (fun ls hl => ?_)
      refine lv_goto (tgt := 10) S.1 S.2.1 d_Mo_placeOf_36 rfl ?_
      have hoc : oc_O R (32 * mp + i) = true := decide_eq_true h26
      have e8 : cO (oc_O R) (32 * mp) (i + 1) = cO (oc_O R) (32 * mp) i + 1 := by
        show cO (oc_O R) (32 * mp) i + _ = _
        rw [hoc]
        rfl
      have e9 : nI (cO (oc_O R) (32 * mp) i) - 1 + 1 = nI (cO (oc_O R) (32 * mp) (i + 1)) - 1 := by
        rw [p1_ad, e8, show nI (cO (oc_O R) (32 * mp) i) + 1 = nI (cO (oc_O R) (32 * mp) i + 1) from nI_add _ _]
      have e7 : nI (32 * mp + i) = nI (32 * mp + (i + 1)) - 1 := by
        rw [show 32 * mp + (i + 1) = (32 * mp + i) + 1 by omega, nI_pred]
      rw [e9, e7] at hl
      refine ih (m0 - (i + 1)) ls (i + 1) (by omega) ⟨rfl, by omega, ?_, lv_sub hl [1, 0, 2, 3, 4] rfl⟩
      rw [e8]
      by_cases c : cO (oc_O R) (32 * mp) i + 1 ≤ kk
      · exact Or.inl c
      · refine Or.inr ⟨by omega, by omega, ?_, ?_⟩
        · rw [Nat.add_sub_cancel]; omega
        · rw [Nat.add_sub_cancel]; exact hoc
/-- how many entries a map has; the k-th of them -/
def sz_M (q : Mps) (mp : Nat) : Nat := if mp = 0 then q.1.length else if mp = 1 then q.2.1.1.length else if mp = 2 then cn q.2.2.1 16 else if mp = 3 then cn q.2.2.2.1 8 else q.2.2.2.2.length
def en_M (q : Mps) (mp k : Nat) (e : Nat × Nat) : Prop := if mp = 0 then q.1[k]? = some e else if mp = 1 then q.2.1.1[k]? = some e else if mp = 2 then ∃ s, s < 16 ∧ q.2.2.1 s = some e ∧ cn q.2.2.1 s = k else if mp = 3 then e.1 < 8 ∧ q.2.2.2.1 e.1 = some e.2 ∧ cn q.2.2.2.1 e.1 = k else q.2.2.2.2[k]? = some e
theorem cn_cO {α : Type} (f : Nat → Option α) (n : Nat) : cn f n = cO (fun i => (f i).isSome) 0 n := by
  induction n with
  | zero => rfl
  | succ n ih => unfold cn cO; rw [ih, Nat.zero_add]
theorem cn_le {α : Type} (f : Nat → Option α) (n : Nat) : cn f n ≤ n := by rw [cn_cO]; exact cO_le n
theorem oc_row {R : Rf} {mp : Nat} {l : List (Nat × Nat)} (h : rowR R mp l) (hl : ∀ x ∈ l, x.1 < 2 ^ 31) {i : Nat} (hi : i < l.length) : oc_O R (32 * mp + i) = true := by
  have := (h.2.2 i l[i] (List.getElem?_eq_getElem hi)).1
  refine decide_eq_true ?_
  rw [this]
  exact nI_pos (hl _ (List.getElem_mem hi))
theorem cO_row {R : Rf} {mp : Nat} {l : List (Nat × Nat)} (h : rowR R mp l) (hl : ∀ x ∈ l, x.1 < 2 ^ 31) : ∀ {n : Nat}, n ≤ l.length → cO (oc_O R) (32 * mp) n = n
  | 0, _ => rfl
  | n + 1, hn => by
    unfold cO
    rw [cO_row h hl (by omega), oc_row h hl (by omega)]
    rfl
theorem oc_id {R : Rf} {sl : Nat → Option (Nat × Nat)} (h : idR R sl) {s : Nat} (hs : s < 16) : oc_O R (64 + s) = (sl s).isSome := by
  have h1 := h s hs
  unfold oc_O
  cases hx : sl s with
  | none => rw [hx] at h1; exact decide_eq_false (fun z => z h1)
  | some e => rw [hx] at h1; rw [h1.1]; exact decide_eq_true (nI_pos (by have := h1.2.2; omega))
theorem oc_pl {R : Rf} {pv : Nat → Option Nat} (h : plR R pv) {s : Nat} (hs : s < 8) : oc_O R (96 + s) = (pv s).isSome := by
  have h1 := h s hs
  unfold oc_O
  cases hx : pv s with
  | none => rw [hx] at h1; exact decide_eq_false (fun z => z h1)
  | some e => rw [hx] at h1; rw [h1.1]; exact decide_eq_true (nI_pos (by omega))
def okK (q : Mps) : Prop := (∀ x ∈ q.1, x.1 < 32) ∧ (∀ x ∈ q.2.1.1, x.1 < 32) ∧ ∀ x ∈ q.2.2.2.2, x.1 < 32
theorem sz_R {R : Rf} {q : Mps} (h : mpR R q) {mp : Nat} (hm : mp < 5) : R.2.1 11 mp = nI (sz_M q mp) ∧ sz_M q mp ≤ 32 := by
  obtain ⟨a, ⟨b1, b2, b3⟩, ⟨c1, c2⟩, ⟨d1, d2⟩, e⟩ := h
  rcases (show mp = 0 ∨ mp = 1 ∨ mp = 2 ∨ mp = 3 ∨ mp = 4 by omega) with rfl | rfl | rfl | rfl | rfl
  · exact ⟨a.1, a.2.1⟩
  · exact ⟨b1.1, b1.2.1⟩
  · exact ⟨c2, Nat.le_trans (cn_le _ _) (by decide)⟩
  · exact ⟨d2, Nat.le_trans (cn_le _ _) (by decide)⟩
  · exact ⟨e.1, e.2.1⟩
theorem pl_has {R : Rf} {q : Mps} (h : mpR R q) (hk : okK q) {mp k : Nat} (hm : mp < 5) (hkk : k < sz_M q mp) : ∃ m0, m0 ≤ 32 ∧ 32 * mp + m0 ≤ 160 ∧ cO (oc_O R) (32 * mp) m0 = k + 1 := by
  obtain ⟨a, ⟨b1, b2, b3⟩, ⟨c1, c2⟩, ⟨d1, d2⟩, e⟩ := h
  rcases (show mp = 0 ∨ mp = 1 ∨ mp = 2 ∨ mp = 3 ∨ mp = 4 by omega) with rfl | rfl | rfl | rfl | rfl
  · have : k < q.1.length := hkk
    have := a.2.1
    exact ⟨k + 1, by omega, by omega, cO_row a (fun x hx => Nat.lt_trans (hk.1 x hx) (by decide)) (by omega)⟩
  · have : k < q.2.1.1.length := hkk
    have := b1.2.1
    exact ⟨k + 1, by omega, by omega, cO_row b1 (fun x hx => Nat.lt_trans (hk.2.1 x hx) (by decide)) (by omega)⟩
  · have h1 : k < cO (oc_O R) 64 16 := by
      rw [cO_cong (g := fun i => (q.2.2.1 i).isSome) (b := 0) (fun i hi => by rw [Nat.zero_add]; exact oc_id c1 hi), ← cn_cO]
      exact hkk
    obtain ⟨m, h2, h3⟩ := cO_hit h1
    exact ⟨m, by omega, by omega, h3⟩
  · have h1 : k < cO (oc_O R) 96 8 := by
      rw [cO_cong (g := fun i => (q.2.2.2.1 i).isSome) (b := 0) (fun i hi => by rw [Nat.zero_add]; exact oc_pl d1 hi), ← cn_cO]
      exact hkk
    obtain ⟨m, h2, h3⟩ := cO_hit h1
    exact ⟨m, by omega, by omega, h3⟩
  · have : k < q.2.2.2.2.length := hkk
    have := e.2.1
    exact ⟨k + 1, by omega, by omega, cO_row e (fun x hx => Nat.lt_trans (hk.2.2 x hx) (by decide)) (by omega)⟩
theorem pl_is {R : Rf} {q : Mps} (h : mpR R q) (hk : okK q) {mp k p : Nat} (hm : mp < 5) (hkk : k < sz_M q mp) (h1 : 32 * mp ≤ p) (h2 : p < 32 * mp + 32) (h3 : oc_O R p = true) (h4 : cO (oc_O R) (32 * mp) (p - 32 * mp) = k) : ∃ e, en_M q mp k e ∧ R.2.1 8 p = nI e.1 ∧ R.2.1 9 p = nI e.2 := by
  obtain ⟨a, ⟨b1, b2, b3⟩, ⟨c1, c2⟩, ⟨d1, d2⟩, e⟩ := h
  have row : ∀ (l : List (Nat × Nat)) (mp2 : Nat), mp2 = mp → rowR R mp2 l → (∀ x ∈ l, x.1 < 32) → k < l.length → ∃ e, l[k]? = some e ∧ R.2.1 8 p = nI e.1 ∧ R.2.1 9 p = nI e.2 := by
    intro l mp2 e2 hr hx hl
    subst e2
    have hpk : p - 32 * mp2 = k := by
      rcases Nat.lt_or_ge l.length (p - 32 * mp2) with c | c
      · have := cO_mono (f := oc_O R) (lo := 32 * mp2) (Nat.le_of_lt c)
        rw [cO_row hr (fun x hx2 => Nat.lt_trans (hx x hx2) (by decide)) (Nat.le_refl _)] at this
        omega
      · rw [cO_row hr (fun x hx2 => Nat.lt_trans (hx x hx2) (by decide)) c] at h4
        exact h4
    refine ⟨l[k], List.getElem?_eq_getElem hl, ?_⟩
    have := hr.2.2 k l[k] (List.getElem?_eq_getElem hl)
    rw [show 32 * mp2 + k = p by omega] at this
    exact this
  rcases (show mp = 0 ∨ mp = 1 ∨ mp = 2 ∨ mp = 3 ∨ mp = 4 by omega) with rfl | rfl | rfl | rfl | rfl
  · exact row q.1 0 rfl a hk.1 hkk
  · exact row q.2.1.1 1 rfl b1 hk.2.1 hkk
  · have hc : ∀ m, m ≤ 16 → cO (oc_O R) 64 m = cn q.2.2.1 m := fun m hm2 => by
      rw [cO_cong (g := fun i => (q.2.2.1 i).isSome) (b := 0) (fun i hi => by rw [Nat.zero_add]; exact oc_id c1 (by omega)), ← cn_cO]
    have hp : p - 64 < 16 := by
      rcases Nat.lt_or_ge (p - 64) 16 with c | c
      · exact c
      · have := cO_mono (f := oc_O R) (lo := 64) c
        rw [hc 16 (by decide)] at this
        have h5 : k < cn q.2.2.1 16 := hkk
        have h6 : cO (oc_O R) 64 (p - 64) = k := h4
        omega
    have h7 := oc_id c1 hp
    rw [show 64 + (p - 64) = p by omega, h3] at h7
    obtain ⟨x, hx⟩ := Option.isSome_iff_exists.mp h7.symm
    have h8 := c1 (p - 64) hp
    rw [hx] at h8
    unfold slR at h8
    rw [show 64 + (p - 64) = p by omega] at h8
    exact ⟨x, ⟨p - 64, hp, hx, by rw [← hc _ (by omega)]; exact h4⟩, h8.1, h8.2.1⟩
  · have hc : ∀ m, m ≤ 8 → cO (oc_O R) 96 m = cn q.2.2.2.1 m := fun m hm2 => by
      rw [cO_cong (g := fun i => (q.2.2.2.1 i).isSome) (b := 0) (fun i hi => by rw [Nat.zero_add]; exact oc_pl d1 (by omega)), ← cn_cO]
    have hp : p - 96 < 8 := by
      rcases Nat.lt_or_ge (p - 96) 8 with c | c
      · exact c
      · have := cO_mono (f := oc_O R) (lo := 96) c
        rw [hc 8 (by decide)] at this
        have h5 : k < cn q.2.2.2.1 8 := hkk
        have h6 : cO (oc_O R) 96 (p - 96) = k := h4
        omega
    have h7 := oc_pl d1 hp
    rw [show 96 + (p - 96) = p by omega, h3] at h7
    obtain ⟨x, hx⟩ := Option.isSome_iff_exists.mp h7.symm
    have h8 := d1 (p - 96) hp
    rw [hx] at h8
    unfold ppR at h8
    rw [show 96 + (p - 96) = p by omega] at h8
    exact ⟨(p - 96, x), ⟨hp, hx, by rw [← hc _ (by omega)]; exact h4⟩, h8.1, h8.2⟩
  · exact row q.2.2.2.2 4 rfl e hk.2.2 hkk

/-! The reference's rows as lists: pairs (key, value) of numbers. -/
def rowR (R : Rf) (k : Nat) (l : List (Nat × Nat)) : Prop := R.2.1 11 k = nI l.length ∧ l.length ≤ 32 ∧ ∀ (j : Nat) (e : Nat × Nat), l[j]? = some e → R.2.1 8 (32 * k + j) = nI e.1 ∧ R.2.1 9 (32 * k + j) = nI e.2
def useR (R : Rf) (u : List Nat) : Prop := ∀ (j x : Nat), u[j]? = some x → R.2.1 10 (32 + j) = nI x
/-- R1 is R but for the row k -/
def eqo (k : Nat) (R R1 : Rf) : Prop := R1.1 = R.1 ∧ R1.2.2 = R.2.2 ∧ (∀ j, j ≠ 8 → j ≠ 9 → j ≠ 10 → j ≠ 11 → R1.2.1 j = R.2.1 j) ∧ (∀ i, (i < 32 * k ∨ 32 * k + 32 ≤ i) → R1.2.1 8 i = R.2.1 8 i ∧ R1.2.1 9 i = R.2.1 9 i ∧ R1.2.1 10 i = R.2.1 10 i) ∧ ∀ i, i ≠ k → R1.2.1 11 i = R.2.1 11 i
theorem eqo.rf {k : Nat} {R : Rf} : eqo k R R := ⟨rfl, rfl, fun _ _ _ _ _ => rfl, fun _ _ => ⟨rfl, rfl, rfl⟩, fun _ _ => rfl⟩
theorem eqo.tr {k : Nat} {A B C : Rf} (h : eqo k A B) (h2 : eqo k B C) : eqo k A C :=
  ⟨h2.1.trans h.1, h2.2.1.trans h.2.1, fun j a b c d => (h2.2.2.1 j a b c d).trans (h.2.2.1 j a b c d), fun i hi => ⟨(h2.2.2.2.1 i hi).1.trans (h.2.2.2.1 i hi).1, (h2.2.2.2.1 i hi).2.1.trans (h.2.2.2.1 i hi).2.1, (h2.2.2.2.1 i hi).2.2.trans (h.2.2.2.1 i hi).2.2⟩, fun i hi => (h2.2.2.2.2 i hi).trans (h.2.2.2.2 i hi)⟩
theorem eqo.row {k k1 : Nat} {R R1 : Rf} {l : List (Nat × Nat)} (h : eqo k R R1) (hk : k1 ≠ k) (hr : rowR R k1 l) : rowR R1 k1 l := by
  refine ⟨(h.2.2.2.2 k1 hk).trans hr.1, hr.2.1, fun j e he => ?_⟩
  have hj := (List.getElem?_eq_some_iff.mp he).1
  have hb : 32 * k1 + j < 32 * k ∨ 32 * k + 32 ≤ 32 * k1 + j := by
    have := hr.2.1
    omega
  have h1 := h.2.2.2.1 _ hb
  rw [h1.1, h1.2.1]
  exact hr.2.2 j e he
/-- a cell of a row is set -/
theorem eqo.sa8 {k i : Nat} {R : Rf} {x : Int32} (h1 : 32 * k ≤ i) (h2 : i < 32 * k + 32) : eqo k R (sa R 8 i x) := by
  refine ⟨rfl, rfl, fun j a b c d => va_up_ne _ _ a, fun t ht => ⟨?_, rfl, rfl⟩, fun t ht => rfl⟩
  show upd (R.2.1 8) i x t = _
  unfold upd
  rw [if_neg (by omega)]
theorem eqo.sa9 {k i : Nat} {R : Rf} {x : Int32} (h1 : 32 * k ≤ i) (h2 : i < 32 * k + 32) : eqo k R (sa R 9 i x) := by
  refine ⟨rfl, rfl, fun j a b c d => va_up_ne _ _ b, fun t ht => ⟨rfl, ?_, rfl⟩, fun t ht => rfl⟩
  show upd (R.2.1 9) i x t = _
  unfold upd
  rw [if_neg (by omega)]
theorem eqo.sa10 {k i : Nat} {R : Rf} {x : Int32} (h1 : 32 * k ≤ i) (h2 : i < 32 * k + 32) : eqo k R (sa R 10 i x) := by
  refine ⟨rfl, rfl, fun j a b c d => va_up_ne _ _ c, fun t ht => ⟨rfl, rfl, ?_⟩, fun t ht => rfl⟩
  show upd (R.2.1 10) i x t = _
  unfold upd
  rw [if_neg (by omega)]
theorem eqo.sa11 {k : Nat} {R : Rf} {x : Int32} : eqo k R (sa R 11 k x) := by
  refine ⟨rfl, rfl, fun j a b c d => va_up_ne _ _ d, fun t ht => ⟨rfl, rfl, rfl⟩, fun t ht => ?_⟩
  show upd (R.2.1 11) k x t = _
  unfold upd
  rw [if_neg ht]
theorem eqo.sh {k i n : Nat} {R : Rf} (h1 : 32 * k ≤ i) (h2 : n < 32) : eqo k R (sh_R R i (32 * k + n)) := by
  refine ⟨rfl, rfl, fun j a b c d => ?_, fun t ht => ⟨?_, ?_, ?_⟩, fun t ht => rfl⟩
  · show va_up (va_up (va_up R.2.1 8 _) 9 _) 10 _ j = R.2.1 j
    rw [va_up_ne _ _ c, va_up_ne _ _ b, va_up_ne _ _ a]
  all_goals
    show shf _ _ _ _ = _
    unfold shf
    split
    · rfl
    · rw [if_neg (by omega)]
theorem eqo.dw {k i n : Nat} {R : Rf} (h1 : 32 * k ≤ i) (h2 : n ≤ 32) : eqo k R (dw_R R i (32 * k + n)) := by
  refine ⟨rfl, rfl, fun j a b c d => ?_, fun t ht => ⟨?_, ?_, ?_⟩, fun t ht => rfl⟩
  · show va_up (va_up (va_up R.2.1 8 _) 9 _) 10 _ j = R.2.1 j
    rw [va_up_ne _ _ c, va_up_ne _ _ b, va_up_ne _ _ a]
  all_goals
    show dwn _ _ _ _ = _
    unfold dwn
    rw [if_neg (by omega)]
theorem eqo.op {R : Rf} {mp k n : Nat} {x y : Int32} (h1 : 32 * mp ≤ k) (h2 : k ≤ 32 * mp + n) (hn : n < 32) : eqo mp R (op_R R mp k n x y) :=
  (((eqo.sh h1 hn).tr (eqo.sa8 h1 (by omega))).tr (eqo.sa9 h1 (by omega))).tr eqo.sa11
theorem eqo.cl {R : Rf} {mp k n : Nat} (h1 : 32 * mp ≤ k) (h2 : k < 32 * mp + n) (hn : n ≤ 32) : eqo mp R (cl_R R mp k n) :=
  ((eqo.sa11).tr (eqo.dw h1 (by omega))).tr (eqo.sa8 (by omega) (by omega))
theorem op_lt {f : Nat → Int32} {b j n t : Nat} {x : Int32} (h : t < j) : upd (shf f (b + j) (b + n)) (b + j) x (b + t) = f (b + t) := by
  unfold upd shf
  rw [if_neg (show ¬ b + t = b + j by omega), if_pos (show b + t ≤ b + j by omega)]
theorem op_eq {f : Nat → Int32} {b j n : Nat} {x : Int32} : upd (shf f (b + j) (b + n)) (b + j) x (b + j) = x := if_pos rfl
theorem op_gt {f : Nat → Int32} {b j n t : Nat} {x : Int32} (h : j < t) (h2 : t ≤ n) : upd (shf f (b + j) (b + n)) (b + j) x (b + t) = f (b + (t - 1)) := by
  unfold upd shf
  rw [if_neg (show ¬ b + t = b + j by omega), if_neg (show ¬ b + t ≤ b + j by omega), if_pos (show b + t ≤ b + n by omega), show b + t - 1 = b + (t - 1) by omega]
theorem rowR.op {R : Rf} {mp j a b : Nat} {l : List (Nat × Nat)} (h : rowR R mp l) (hl : l.length < 32) (hj : j ≤ l.length) : rowR (op_R R mp (32 * mp + j) l.length (nI a) (nI b)) mp (l.insertIdx j (a, b)) := by
  have hlen : (l.insertIdx j (a, b)).length = l.length + 1 := List.length_insertIdx_of_le_length hj _
  refine ⟨?_, by omega, fun t e he => ?_⟩
  · rw [hlen]
    show upd _ mp _ mp = _
    unfold upd
    rw [if_pos rfl]
  · have hk8 : ∀ q, (op_R R mp (32 * mp + j) l.length (nI a) (nI b)).2.1 8 q = upd (shf (R.2.1 8) (32 * mp + j) (32 * mp + l.length)) (32 * mp + j) (nI a) q := fun q => rfl
    have hk9 : ∀ q, (op_R R mp (32 * mp + j) l.length (nI a) (nI b)).2.1 9 q = upd (shf (R.2.1 9) (32 * mp + j) (32 * mp + l.length)) (32 * mp + j) (nI b) q := fun q => rfl
    rw [hk8, hk9]
    have ht : t < l.length + 1 := by rw [← hlen]; exact (List.getElem?_eq_some_iff.mp he).1
    rw [List.getElem?_insertIdx] at he
    by_cases c1 : t < j
    · rw [if_pos c1] at he
      rw [op_lt c1, op_lt c1]
      exact h.2.2 t e he
    · rw [if_neg c1] at he
      by_cases c2 : t = j
      · subst c2
        rw [if_pos rfl, if_pos hj] at he
        cases he
        rw [op_eq, op_eq]
        exact ⟨rfl, rfl⟩
      · rw [if_neg c2] at he
        rw [op_gt (by omega) (by omega), op_gt (by omega) (by omega)]
        exact h.2.2 (t - 1) e he
theorem cl_lt {f : Nat → Int32} {b j n t : Nat} (h : t < j) : dwn f (b + j) (b + n) (b + t) = f (b + t) := by
  unfold dwn
  rw [if_neg (by omega)]
theorem cl_ge {f : Nat → Int32} {b j n t : Nat} (h : j ≤ t) (h2 : t < n) : dwn f (b + j) (b + n) (b + t) = f (b + (t + 1)) := by
  unfold dwn
  rw [if_pos (by omega), show b + t + 1 = b + (t + 1) by omega]
theorem rowR.cl {R : Rf} {mp j : Nat} {l : List (Nat × Nat)} (h : rowR R mp l) (hj : j < l.length) : rowR (cl_R R mp (32 * mp + j) l.length) mp (l.eraseIdx j) := by
  have hlen : (l.eraseIdx j).length = l.length - 1 := List.length_eraseIdx_of_lt hj
  refine ⟨?_, by have := h.2.1; omega, fun t e he => ?_⟩
  · rw [hlen]
    show upd _ mp _ mp = _
    unfold upd
    rw [if_pos rfl]
  · have ht : t < l.length - 1 := by rw [← hlen]; exact (List.getElem?_eq_some_iff.mp he).1
    have hk8 : ∀ q, q ≠ 32 * mp + (l.length - 1) → (cl_R R mp (32 * mp + j) l.length).2.1 8 q = dwn (R.2.1 8) (32 * mp + j) (32 * mp + (l.length - 1)) q := fun q hq => if_neg hq
    have hk9 : ∀ q, (cl_R R mp (32 * mp + j) l.length).2.1 9 q = dwn (R.2.1 9) (32 * mp + j) (32 * mp + (l.length - 1)) q := fun q => rfl
    rw [hk8 _ (by omega), hk9]
    rw [List.getElem?_eraseIdx] at he
    by_cases c1 : t < j
    · rw [if_pos c1] at he
      rw [cl_lt c1, cl_lt c1]
      exact h.2.2 t e he
    · rw [if_neg c1] at he
      rw [cl_ge (by omega) ht, cl_ge (by omega) ht]
      exact h.2.2 (t + 1) e he

/-! The reference's cells: numbers z (by field), rows of numbers A, rows of truth values B (by field, then place). -/
abbrev Rf : Type := (Nat → Int32) × (Nat → Nat → Int32) × (Nat → Nat → Bool)
abbrev oMo (z : Nat → Int32) (ar : Nat → Nat) : va_E := .inr (10, [.int (z 0), .ref (ar 1), .ref (ar 2), .ref (ar 3), .ref (ar 4), .ref (ar 5), .ref (ar 6), .int (z 7), .ref (ar 8), .ref (ar 9), .ref (ar 10), .ref (ar 11), .int (z 12), .ref (ar 13), .int (z 14), .ref (ar 15), .ref (ar 16), .ref (ar 17)])
def mo_len : Nat → Nat
  | 1 => 32 | 2 => 32 | 3 => 32 | 4 => 32 | 5 => 32 | 6 => 32 | 8 => 160 | 9 => 160 | 10 => 160 | 11 => 5 | 13 => 64 | 15 => 5 | 16 => 5 | 17 => 5 | _ => 0
def mo_i (j : Nat) : Bool := j == 1 || j == 2 || j == 3 || j == 8 || j == 9 || j == 10 || j == 11 || j == 13 || j == 17
def mo_b (j : Nat) : Bool := j == 4 || j == 5 || j == 6 || j == 15 || j == 16
def MoR (ca : Nat → ClassId) (σ : so_S) (mo : Nat) (ar : Nat → Nat) (R : Rf) : Prop :=
  σ mo = some (50, oMo R.1 ar) ∧ (∀ j, mo_i j = true → σ (ar j) = some (50 + j, aI ca (mo_len j) (R.2.1 j))) ∧ (∀ j, mo_b j = true → σ (ar j) = some (50 + j, aZ ca (mo_len j) (fun i => bI (R.2.2 j i))))
/-- what isn't the reference's stays -/
def fM (σ σ1 : so_S) : Prop := ∀ (q : Nat) (x : so_E), σ q = some x → (x.1 < 50 ∨ 70 ≤ x.1) → σ1 q = some x
theorem fM.rf {σ : so_S} : fM σ σ := fun _ _ h _ => h
theorem fM.tr {a b c : so_S} (h : fM a b) (h2 : fM b c) : fM a c := fun q x hq hx => h2 q x (h q x hq hx) hx
theorem fM.up {σ σ1 : so_S} (h : fM σ σ1) {a : Nat} {x y : so_E} (ha : σ1 a = some x) (h1 : 50 ≤ x.1 ∧ x.1 < 70) : fM σ (so_up σ1 a y) := by
  intro q w hq hw
  have h2 := h q w hq hw
  rw [so_un (so_ne h2 ha (by omega))]
  exact h2
def sz (R : Rf) (k : Nat) (x : Int32) : Rf := (va_up R.1 k x, R.2)
def sa (R : Rf) (j i : Nat) (x : Int32) : Rf := (R.1, va_up R.2.1 j (upd (R.2.1 j) i x), R.2.2)
def sbb (R : Rf) (j i : Nat) (x : Bool) : Rf := (R.1, R.2.1, va_up R.2.2 j (va_up (R.2.2 j) i x))
theorem mo_i_r {j : Nat} (h : mo_i j = true) : 1 ≤ j ∧ j < 20 := by
  simp only [mo_i, Bool.or_eq_true, beq_iff_eq] at h
  omega
theorem mo_b_r {j : Nat} (h : mo_b j = true) : 1 ≤ j ∧ j < 20 := by
  simp only [mo_b, Bool.or_eq_true, beq_iff_eq] at h
  omega
theorem mo_ib {j k : Nat} (h : mo_i j = true) (h2 : mo_b k = true) : j ≠ k := by
  simp only [mo_i, mo_b, Bool.or_eq_true, beq_iff_eq] at h h2
  omega
section MO1
variable {ca : Nat → ClassId} {σ : so_S} {mo : Nat} {ar : Nat → Nat} {R : Rf}
theorem MoR.up_a (M : MoR ca σ mo ar R) (j i : Nat) (x : Int32) (hj : mo_i j = true) : MoR ca (so_up σ (ar j) (50 + j, aI ca (mo_len j) (upd (R.2.1 j) i x))) mo ar (sa R j i x) := by
  have hA := M.2.1 j hj
  have hr := mo_i_r hj
  refine ⟨?_, fun k hk => ?_, fun k hk => ?_⟩
  · rw [so_un (so_ne M.1 hA (by show 50 ≠ 50 + j; omega))]
    exact M.1
  · by_cases e : k = j
    · subst e
      rw [so_us]
      show _ = some (50 + k, aI ca (mo_len k) (va_up R.2.1 k (upd (R.2.1 k) i x) k))
      rw [va_up_self]
    · rw [so_un (so_ne (M.2.1 k hk) hA (by show 50 + k ≠ 50 + j; omega))]
      show _ = some (50 + k, aI ca (mo_len k) (va_up R.2.1 j (upd (R.2.1 j) i x) k))
      rw [va_up_ne _ _ e]
      exact M.2.1 k hk
  · have e := mo_ib hj hk
    rw [so_un (so_ne (M.2.2 k hk) hA (by show 50 + k ≠ 50 + j; omega))]
    exact M.2.2 k hk
theorem MoR.up_b (M : MoR ca σ mo ar R) (j i : Nat) (x : Bool) (hj : mo_b j = true) : MoR ca (so_up σ (ar j) (50 + j, aZ ca (mo_len j) (upd (fun i => bI (R.2.2 j i)) i (bI x)))) mo ar (sbb R j i x) := by
  have hA := M.2.2 j hj
  have hr := mo_b_r hj
  refine ⟨?_, fun k hk => ?_, fun k hk => ?_⟩
  · rw [so_un (so_ne M.1 hA (by show 50 ≠ 50 + j; omega))]
    exact M.1
  · have e := mo_ib hk hj
    rw [so_un (so_ne (M.2.1 k hk) hA (by show 50 + k ≠ 50 + j; omega))]
    exact M.2.1 k hk
  · by_cases e : k = j
    · subst e
      rw [so_us]
      show _ = some (50 + k, aZ ca (mo_len k) (fun q => bI (va_up R.2.2 k (va_up (R.2.2 k) i x) k q)))
      rw [va_up_self]
      congr 4
      funext q
      simp only [upd, va_up]
      split <;> rfl
    · rw [so_un (so_ne (M.2.2 k hk) hA (by show 50 + k ≠ 50 + j; omega))]
      show _ = some (50 + k, aZ ca (mo_len k) (fun q => bI (va_up R.2.2 j (va_up (R.2.2 j) i x) k q)))
      rw [va_up_ne _ _ e]
      exact M.2.2 k hk
theorem MoR.up_z (M : MoR ca σ mo ar R) (k : Nat) (x : Int32) : MoR ca (so_up σ mo (50, oMo (va_up R.1 k x) ar)) mo ar (sz R k x) := by
  refine ⟨so_us, fun j hj => ?_, fun j hj => ?_⟩
  · have hr := mo_i_r hj
    rw [so_un (so_ne (M.2.1 j hj) M.1 (by show 50 + j ≠ 50; omega))]
    exact M.2.1 j hj
  · have hr := mo_b_r hj
    rw [so_un (so_ne (M.2.2 j hj) M.1 (by show 50 + j ≠ 50; omega))]
    exact M.2.2 j hj
end MO1

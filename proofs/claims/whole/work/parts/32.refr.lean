/-! The reference's cells tied to the model: objects (al, va, rt, rf), the rows (w, so with uses us, la), slots sl, places pv, numbers, walks. -/
def rI (x : Option Nat) : Int32 := match x with
  | none => -1
  | some j => nI j
def cn {α : Type} (f : Nat → Option α) : Nat → Nat
  | 0 => 0
  | n + 1 => cn f n + if (f n).isSome = true then 1 else 0
def obR (R : Rf) (al : Nat → Bool) (va : Nat → Nat) (rt : Nat → Bool) (rf : Nat → Nat → Option Nat) : Prop := ∀ i, i < 32 → R.2.2 4 i = al i ∧ (al i = true → R.2.1 1 i = nI (va i) ∧ R.2.2 5 i = rt i ∧ R.2.1 2 i = rI (rf i 0) ∧ R.2.1 3 i = rI (rf i 1))
def ppR (R : Rf) (v : Nat) (x : Option Nat) : Prop := match x with
  | none => R.2.1 8 (96 + v) < 0
  | some y => R.2.1 8 (96 + v) = nI v ∧ R.2.1 9 (96 + v) = nI y
def plR (R : Rf) (pv : Nat → Option Nat) : Prop := ∀ v, v < 8 → ppR R v (pv v)
def wkR (R : Rf) (wk wb : Nat → Bool) (wa : Nat → Nat) : Prop := ∀ k, k < 5 → R.2.2 15 k = wk k ∧ R.2.2 16 k = wb k ∧ R.2.1 17 k = nI (wa k)
abbrev Obs : Type := (Nat → Bool) × (Nat → Nat) × (Nat → Bool) × (Nat → Nat → Option Nat)
abbrev Mps : Type := List (Nat × Nat) × (List (Nat × Nat) × List Nat) × (Nat → Option (Nat × Nat)) × (Nat → Option Nat) × List (Nat × Nat)
abbrev Nms : Type := Nat × Nat × Nat
abbrev Wks : Type := (Nat → Bool) × (Nat → Bool) × (Nat → Nat)
/-- the rows -/
def mpR (R : Rf) (q : Mps) : Prop := rowR R 0 q.1 ∧ (rowR R 1 q.2.1.1 ∧ useR R q.2.1.2 ∧ q.2.1.2.length = q.2.1.1.length) ∧ (idR R q.2.2.1 ∧ R.2.1 11 2 = nI (cn q.2.2.1 16)) ∧ (plR R q.2.2.2.1 ∧ R.2.1 11 3 = nI (cn q.2.2.2.1 8)) ∧ rowR R 4 q.2.2.2.2
/-- buckets, time, collected -/
def nuR (R : Rf) (q : Nms) : Prop := R.1 12 = nI q.1 ∧ R.1 14 = nI q.2.1 ∧ R.1 7 = nI q.2.2
def refR (R : Rf) (o : Obs) (q : Mps) (n : Nms) (k : Wks) : Prop := obR R o.1 o.2.1 o.2.2.1 o.2.2.2 ∧ mpR R q ∧ nuR R n ∧ wkR R k.1 k.2.1 k.2.2
theorem is_al {R : Rf} {o : Obs} (h : obR R o.1 o.2.1 o.2.2.1 o.2.2.2) {j : Nat} (hj : j < 32) : is_O R (nI j) = o.1 j := by rw [is_nI hj, (h j hj).1]
/-- is x the number of an object of the model? -/
def al_O (o : Obs) (x : Int32) : Bool := if x < 0 then false else if 32 ≤ x then false else o.1 x.toNatClampNeg
theorem is_al2 {R : Rf} {o : Obs} (h : obR R o.1 o.2.1 o.2.2.1 o.2.2.2) (x : Int32) : is_O R x = al_O o x := by
  unfold is_O al_O
  split
  · rfl
  · rename_i h0
    split
    · rfl
    · rename_i h1
      obtain ⟨j, hj, rfl⟩ := ix_in (n := 32) (M := 32) (by decide) rfl h0 h1
      rw [nI_clamp (by omega)]
      exact (h j hj).1
theorem al_nI {o : Obs} {j : Nat} (h : j < 32) : al_O o (nI j) = o.1 j := by
  unfold al_O
  rw [if_neg (nI_pos (by omega)), if_neg (show ¬ (32 : Int32) ≤ nI j from nI_ge (b := 32) h (by decide)), nI_clamp (by omega)]
theorem al_cases {o : Obs} {x : Int32} (h : al_O o x = true) : ∃ j : Nat, j < 32 ∧ x = nI j ∧ o.1 j = true := by
  unfold al_O at h
  split at h
  · cases h
  · rename_i h0
    split at h
    · cases h
    · rename_i h1
      obtain ⟨j, hj, rfl⟩ := ix_in (n := 32) (M := 32) (by decide) rfl h0 h1
      rw [nI_clamp (by omega)] at h
      exact ⟨j, hj, rfl, h⟩
/-- a number outside the tied ones changes nothing -/
theorem refR.s0 {R : Rf} {o : Obs} {q : Mps} {n : Nms} {k : Wks} (h : refR R o q n k) (x : Int32) : refR (sz R 0 x) o q n k := ⟨h.1, h.2.1, h.2.2.1, h.2.2.2⟩
theorem agr.ob {k : Nat} {R R1 : Rf} {o : Obs} (h : agr k R R1) (hB : ∀ j, j ≠ 16 → R1.2.2 j = R.2.2 j) (ho : obR R o.1 o.2.1 o.2.2.1 o.2.2.2) : obR R1 o.1 o.2.1 o.2.2.1 o.2.2.2 := by
  intro i hi
  rw [hB 4 (by decide), hB 5 (by decide), h.1 1 (by decide) (by decide) (by decide) (by decide) (by decide), h.1 2 (by decide) (by decide) (by decide) (by decide) (by decide), h.1 3 (by decide) (by decide) (by decide) (by decide) (by decide)]
  exact ho i hi
theorem agr.use {k : Nat} {R R1 : Rf} {u : List Nat} (h : agr k R R1) (hk : k ≠ 1) (hl : u.length ≤ 32) (hu : useR R u) : useR R1 u := fun j x hx => by
  have hj := (List.getElem?_eq_some_iff.mp hx).1
  rw [(h.2.1 (32 + j) (by omega)).2.2]
  exact hu j x hx
theorem agr.id {k : Nat} {R R1 : Rf} {sl : Nat → Option (Nat × Nat)} (h : agr k R R1) (hk : k ≠ 2) (hi : idR R sl) : idR R1 sl := fun s hs => by
  have h1 := h.2.1 (64 + s) (by omega)
  have h2 := hi s hs
  unfold slR at h2 ⊢
  rw [h1.1, h1.2.1]
  exact h2
theorem agr.pl {k : Nat} {R R1 : Rf} {pv : Nat → Option Nat} (h : agr k R R1) (hk : k ≠ 3) (hi : plR R pv) : plR R1 pv := fun s hs => by
  have h1 := h.2.1 (96 + s) (by omega)
  have h2 := hi s hs
  unfold ppR at h2 ⊢
  rw [h1.1, h1.2.1]
  exact h2
theorem agr.wk {k : Nat} {R R1 : Rf} {wk wb : Nat → Bool} {wa : Nat → Nat} (h : agr k R R1) {b : Bool} {mp : Nat} (hB : R1.2.2 = (sbb R 16 mp b).2.2) (hw : wkR R wk wb wa) : wkR R1 wk (va_up wb mp b) wa := by
  intro i hi
  have h2 := hw i hi
  rw [hB, h.1 17 (by decide) (by decide) (by decide) (by decide) (by decide)]
  refine ⟨h2.1, ?_, h2.2.2⟩
  show va_up (R.2.2 16) mp b i = va_up wb mp b i
  unfold va_up
  split
  · rfl
  · exact h2.2.1
theorem agr.wk2 {k : Nat} {R R1 : Rf} {wk wb : Nat → Bool} {wa : Nat → Nat} (h : agr k R R1) (hB : R1.2.2 = R.2.2) (hw : wkR R wk wb wa) : wkR R1 wk wb wa := by
  intro i hi
  rw [hB, h.1 17 (by decide) (by decide) (by decide) (by decide) (by decide)]
  exact hw i hi

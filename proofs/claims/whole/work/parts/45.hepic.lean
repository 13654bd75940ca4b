/-! The class's objects: Heap he, its things th, the held ones ho; a thing i at ad i with its row of references. -/
abbrev Hx : Type := (Nat → Option (Nat × Nat)) × (Nat → Int32) × (Nat → Bool) × (Nat → Bool) × (Nat → Nat → Int32) × (Nat → Int32) × Int32 × Int32
abbrev Hx.ad (X : Hx) : Nat → Option (Nat × Nat) := X.1
abbrev Hx.va (X : Hx) : Nat → Int32 := X.2.1
abbrev Hx.rt (X : Hx) : Nat → Bool := X.2.2.1
abbrev Hx.hd (X : Hx) : Nat → Bool := X.2.2.2.1
abbrev Hx.rr (X : Hx) : Nat → Nat → Int32 := X.2.2.2.2.1
abbrev Hx.g (X : Hx) : Nat → Int32 := X.2.2.2.2.2.1
abbrev Hx.hc (X : Hx) : Int32 := X.2.2.2.2.2.2.1
abbrev Hx.cd (X : Hx) : Int32 := X.2.2.2.2.2.2.2
def Hx.wn (X : Hx) (hc cd : Int32) : Hx := (X.ad, X.va, X.rt, X.hd, X.rr, X.g, hc, cd)
def Hx.wg (X : Hx) (g : Nat → Int32) : Hx := (X.ad, X.va, X.rt, X.hd, X.rr, g, X.hc, X.cd)
def Hx.wt (X : Hx) (i : Nat) (rt hd : Bool) : Hx := (X.ad, X.va, va_up X.rt i rt, va_up X.hd i hd, X.rr, X.g, X.hc, X.cd)
def Hx.wr (X : Hx) (i : Nat) (r : Nat → Int32) : Hx := (X.ad, X.va, X.rt, X.hd, va_up X.rr i r, X.g, X.hc, X.cd)
def Hx.w0 (X : Hx) (i : Nat) : Hx := (va_up X.ad i none, X.va, X.rt, X.hd, X.rr, X.g, X.hc, X.cd)
def Hx.f (X : Hx) (i : Nat) : Option Nat := (X.ad i).map Prod.fst
abbrev Hx.th (X : Hx) (i : Nat) (a : Nat × Nat) : so_E := (100 + i, oTh (X.va i) a.2 (bI (X.rt i)) (bI (X.hd i)))
def HeR (ca : Nat → ClassId) (σ : so_S) (he th ho : Nat) (X : Hx) : Prop :=
  σ he = some (1, oHe th ho X.hc X.cd) ∧ σ th = some (2, aR ca 3 32 X.f) ∧ σ ho = some (3, aI ca 32 X.g) ∧ ∀ i a, i < 32 → X.ad i = some a → σ a.1 = some (X.th i a) ∧ σ a.2 = some (200 + i, aI ca 2 (X.rr i))
/-- the tags of the heap's cells -/
def tH (t : Nat) : Prop := t = 1 ∨ t = 2 ∨ t = 3 ∨ (100 ≤ t ∧ t < 132) ∨ (200 ≤ t ∧ t < 232)
/-- what isn't the heap's stays -/
def fH (σ σ1 : so_S) : Prop := ∀ (q : Nat) (x : so_E), σ q = some x → ¬ tH x.1 → σ1 q = some x
theorem fH.rf {σ : so_S} : fH σ σ := fun _ _ h _ => h
theorem fH.tr {a b c : so_S} (h : fH a b) (h2 : fH b c) : fH a c := fun q x hq hx => h2 q x (h q x hq hx) hx
theorem fH.up {σ σ1 : so_S} (h : fH σ σ1) {a : Nat} {x y : so_E} (ha : σ1 a = some x) (h1 : tH x.1) : fH σ (so_up σ1 a y) := by
  intro q w hq hw
  have h2 := h q w hq hw
  rw [so_un (so_ne h2 ha (fun e => hw (e ▸ h1)))]
  exact h2
theorem fH.nw {σ σ1 : so_S} (h : fH σ σ1) {a : Nat} {y : so_E} (ha : σ1 a = none) : fH σ (so_up σ1 a y) := by
  intro q w hq hw
  have h2 := h q w hq hw
  rw [so_un (fun e => by rw [e, ha] at h2; cases h2)]
  exact h2
section HE1
variable {ca : Nat → ClassId} {σ : so_S} {he th ho : Nat} {X : Hx}
theorem HeR.f_some (_ : HeR ca σ he th ho X) {i q : Nat} (h : X.f i = some q) : ∃ a, X.ad i = some a ∧ a.1 = q := by
  unfold Hx.f at h
  cases hx : X.ad i with
  | none => rw [hx] at h; cases h
  | some a => rw [hx] at h; cases h; exact ⟨a, rfl, rfl⟩
theorem HeR.thing (M : HeR ca σ he th ho X) {i q : Nat} (hi : i < 32) (h : X.f i = some q) : ∃ a, X.ad i = some a ∧ a.1 = q ∧ σ q = some (X.th i a) ∧ σ a.2 = some (200 + i, aI ca 2 (X.rr i)) := by
  obtain ⟨a, h1, rfl⟩ := M.f_some h
  exact ⟨a, h1, rfl, M.2.2.2 i a hi h1⟩
/-- the heap's own numbers -/
theorem HeR.up_n (M : HeR ca σ he th ho X) (hc cd : Int32) : HeR ca (so_up σ he (1, oHe th ho hc cd)) he th ho (X.wn hc cd) := by
  refine ⟨so_us, ?_, ?_, fun i a hi ha => ?_⟩
  · rw [so_un (so_ne M.2.1 M.1 (show 2 ≠ 1 by decide))]; exact M.2.1
  · rw [so_un (so_ne M.2.2.1 M.1 (show 3 ≠ 1 by decide))]; exact M.2.2.1
  · obtain ⟨h1, h2⟩ := M.2.2.2 i a hi ha
    rw [so_un (so_ne h1 M.1 (show 100 + i ≠ 1 by omega)), so_un (so_ne h2 M.1 (show 200 + i ≠ 1 by omega))]
    exact ⟨h1, h2⟩
theorem HeR.up_g (M : HeR ca σ he th ho X) (g : Nat → Int32) : HeR ca (so_up σ ho (3, aI ca 32 g)) he th ho (X.wg g) := by
  refine ⟨?_, ?_, so_us, fun i a hi ha => ?_⟩
  · rw [so_un (so_ne M.1 M.2.2.1 (show 1 ≠ 3 by decide))]; exact M.1
  · rw [so_un (so_ne M.2.1 M.2.2.1 (show 2 ≠ 3 by decide))]; exact M.2.1
  · obtain ⟨h1, h2⟩ := M.2.2.2 i a hi ha
    rw [so_un (so_ne h1 M.2.2.1 (show 100 + i ≠ 3 by omega)), so_un (so_ne h2 M.2.2.1 (show 200 + i ≠ 3 by omega))]
    exact ⟨h1, h2⟩
/-- a thing's two truth values -/
theorem HeR.up_t (M : HeR ca σ he th ho X) {i : Nat} {a : Nat × Nat} (hi : i < 32) (ha : X.ad i = some a) (rt hd : Bool) : HeR ca (so_up σ a.1 (100 + i, oTh (X.va i) a.2 (bI rt) (bI hd))) he th ho (X.wt i rt hd) := by
  have h0 := (M.2.2.2 i a hi ha).1
  refine ⟨?_, ?_, ?_, fun k b hk hb => ?_⟩
  · rw [so_un (so_ne M.1 h0 (show 1 ≠ 100 + i by omega))]; exact M.1
  · rw [so_un (so_ne M.2.1 h0 (show 2 ≠ 100 + i by omega))]; exact M.2.1
  · rw [so_un (so_ne M.2.2.1 h0 (show 3 ≠ 100 + i by omega))]; exact M.2.2.1
  · obtain ⟨h1, h2⟩ := M.2.2.2 k b hk hb
    rw [so_un (so_ne h2 h0 (show 200 + k ≠ 100 + i by omega))]
    refine ⟨?_, h2⟩
    show _ = some (100 + k, oTh (X.va k) b.2 (bI (va_up X.rt i rt k)) (bI (va_up X.hd i hd k)))
    by_cases e : k = i
    · subst e
      have hb : X.ad k = some b := hb
      rw [ha] at hb
      cases hb
      rw [so_us, va_up_self, va_up_self]
    · rw [so_un (so_ne h1 h0 (show 100 + k ≠ 100 + i by omega)), va_up_ne _ _ e, va_up_ne _ _ e]
      exact h1
/-- a thing's references -/
theorem HeR.up_r (M : HeR ca σ he th ho X) {i : Nat} {a : Nat × Nat} (hi : i < 32) (ha : X.ad i = some a) (r : Nat → Int32) : HeR ca (so_up σ a.2 (200 + i, aI ca 2 r)) he th ho (X.wr i r) := by
  have h0 := (M.2.2.2 i a hi ha).2
  refine ⟨?_, ?_, ?_, fun k b hk hb => ?_⟩
  · rw [so_un (so_ne M.1 h0 (show 1 ≠ 200 + i by omega))]; exact M.1
  · rw [so_un (so_ne M.2.1 h0 (show 2 ≠ 200 + i by omega))]; exact M.2.1
  · rw [so_un (so_ne M.2.2.1 h0 (show 3 ≠ 200 + i by omega))]; exact M.2.2.1
  · obtain ⟨h1, h2⟩ := M.2.2.2 k b hk hb
    rw [so_un (so_ne h1 h0 (show 100 + k ≠ 200 + i by omega))]
    refine ⟨h1, ?_⟩
    show _ = some (200 + k, aI ca 2 (va_up X.rr i r k))
    by_cases e : k = i
    · subst e
      have hb : X.ad k = some b := hb
      rw [ha] at hb
      cases hb
      rw [so_us, va_up_self]
    · rw [so_un (so_ne h2 h0 (show 200 + k ≠ 200 + i by omega)), va_up_ne _ _ e]
      exact h2
/-- a thing goes -/
theorem HeR.up_0 (M : HeR ca σ he th ho X) (i : Nat) : HeR ca (so_up σ th (2, aR ca 3 32 (va_up X.f i none))) he th ho (X.w0 i) := by
  refine ⟨?_, ?_, ?_, fun k b hk hb => ?_⟩
  · rw [so_un (so_ne M.1 M.2.1 (show 1 ≠ 2 by decide))]; exact M.1
  · rw [so_us]
    have e : va_up X.f i none = Hx.f (X.w0 i) := by
      funext k
      show va_up X.f i none k = (va_up X.ad i none k).map Prod.fst
      unfold va_up
      split <;> rfl
    rw [e]
  · rw [so_un (so_ne M.2.2.1 M.2.1 (show 3 ≠ 2 by decide))]; exact M.2.2.1
  · have hb : va_up X.ad i none k = some b := hb
    have e : k ≠ i := fun e => by rw [e, va_up_self] at hb; cases hb
    rw [va_up_ne _ _ e] at hb
    obtain ⟨h1, h2⟩ := M.2.2.2 k b hk hb
    rw [so_un (so_ne h1 M.2.1 (show 100 + k ≠ 2 by omega)), so_un (so_ne h2 M.2.1 (show 200 + k ≠ 2 by omega))]
    exact ⟨h1, h2⟩
end HE1

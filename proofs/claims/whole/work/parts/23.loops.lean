/-! Loops: by a number that falls; the machine's goal is found by unification. -/
theorem so_lp {α : Type} {Wf : Array Slot → Heap → List Loc → so_S → α → Prop} (I : Nat → Array Slot → Heap → List Loc → so_S → α → Prop)
    (hs : ∀ (n : Nat) (ls : Array Slot) (H : Heap) (locs : List Loc) (σ : so_S) (a : α), I n ls H locs σ a → (∀ (n1 : Nat) (ls1 : Array Slot) (H1 : Heap) (locs1 : List Loc) (σ1 : so_S) (a1 : α), n1 < n → I n1 ls1 H1 locs1 σ1 a1 → Wf ls1 H1 locs1 σ1 a1) → Wf ls H locs σ a) :
    ∀ (n : Nat) (ls : Array Slot) (H : Heap) (locs : List Loc) (σ : so_S) (a : α), I n ls H locs σ a → Wf ls H locs σ a := by
  intro n
  induction n using Nat.strongRecOn with
  | ind n ih => exact fun ls H locs σ a h => hs n ls H locs σ a h (fun n1 ls1 H1 locs1 σ1 a1 hn h1 => ih n1 hn ls1 H1 locs1 σ1 a1 h1)
theorem so_lpR {α : Type} {Wf : Array Slot → α → Prop} (I : Nat → Array Slot → α → Prop)
    (hs : ∀ (n : Nat) (ls : Array Slot) (a : α), I n ls a → (∀ (n1 : Nat) (ls1 : Array Slot) (a1 : α), n1 < n → I n1 ls1 a1 → Wf ls1 a1) → Wf ls a) :
    ∀ (n : Nat) (ls : Array Slot) (a : α), I n ls a → Wf ls a := by
  intro n
  induction n using Nat.strongRecOn with
  | ind n ih => exact fun ls a h => hs n ls a h (fun n1 ls1 a1 hn h1 => ih n1 hn ls1 a1 h1)
/-- what the machine stands on in a loop of the reference's -/
def mo_I (ca : Nat → ClassId) (D : va_G) (s0 s : State) (mo : Nat) (ar : Nat → Nat) (σ0 : so_S) (ls : Array Slot) (nL : Nat) (lv : List (Nat × Value)) (H : Heap) (locs : List Loc) (σ : so_S) (R : Rf) : Prop :=
  lv_has ls nL lv ∧ so_P D vcl s0.heap.size σ H ∧ va_S (so_A s0.heap.size) s.heap H locs ∧ MoR ca σ mo ar R ∧ fM σ0 σ

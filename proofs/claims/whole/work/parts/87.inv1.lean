/-! The model's invariant: rows without doubles. -/
theorem nd_le : ∀ (n : Nat) {l : List Nat}, l.Nodup → (∀ x ∈ l, x < n) → l.length ≤ n
  | 0, l, _, h => by
    cases l with
    | nil => exact Nat.le_refl _
    | cons x l => exact absurd (h x List.mem_cons_self) (Nat.not_lt_zero _)
  | n + 1, l, hd, h => by
    by_cases hn : n ∈ l
    · have h1 := nd_le n (hd.erase n) (fun x hx => by
        have h2 := h x (List.mem_of_mem_erase hx)
        have h3 : x ≠ n := (hd.mem_erase_iff.mp hx).1
        omega)
      rw [List.length_erase_of_mem hn] at h1
      omega
    · have h1 := nd_le n hd (fun x hx => by
        have h2 := h x hx
        have h3 : x ≠ n := fun e => hn (e ▸ hx)
        omega)
      omega
/-- the keys' VALUES of a row -/
abbrev vk (o : Obs) (l : List (Nat × Nat)) : List Nat := l.map (fun e => o.2.1 e.1)
theorem nd_ix {α : Type} : ∀ {l : List α}, l.Nodup ↔ ∀ (i j : Nat) (a : α), l[i]? = some a → l[j]? = some a → i = j
  | [] => ⟨fun _ i j a h => by simp at h, fun _ => List.nodup_nil⟩
  | x :: l => by
    rw [List.nodup_cons, nd_ix]
    constructor
    · rintro ⟨h1, h2⟩ i j a hi hj
      cases i with
      | zero =>
        have e1 : a = x := by simpa using hi.symm
        subst e1
        cases j with
        | zero => rfl
        | succ j => exact absurd (List.mem_of_getElem? (show l[j]? = some a from hj)) h1
      | succ i =>
        cases j with
        | zero =>
          have e1 : a = x := by simpa using hj.symm
          subst e1
          exact absurd (List.mem_of_getElem? (show l[i]? = some a from hi)) h1
        | succ j => rw [h2 i j a hi hj]
    · intro h
      refine ⟨fun hm => ?_, fun i j a hi hj => ?_⟩
      · obtain ⟨j, hj⟩ := List.mem_iff_getElem?.mp hm
        exact absurd (h 0 (j + 1) x rfl hj) (by omega)
      · have := h (i + 1) (j + 1) a hi hj
        omega
theorem nd_of {α β : Type} {f : α → β} {l : List α} (h : (l.map f).Nodup) : l.Nodup := by
  rw [nd_ix] at h ⊢
  intro i j a hi hj
  exact h i j (f a) (by rw [List.getElem?_map, hi]; rfl) (by rw [List.getElem?_map, hj]; rfl)
theorem unR_nd {o : Obs} {l : List (Nat × Nat)} : unR o l ↔ (vk o l).Nodup := by
  rw [nd_ix]
  constructor
  · intro h i j a hi hj
    rw [List.getElem?_map] at hi hj
    obtain ⟨x, hx, hx2⟩ := Option.map_eq_some_iff.mp hi
    obtain ⟨y, hy, hy2⟩ := Option.map_eq_some_iff.mp hj
    exact h i j x y hx hy (hx2.trans hy2.symm)
  · intro h i j a b ha hb hab
    exact h i j (o.2.1 a.1) (by rw [List.getElem?_map, ha]; rfl) (by rw [List.getElem?_map, hb]; show some (o.2.1 b.1) = _; rw [hab])
theorem ky_nd {o : Obs} {l : List (Nat × Nat)} (h : unR o l) : (l.map (fun e => e.1)).Nodup := by
  rw [unR_nd] at h
  have e1 : vk o l = (l.map (fun e => e.1)).map o.2.1 := by rw [List.map_map]; rfl
  rw [e1] at h
  exact nd_of h
theorem row_le {o : Obs} {l : List (Nat × Nat)} (h : okR o l) (hu : unR o l) : l.length ≤ 32 := by
  have h1 := nd_le 32 (ky_nd hu) (fun x hx => by
    obtain ⟨e, he, rfl⟩ := List.mem_map.mp hx
    exact (h e he).1.1)
  rw [List.length_map] at h1
  exact h1
theorem row_lt {o : Obs} {l : List (Nat × Nat)} (h : okR o l) (hu : unR o l) {key : Nat} (hk : key < 32) (hno : ∀ (j : Nat) (e : Nat × Nat), ¬ (l[j]? = some e ∧ o.2.1 e.1 = o.2.1 key)) : l.length < 32 := by
  have hnd : (key :: l.map (fun e => e.1)).Nodup := List.nodup_cons.mpr ⟨fun hm => by
    obtain ⟨e, he, e1⟩ := List.mem_map.mp hm
    obtain ⟨j, hj⟩ := List.mem_iff_getElem?.mp he
    exact hno j e ⟨hj, by rw [e1]⟩, ky_nd hu⟩
  have h1 := nd_le 32 hnd (fun x hx => by
    rcases List.mem_cons.mp hx with rfl | hx
    · exact hk
    · obtain ⟨e, he, rfl⟩ := List.mem_map.mp hx
      exact (h e he).1.1)
  rw [List.length_cons, List.length_map] at h1
  omega
theorem ins_perm {α : Type} {a : α} : ∀ {l : List α} {j : Nat}, j ≤ l.length → (l.insertIdx j a).Perm (a :: l)
  | l, 0, _ => List.Perm.refl _
  | [], j + 1, h => absurd h (by simp)
  | x :: l, j + 1, h => by
    rw [List.insertIdx_succ_cons]
    exact ((ins_perm (by simpa using h)).cons x).trans (List.Perm.swap _ _ _)
theorem insB_perm {b : Nat → Int32} {w : List (Nat × Nat)} {e : Nat × Nat} : (ins_B b w e).Perm (e :: w) := ins_perm (tw_le _ _)
theorem foB_perm {b : Nat → Int32} : ∀ (w acc : List (Nat × Nat)), (w.foldl (ins_B b) acc).Perm (w ++ acc)
  | [], acc => List.Perm.refl _
  | e :: w, acc => by
    rw [List.foldl_cons]
    refine (foB_perm w _).trans ?_
    refine (insB_perm.append_left w).trans ?_
    exact List.perm_middle
theorem reB_perm {b : Nat → Int32} {w : List (Nat × Nat)} : (re_B b w).Perm w := by
  have := foB_perm (b := b) w []
  rw [List.append_nil] at this
  exact this
theorem wkn_perm {b b2 : Nat → Int32} {bk : Nat} {w : List (Nat × Nat)} {e : Nat × Nat} : (wk_n b b2 bk w e).Perm (e :: w) := by
  unfold wk_n
  split
  · exact reB_perm.trans insB_perm
  · exact insB_perm
theorem okR.perm {o : Obs} {l l2 : List (Nat × Nat)} (h : okR o l) (hp : l2.Perm l) : okR o l2 := fun e he => h e (hp.mem_iff.mp he)
theorem unR.perm {o : Obs} {l l2 : List (Nat × Nat)} (h : unR o l) (hp : l2.Perm l) : unR o l2 := unR_nd.mpr ((hp.map _).nodup_iff.mpr (unR_nd.mp h))
theorem okR.cons {o : Obs} {l : List (Nat × Nat)} {key val : Nat} (h : okR o l) (hk : key < 32) (hka : o.1 key = true) (hv : val < 32) (hva : o.1 val = true) : okR o ((key, val) :: l) := fun e he => by
  rcases List.mem_cons.mp he with rfl | he
  · exact ⟨⟨hk, hka⟩, hv, hva⟩
  · exact h e he
theorem unR.cons {o : Obs} {l : List (Nat × Nat)} {key val : Nat} (h : unR o l) (hno : ∀ (j : Nat) (e : Nat × Nat), ¬ (l[j]? = some e ∧ o.2.1 e.1 = o.2.1 key)) : unR o ((key, val) :: l) := by
  rw [unR_nd] at h ⊢
  refine List.nodup_cons.mpr ⟨fun hm => ?_, h⟩
  obtain ⟨e, he, e1⟩ := List.mem_map.mp hm
  obtain ⟨j, hj⟩ := List.mem_iff_getElem?.mp he
  exact hno j e ⟨hj, e1⟩
theorem okR.sub {o : Obs} {l l2 : List (Nat × Nat)} (h : okR o l) (hs : l2.Sublist l) : okR o l2 := fun e he => h e (hs.mem he)
theorem unR.sub {o : Obs} {l l2 : List (Nat × Nat)} (h : unR o l) (hs : l2.Sublist l) : unR o l2 := unR_nd.mpr ((hs.map _).nodup (unR_nd.mp h))
/-- the same keys, other values -/
theorem okR.set {o : Obs} {l : List (Nat × Nat)} {j : Nat} {e : Nat × Nat} {val : Nat} (h : okR o l) (hj : l[j]? = some e) (hv : val < 32) (hva : o.1 val = true) : okR o (l.set j (e.1, val)) := fun x hx => by
  rcases List.mem_or_eq_of_mem_set hx with h1 | h1
  · exact h x h1
  · rw [h1]
    exact ⟨(h e (List.mem_of_getElem? hj)).1, hv, hva⟩
theorem unR.set {o : Obs} {l : List (Nat × Nat)} {j : Nat} {e : Nat × Nat} {val : Nat} (h : unR o l) (hj : l[j]? = some e) : unR o (l.set j (e.1, val)) := by
  rw [unR_nd] at h ⊢
  have e1 : vk o (l.set j (e.1, val)) = vk o l := by
    apply List.ext_getElem?
    intro i
    rw [List.getElem?_map, List.getElem?_map, List.getElem?_set]
    split
    · rename_i e2
      subst e2
      rw [hj]
      split
      · rfl
      · rename_i h3
        exact absurd (List.getElem?_eq_some_iff.mp hj).1 h3
    · rfl
  rw [e1]
  exact h
theorem er_perm {α : Type} {a : α} : ∀ {l : List α} {j : Nat}, l[j]? = some a → (a :: l.eraseIdx j).Perm l
  | [], _, h => by cases h
  | x :: l, 0, h => by cases h; exact List.Perm.refl _
  | x :: l, j + 1, h => by
    have h1 : l[j]? = some a := h
    exact (List.Perm.swap _ _ _).trans ((er_perm h1).cons x)
theorem mv_perm {α : Type} {a : α} {l : List α} {j : Nat} (h : l[j]? = some a) : (l.eraseIdx j ++ [a]).Perm l := (List.perm_append_comm).trans (er_perm h)

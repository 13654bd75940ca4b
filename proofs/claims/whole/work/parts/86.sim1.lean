/-! The class's maps and the model's: lists of places; entries as pairs. -/
abbrev kv (x : En) : Nat × Nat := (x.2.1, x.2.2.2.1)
abbrev us (x : En) : Nat := x.2.2.2.2
def plL (pv : Nat → Option Nat) : Nat → List (Nat × Nat)
  | 0 => []
  | n + 1 => plL pv n ++ ((pv n).map (fun x => (n, x))).toList
theorem plL_len {pv : Nat → Option Nat} : ∀ n, (plL pv n).length = cn pv n
  | 0 => rfl
  | n + 1 => by
    unfold plL cn
    rw [List.length_append, plL_len n]
    cases pv n <;> rfl
theorem cn_s {α : Type} {f : Nat → Option α} {v : Nat} {x : α} (h : f v = some x) : cn f (v + 1) = cn f v + 1 := by
  show cn f v + _ = _
  rw [h]
  rfl
theorem plL_at {pv : Nat → Option Nat} {v x : Nat} (h : pv v = some x) : ∀ {n : Nat}, v < n → (plL pv n)[cn pv v]? = some (v, x)
  | 0, hv => absurd hv (Nat.not_lt_zero _)
  | n + 1, hv => by
    unfold plL
    rcases Nat.lt_or_ge v n with h1 | h1
    · have := plL_at h h1
      rw [List.getElem?_append_left (List.getElem?_eq_some_iff.mp this).1]
      exact this
    · have e1 : v = n := by omega
      subst e1
      rw [List.getElem?_append_right (by rw [plL_len]; exact Nat.le_refl _), plL_len, Nat.sub_self, h]
      rfl
theorem plL_ix {pv : Nat → Option Nat} : ∀ {n j : Nat} {e : Nat × Nat}, (plL pv n)[j]? = some e → e.1 < n ∧ pv e.1 = some e.2 ∧ cn pv e.1 = j
  | 0, j, e, h => by cases h
  | n + 1, j, e, h => by
    unfold plL at h
    rcases Nat.lt_or_ge j (plL pv n).length with h1 | h1
    · rw [List.getElem?_append_left h1] at h
      obtain ⟨a, b⟩ := plL_ix h
      exact ⟨by omega, b⟩
    · rw [List.getElem?_append_right h1] at h
      cases hp : pv n with
      | none => rw [hp] at h; cases h
      | some x =>
        rw [hp] at h
        have hz : j - (plL pv n).length = 0 := by
          have := (List.getElem?_eq_some_iff.mp h).1
          simp at this
          omega
        rw [hz] at h
        cases h
        exact ⟨by show n < n + 1; omega, hp, by rw [← plL_len]; show (plL pv n).length = j; omega⟩
theorem plL_mem {pv : Nat → Option Nat} {n : Nat} {e : Nat × Nat} : e ∈ plL pv n ↔ e.1 < n ∧ pv e.1 = some e.2 := by
  constructor
  · intro h
    obtain ⟨j, hj⟩ := List.mem_iff_getElem?.mp h
    exact ⟨(plL_ix hj).1, (plL_ix hj).2.1⟩
  · rintro ⟨h1, h2⟩
    exact List.mem_of_getElem? (plL_at h2 h1)
theorem plL_ne {pv : Nat → Option Nat} {v : Nat} {y : Option Nat} : ∀ {n : Nat}, n ≤ v → plL (va_up pv v y) n = plL pv n
  | 0, _ => rfl
  | n + 1, h => by
    unfold plL
    rw [plL_ne (by omega), va_up_ne _ _ (by omega)]
theorem plL_er {pv : Nat → Option Nat} {v x : Nat} (h : pv v = some x) : ∀ {n : Nat}, v < n → plL (va_up pv v none) n = (plL pv n).eraseIdx (cn pv v)
  | 0, hv => absurd hv (Nat.not_lt_zero _)
  | n + 1, hv => by
    unfold plL
    rcases Nat.lt_or_ge v n with h1 | h1
    · rw [plL_er h h1, va_up_ne _ _ (by omega), List.eraseIdx_append_of_lt_length (by rw [plL_len]; exact Nat.lt_of_lt_of_le (by rw [cn_s h]; omega) (cn_mono (show v + 1 ≤ n by omega)))]
    · have e1 : v = n := by omega
      subst e1
      rw [plL_ne (Nat.le_refl _), va_up_self, List.eraseIdx_append_of_length_le (by rw [plL_len]; exact Nat.le_refl _), plL_len, Nat.sub_self, h]
      rfl
theorem plL_st {pv : Nat → Option Nat} {v x y : Nat} (h : pv v = some x) : ∀ {n : Nat}, v < n → plL (va_up pv v (some y)) n = (plL pv n).set (cn pv v) (v, y)
  | 0, hv => absurd hv (Nat.not_lt_zero _)
  | n + 1, hv => by
    unfold plL
    rw [List.set_append]
    rcases Nat.lt_or_ge v n with h1 | h1
    · rw [plL_st h h1, va_up_ne _ _ (by omega), if_pos (by rw [plL_len]; exact Nat.lt_of_lt_of_le (by rw [cn_s h]; omega) (cn_mono (show v + 1 ≤ n by omega)))]
    · have e1 : v = n := by omega
      subst e1
      rw [plL_ne (Nat.le_refl _), va_up_self, if_neg (by rw [plL_len]; omega), plL_len, Nat.sub_self, h]
      rfl
theorem ins_app {α : Type} {a : α} {t : List α} : ∀ {s : List α} {i : Nat}, i ≤ s.length → (s ++ t).insertIdx i a = s.insertIdx i a ++ t
  | s, 0, _ => rfl
  | [], i + 1, h => absurd h (by simp)
  | x :: s, i + 1, h => by
    rw [List.cons_append, List.insertIdx_succ_cons, List.insertIdx_succ_cons, ins_app (by simpa using h), List.cons_append]
theorem ins_end {α : Type} {a : α} : ∀ {s : List α}, s.insertIdx s.length a = s ++ [a]
  | [] => rfl
  | x :: s => by
    rw [List.length_cons, List.insertIdx_succ_cons, ins_end, List.cons_append]
theorem plL_in {pv : Nat → Option Nat} {v y : Nat} (h : pv v = none) : ∀ {n : Nat}, v < n → plL (va_up pv v (some y)) n = (plL pv n).insertIdx (cn pv v) (v, y)
  | 0, hv => absurd hv (Nat.not_lt_zero _)
  | n + 1, hv => by
    unfold plL
    rcases Nat.lt_or_ge v n with h1 | h1
    · rw [plL_in h h1, va_up_ne _ _ (by omega), ins_app (by rw [plL_len]; exact cn_mono (by omega))]
    · have e1 : v = n := by omega
      subst e1
      rw [plL_ne (Nat.le_refl _), va_up_self, h]
      show plL pv v ++ [(v, y)] = (plL pv v ++ []).insertIdx (cn pv v) (v, y)
      rw [List.append_nil, ← plL_len, ins_end]
theorem plL_tw {pv : Nat → Option Nat} {v n : Nat} (hv : v ≤ n) : tw (fun y : Nat × Nat => decide (y.1 < v)) (plL pv n) = cn pv v := by
  refine tw_is (by rw [plL_len]; exact cn_mono hv) (fun j e hj he => ?_) (fun e he => ?_)
  · obtain ⟨h1, h2, h3⟩ := plL_ix he
    refine decide_eq_true (Nat.not_le.mp fun z => ?_)
    have := cn_mono (f := pv) z
    omega
  · obtain ⟨h1, h2, h3⟩ := plL_ix he
    refine decide_eq_false (fun z => ?_)
    have := cn_mono (f := pv) (show e.1 + 1 ≤ v from z)
    rw [cn_s h2] at this
    omega
theorem tw_map {α β : Type} {f : α → β} {P : β → Bool} : ∀ {l : List α}, tw P (l.map f) = tw (fun x => P (f x)) l
  | [] => rfl
  | x :: l => by
    rw [List.map_cons]
    unfold tw
    rw [tw_map]
theorem map_ins {α β : Type} {f : α → β} {a : α} : ∀ {l : List α} {j : Nat}, (l.insertIdx j a).map f = (l.map f).insertIdx j (f a)
  | _, 0 => rfl
  | [], _ + 1 => rfl
  | x :: l, j + 1 => by
    rw [List.insertIdx_succ_cons, List.map_cons, List.map_cons, List.insertIdx_succ_cons, map_ins]
theorem clE_sub : ∀ (n : Nat) {sl : Nat → Option En} {free s i : Nat} {x : En}, clE n sl free s i = some x → ∃ t, sl t = some x
  | 0, _, _, _, i, x, h => ⟨i, h⟩
  | n + 1, sl, free, s, i, x, h => by
    cases hs : sl s with
    | none => rw [clE_none hs] at h; exact ⟨i, h⟩
    | some e =>
      by_cases hc : (7 * e.2.1 % 16 + 16 - free) % 16 = 0 ∨ (s + 16 - free) % 16 < (7 * e.2.1 % 16 + 16 - free) % 16
      · rw [clE_mv hs hc] at h
        obtain ⟨t, ht⟩ := clE_sub n h
        unfold va_up at ht
        split at ht
        · cases ht
        · split at ht
          · cases ht; exact ⟨s, hs⟩
          · exact ⟨t, ht⟩
      · rw [clE_st hs hc] at h
        exact clE_sub n h
/-- marks: the keys' VALUES -/
def mkR (o : Obs) (L : List En) : Prop := ∀ x ∈ L, x.2.2.1 = o.2.1 x.2.1
def simM (o : Obs) (q : Mps) (L : Nat → List En) (sl : Nat → Option En) : Prop :=
  ((L 0).map kv = q.1 ∧ mkR o (L 0)) ∧ ((L 1).map kv = q.2.1.1 ∧ (L 1).map us = q.2.1.2 ∧ mkR o (L 1)) ∧ (slP sl = q.2.2.1 ∧ ∀ s x, sl s = some x → x.2.2.1 = x.2.1) ∧ ((L 3).map kv = plL q.2.2.2.1 8 ∧ ∀ x ∈ L 3, x.2.2.1 = x.2.1) ∧ ((L 4).map kv = q.2.2.2.2 ∧ mkR o (L 4)) ∧ ∀ i, i ≠ 0 → i ≠ 1 → i ≠ 3 → i ≠ 4 → L i = []
theorem mp_at {L : List En} {l : List (Nat × Nat)} (h : L.map kv = l) {j : Nat} {e : Nat × Nat} (hj : l[j]? = some e) : ∃ x, L[j]? = some x ∧ kv x = e := by
  rw [← h, List.getElem?_map] at hj
  cases hx : L[j]? with
  | none => rw [hx] at hj; cases hj
  | some x => rw [hx] at hj; exact ⟨x, rfl, Option.some.inj hj⟩
theorem mp_to {L : List En} {l : List (Nat × Nat)} (h : L.map kv = l) {j : Nat} {x : En} (hj : L[j]? = some x) : l[j]? = some (kv x) := by
  rw [← h, List.getElem?_map, hj]
  rfl
theorem sl_at {sl : Nat → Option En} {f : Nat → Option (Nat × Nat)} (h : slP sl = f) {j : Nat} {e : Nat × Nat} (hj : f j = some e) : ∃ x, sl j = some x ∧ kv x = e := by
  rw [← h] at hj
  unfold slP at hj
  cases hx : sl j with
  | none => rw [hx] at hj; cases hj
  | some x => rw [hx] at hj; exact ⟨x, rfl, Option.some.inj hj⟩
theorem sl_to {sl : Nat → Option En} {f : Nat → Option (Nat × Nat)} (h : slP sl = f) {j : Nat} {x : En} (hj : sl j = some x) : f j = some (kv x) := by
  rw [← h]
  unfold slP
  rw [hj]
  rfl
/-- no such mark: no hit -/
theorem fi_none {o : Obs} {q : Mps} {L : Nat → List En} {sl : Nat → Option En} (sm : simM o q L sl) {mp key : Nat} (hmp : mp < 5) (h : fiM (lsE L sl mp) (mkN mp key (o.2.1 key)) = none) : ∀ j e, ¬ hit o q mp key j e := by
  have hno := fiM_no h
  intro j e hh
  unfold hit at hh
  obtain ⟨s0, s1, s2, s3, s4, -⟩ := sm
  have row : ∀ {L0 : List En} {l : List (Nat × Nat)}, L0.map kv = l → mkR o L0 → (∀ x ∈ L0, x.2.2.1 ≠ o.2.1 key) → l[j]? = some e → o.2.1 e.1 = o.2.1 key → False := by
    intro L0 l h1 h2 h3 h4 h5
    obtain ⟨x, hx, rfl⟩ := mp_at h1 h4
    exact h3 x (List.mem_of_getElem? hx) ((h2 x (List.mem_of_getElem? hx)).trans h5)
  rcases mp with _ | _ | _ | _ | _ | mp
  · exact row s0.1 s0.2 hno hh.1 hh.2
  · exact row s1.1 s1.2.2 hno hh.1 hh.2
  · obtain ⟨h1, h2, h3⟩ := hh
    obtain ⟨x, hx, rfl⟩ := sl_at s2.1 h2
    exact hno x (List.mem_of_getElem? (idN_at hx h1)) ((s2.2 j x hx).trans h3)
  · obtain ⟨h1, h2, h3, h4⟩ := hh
    have hm : (j, e.2) ∈ (L 3).map kv := by rw [s3.1]; exact plL_mem.mpr ⟨h1, h2⟩
    obtain ⟨x, hx, hx2⟩ := List.mem_map.mp hm
    have e1 : x.2.1 = j := congrArg Prod.fst hx2
    exact hno x hx ((s3.2 x hx).trans (e1.trans h4))
  · exact row s4.1 s4.2 hno hh.1 hh.2
  · omega
/-- where the model's hit lies -/
def ixJ (sl : Nat → Option En) (j : Nat) (en : En) (jj : Nat) : Nat → Prop
  | 2 => jj < 16 ∧ sl jj = some en ∧ cn sl jj = j
  | 3 => jj = en.2.1
  | _ => jj = j
theorem fi_some {o : Obs} {q : Mps} {L : Nat → List En} {sl : Nat → Option En} (sm : simM o q L sl) {mp key j : Nat} {en : En} (hmp : mp < 5) (hen : (lsE L sl mp)[j]? = some en) (hm : en.2.2.1 = mkN mp key (o.2.1 key)) : ∃ jj, hit o q mp key jj (kv en) ∧ ixJ sl j en jj mp := by
  obtain ⟨s0, s1, s2, s3, s4, -⟩ := sm
  have hmem := List.mem_of_getElem? hen
  unfold hit
  rcases mp with _ | _ | _ | _ | _ | mp
  · exact ⟨j, ⟨mp_to s0.1 hen, (s0.2 en hmem).symm.trans hm⟩, rfl⟩
  · exact ⟨j, ⟨mp_to s1.1 hen, (s1.2.2 en hmem).symm.trans hm⟩, rfl⟩
  · obtain ⟨u, hu, hs, hc⟩ := id_at hen
    exact ⟨u, ⟨hu, sl_to s2.1 hs, (s2.2 u en hs).symm.trans hm⟩, hu, hs, hc⟩
  · have h1 := mp_to s3.1 hen
    obtain ⟨h2, h3, h4⟩ := plL_ix h1
    exact ⟨en.2.1, ⟨h2, h3, rfl, (s3.2 en hmem).symm.trans hm⟩, rfl⟩
  · exact ⟨j, ⟨mp_to s4.1 hen, (s4.2 en hmem).symm.trans hm⟩, rfl⟩
  · omega
theorem sim_sz {o : Obs} {q : Mps} {L : Nat → List En} {sl : Nat → Option En} (sm : simM o q L sl) {mp : Nat} (hmp : mp < 5) : sz_M q mp = (lsE L sl mp).length := by
  obtain ⟨s0, s1, s2, s3, s4, -⟩ := sm
  rcases mp with _ | _ | _ | _ | _ | mp
  · show q.1.length = (L 0).length
    rw [← s0.1, List.length_map]
  · show q.2.1.1.length = (L 1).length
    rw [← s1.1, List.length_map]
  · show cn q.2.2.1 16 = (idN sl 16).length
    rw [← s2.1, cn_slP, idN_len]
  · show cn q.2.2.2.1 8 = (L 3).length
    rw [← plL_len, ← s3.1, List.length_map]
  · show q.2.2.2.2.length = (L 4).length
    rw [← s4.1, List.length_map]
  · omega
theorem sim_en {o : Obs} {q : Mps} {L : Nat → List En} {sl : Nat → Option En} (sm : simM o q L sl) {mp j : Nat} {en : En} (hmp : mp < 5) (hen : (lsE L sl mp)[j]? = some en) : en_M q mp j (kv en) := by
  obtain ⟨s0, s1, s2, s3, s4, -⟩ := sm
  unfold en_M
  rcases mp with _ | _ | _ | _ | _ | mp
  · exact mp_to s0.1 hen
  · exact mp_to s1.1 hen
  · obtain ⟨u, hu, hs, hc⟩ := id_at hen
    exact ⟨u, hu, sl_to s2.1 hs, by rw [← s2.1, cn_slP]; exact hc⟩
  · exact plL_ix (mp_to s3.1 hen)
  · exact mp_to s4.1 hen
  · omega

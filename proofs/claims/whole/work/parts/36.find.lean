/-! What find finds, in the model's words. -/
/-- the entry e lies at place j of map mp, and key is the same key -/
def hit (o : Obs) (q : Mps) (mp key j : Nat) (e : Nat × Nat) : Prop := if mp = 0 then q.1[j]? = some e ∧ o.2.1 e.1 = o.2.1 key else if mp = 1 then q.2.1.1[j]? = some e ∧ o.2.1 e.1 = o.2.1 key else if mp = 2 then j < 16 ∧ q.2.2.1 j = some e ∧ e.1 = key else if mp = 3 then j < 8 ∧ q.2.2.2.1 j = some e.2 ∧ e.1 = j ∧ j = o.2.1 key else q.2.2.2.2[j]? = some e ∧ o.2.1 e.1 = o.2.1 key
def okR (o : Obs) (l : List (Nat × Nat)) : Prop := ∀ e ∈ l, (e.1 < 32 ∧ o.1 e.1 = true) ∧ e.2 < 32 ∧ o.1 e.2 = true
def unR (o : Obs) (l : List (Nat × Nat)) : Prop := ∀ (i j : Nat) (a b : Nat × Nat), l[i]? = some a → l[j]? = some b → o.2.1 a.1 = o.2.1 b.1 → i = j
def okM (o : Obs) (q : Mps) : Prop := (∀ i, i < 32 → o.1 i = true → o.2.1 i < 100) ∧ ((okR o q.1 ∧ unR o q.1) ∧ (okR o q.2.1.1 ∧ unR o q.2.1.1) ∧ (okR o q.2.2.2.2 ∧ unR o q.2.2.2.2)) ∧ ((∀ s e, q.2.2.1 s = some e → (e.1 < 32 ∧ o.1 e.1 = true) ∧ e.2 < 32 ∧ o.1 e.2 = true) ∧ ∀ s t a b, q.2.2.1 s = some a → q.2.2.1 t = some b → a.1 = b.1 → s = t) ∧ ∀ v x, q.2.2.2.1 v = some x → x < 32 ∧ o.1 x = true
theorem okM.K {o : Obs} {q : Mps} (h : okM o q) : okK q := ⟨fun x hx => (h.2.1.1.1 x hx).1.1, fun x hx => (h.2.1.2.1.1 x hx).1.1, fun x hx => (h.2.1.2.2.1 x hx).1.1⟩
theorem hit.uni {o : Obs} {q : Mps} {mp key i j : Nat} {a b : Nat × Nat} (h : okM o q) (hm : mp < 5) (h1 : hit o q mp key i a) (h2 : hit o q mp key j b) : i = j := by
  rcases (show mp = 0 ∨ mp = 1 ∨ mp = 2 ∨ mp = 3 ∨ mp = 4 by omega) with rfl | rfl | rfl | rfl | rfl
  · exact h.2.1.1.2 i j a b h1.1 h2.1 (h1.2.trans h2.2.symm)
  · exact h.2.1.2.1.2 i j a b h1.1 h2.1 (h1.2.trans h2.2.symm)
  · exact h.2.2.1.2 i j a b h1.2.1 h2.2.1 (h1.2.2.trans h2.2.2.symm)
  · exact h1.2.2.2.trans h2.2.2.2.symm
  · exact h.2.1.2.2.2 i j a b h1.1 h2.1 (h1.2.trans h2.2.symm)
theorem fn_no {mt : Nat → Bool} {lo : Nat} : ∀ {n : Nat}, (∀ i, i < n → mt (lo + i) = false) → fn_O mt lo n = -1
  | 0, _ => rfl
  | n + 1, h => by
    unfold fn_O
    rw [h n (by omega), if_neg Bool.false_ne_true]
    exact fn_no (fun i hi => h i (by omega))
theorem fn_yes {mt : Nat → Bool} {lo i0 : Nat} : ∀ {n : Nat}, i0 < n → mt (lo + i0) = true → (∀ i, i < n → mt (lo + i) = true → i = i0) → fn_O mt lo n = nI (lo + i0)
  | 0, h, _, _ => absurd h (Nat.not_lt_zero _)
  | n + 1, h, h1, h2 => by
    unfold fn_O
    by_cases c : mt (lo + n) = true
    · rw [if_pos c, h2 n (by omega) c]
    · rw [if_neg c]
      have : i0 ≠ n := fun z => c (z ▸ h1)
      exact fn_yes (by omega) h1 (fun i hi => h2 i (by omega))
/-- how many places find looks at -/
def ln_M (q : Mps) (mp : Nat) : Nat := if mp = 2 then 16 else if mp = 3 then 8 else sz_M q mp
theorem en_ln (q : Mps) (mp : Nat) : en_O mp (sz_M q mp) - 32 * mp = ln_M q mp := by
  unfold en_O ln_M
  rw [Nat.add_sub_cancel_left]
theorem mt_row {R : Rf} {o : Obs} {mp key i : Nat} {l : List (Nat × Nat)} (hm2 : mp ≠ 2) (hm3 : mp ≠ 3) (ho : obR R o.1 o.2.1 o.2.2.1 o.2.2.2) (hv : ∀ i, i < 32 → o.1 i = true → o.2.1 i < 100) (hr : rowR R mp l) (hk : okR o l) (hkey : key < 32) (ha : o.1 key = true) {e : Nat × Nat} (he : l[i]? = some e) : mt_O R mp key (32 * mp + i) = true ↔ o.2.1 e.1 = o.2.1 key := by
  have h1 := hr.2.2 i e he
  have h2 := hk e (List.mem_of_getElem? he)
  have h3 := (ho e.1 h2.1.1).2 h2.1.2
  have h4 := (ho key hkey).2 ha
  have v1 := hv e.1 h2.1.1 h2.1.2
  have v2 := hv key hkey ha
  unfold mt_O sm_O
  rw [h1.1, decide_eq_true (nI_pos (by omega)), Bool.true_and, if_neg hm2, if_neg hm3, nI_clamp (by omega), h3.1, h4.1, decide_eq_true_iff]
  exact nI_eq (by omega) (by omega)
theorem mt_id {R : Rf} {key i : Nat} {sl : Nat → Option (Nat × Nat)} (hid : idR R sl) (hi : i < 16) (hkey : key < 32) : mt_O R 2 key (64 + i) = true ↔ ∃ e, sl i = some e ∧ e.1 = key := by
  have h1 := hid i hi
  unfold mt_O sm_O
  rw [if_pos rfl, Bool.and_eq_true, decide_eq_true_iff, decide_eq_true_iff]
  cases hx : sl i with
  | none =>
    rw [hx] at h1
    exact ⟨fun h => absurd h1 h.1, fun ⟨e, h, _⟩ => by cases h⟩
  | some e =>
    rw [hx] at h1
    rw [h1.1]
    refine ⟨fun h => ⟨e, rfl, (nI_eq (by have := h1.2.2; omega) (by omega)).mp h.2⟩, fun ⟨e2, h2, h3⟩ => ?_⟩
    cases h2
    exact ⟨nI_pos (by omega), by rw [h3]⟩
theorem mt_pl {R : Rf} {o : Obs} {key i : Nat} {pv : Nat → Option Nat} (ho : obR R o.1 o.2.1 o.2.2.1 o.2.2.2) (hv : ∀ i, i < 32 → o.1 i = true → o.2.1 i < 100) (hid : plR R pv) (hi : i < 8) (hkey : key < 32) (ha : o.1 key = true) : mt_O R 3 key (96 + i) = true ↔ (∃ x, pv i = some x) ∧ i = o.2.1 key := by
  have h1 := hid i hi
  have h4 := (ho key hkey).2 ha
  have v2 := hv key hkey ha
  unfold mt_O sm_O
  rw [if_neg (by decide), if_pos rfl, Bool.and_eq_true, decide_eq_true_iff, decide_eq_true_iff, h4.1]
  cases hx : pv i with
  | none =>
    rw [hx] at h1
    exact ⟨fun h => absurd h1 h.1, fun ⟨⟨e, h⟩, _⟩ => by cases h⟩
  | some e =>
    rw [hx] at h1
    rw [h1.1]
    exact ⟨fun h => ⟨⟨e, rfl⟩, (nI_eq (by omega) (by omega)).mp h.2⟩, fun h => ⟨nI_pos (by omega), by rw [h.2]⟩⟩
/-- a place that matches is a hit, and the other way round -/
theorem mt_hit {R : Rf} {o : Obs} {q : Mps} {mp key i : Nat} (hm : mp < 5) (ho : obR R o.1 o.2.1 o.2.2.1 o.2.2.2) (hq : mpR R q) (hk : okM o q) (hkey : key < 32) (ha : o.1 key = true) (hi : i < ln_M q mp) : mt_O R mp key (32 * mp + i) = true ↔ ∃ e, hit o q mp key i e := by
  obtain ⟨a, ⟨b1, b2, b3⟩, ⟨c1, c2⟩, ⟨d1, d2⟩, e⟩ := hq
  have row : ∀ (l : List (Nat × Nat)) (mp2 : Nat), mp2 ≠ 2 → mp2 ≠ 3 → rowR R mp2 l → okR o l → i < l.length → (mt_O R mp2 key (32 * mp2 + i) = true ↔ ∃ e, l[i]? = some e ∧ o.2.1 e.1 = o.2.1 key) := by
    intro l mp2 n2 n3 hr hx hl
    have he : l[i]? = some l[i] := List.getElem?_eq_getElem hl
    rw [mt_row n2 n3 ho hk.1 hr hx hkey ha he]
    exact ⟨fun h => ⟨_, he, h⟩, fun ⟨e2, h1, h2⟩ => by cases he.symm.trans h1; exact h2⟩
  rcases (show mp = 0 ∨ mp = 1 ∨ mp = 2 ∨ mp = 3 ∨ mp = 4 by omega) with rfl | rfl | rfl | rfl | rfl
  · exact row q.1 0 (by decide) (by decide) a hk.2.1.1.1 hi
  · exact row q.2.1.1 1 (by decide) (by decide) b1 hk.2.1.2.1.1 hi
  · have hi2 : i < 16 := hi
    rw [show 32 * 2 + i = 64 + i from rfl, mt_id c1 hi2 hkey]
    exact ⟨fun ⟨x, h1, h2⟩ => ⟨x, hi2, h1, h2⟩, fun ⟨x, _, h1, h2⟩ => ⟨x, h1, h2⟩⟩
  · have hi2 : i < 8 := hi
    rw [show 32 * 3 + i = 96 + i from rfl, mt_pl ho hk.1 d1 hi2 hkey ha]
    exact ⟨fun ⟨⟨x, h1⟩, h2⟩ => ⟨(i, x), hi2, h1, rfl, h2⟩, fun ⟨x, _, h1, _, h2⟩ => ⟨⟨_, h1⟩, h2⟩⟩
  · exact row q.2.2.2.2 4 (by decide) (by decide) e hk.2.1.2.2.1 hi
theorem hit.lt {o : Obs} {q : Mps} {mp key j : Nat} {e : Nat × Nat} (hm : mp < 5) (h : hit o q mp key j e) : j < ln_M q mp := by
  rcases (show mp = 0 ∨ mp = 1 ∨ mp = 2 ∨ mp = 3 ∨ mp = 4 by omega) with rfl | rfl | rfl | rfl | rfl
  · exact (List.getElem?_eq_some_iff.mp h.1).1
  · exact (List.getElem?_eq_some_iff.mp h.1).1
  · exact h.1
  · exact h.1
  · exact (List.getElem?_eq_some_iff.mp h.1).1
theorem ln_le {R : Rf} {q : Mps} (hq : mpR R q) {mp : Nat} (hm : mp < 5) : ln_M q mp ≤ 32 := by
  have := (sz_R hq hm).2
  unfold ln_M
  split
  · decide
  · split
    · decide
    · exact this
theorem find_hit {R : Rf} {o : Obs} {q : Mps} {mp key j : Nat} {e : Nat × Nat} (hm : mp < 5) (ho : obR R o.1 o.2.1 o.2.2.1 o.2.2.2) (hq : mpR R q) (hk : okM o q) (hkey : key < 32) (ha : o.1 key = true) (h : hit o q mp key j e) : fn_O (mt_O R mp key) (32 * mp) (en_O mp (sz_M q mp) - 32 * mp) = nI (32 * mp + j) := by
  rw [en_ln]
  refine fn_yes (h.lt hm) ((mt_hit hm ho hq hk hkey ha (h.lt hm)).mpr ⟨e, h⟩) (fun i hi h2 => ?_)
  obtain ⟨e2, h3⟩ := (mt_hit hm ho hq hk hkey ha hi).mp h2
  exact h3.uni hk hm h
theorem find_no {R : Rf} {o : Obs} {q : Mps} {mp key : Nat} (hm : mp < 5) (ho : obR R o.1 o.2.1 o.2.2.1 o.2.2.2) (hq : mpR R q) (hk : okM o q) (hkey : key < 32) (ha : o.1 key = true) (h : ∀ j e, ¬ hit o q mp key j e) : fn_O (mt_O R mp key) (32 * mp) (en_O mp (sz_M q mp) - 32 * mp) = -1 := by
  rw [en_ln]
  refine fn_no (fun i hi => ?_)
  cases hx : mt_O R mp key (32 * mp + i) with
  | false => rfl
  | true =>
    obtain ⟨e2, h3⟩ := (mt_hit hm ho hq hk hkey ha hi).mp hx
    exact absurd h3 (h i e2)
/-- the keys that find looks at are numbers -/
theorem find_ok {R : Rf} {o : Obs} {q : Mps} {mp : Nat} (hm : mp < 5) (hq : mpR R q) (hk : okM o q) : ∀ i : Nat, 32 * mp ≤ i → i < en_O mp (sz_M q mp) → ¬ R.2.1 8 i < 0 → mp ≠ 2 → mp ≠ 3 → ∃ st : Nat, st < 32 ∧ R.2.1 8 i = nI st := by
  intro i h1 h2 _ n2 n3
  rw [en_r n2 n3] at h2
  obtain ⟨a, ⟨b1, b2, b3⟩, ⟨c1, c2⟩, ⟨d1, d2⟩, e⟩ := hq
  have row : ∀ (l : List (Nat × Nat)) (mp2 : Nat), mp2 = mp → rowR R mp2 l → okR o l → i < 32 * mp2 + l.length → ∃ st : Nat, st < 32 ∧ R.2.1 8 i = nI st := by
    intro l mp2 e2 hr hx hl
    subst e2
    have hlt : i - 32 * mp2 < l.length := by omega
    have he := List.getElem?_eq_getElem hlt
    have h9 := (hr.2.2 _ _ he).1
    rw [show 32 * mp2 + (i - 32 * mp2) = i by omega] at h9
    exact ⟨_, (hx _ (List.getElem_mem hlt)).1.1, h9⟩
  rcases (show mp = 0 ∨ mp = 1 ∨ mp = 4 by omega) with rfl | rfl | rfl
  · exact row q.1 0 rfl a hk.2.1.1.1 h2
  · exact row q.2.1.1 1 rfl b1 hk.2.1.2.1.1 h2
  · exact row q.2.2.2.2 4 rfl e hk.2.1.2.2.1 h2
theorem hit_what {R : Rf} {o : Obs} {q : Mps} {mp key j : Nat} {e : Nat × Nat} (hm : mp < 5) (hq : mpR R q) (h : hit o q mp key j e) : R.2.1 9 (32 * mp + j) = nI e.2 := by
  obtain ⟨a, ⟨b1, b2, b3⟩, ⟨c1, c2⟩, ⟨d1, d2⟩, ee⟩ := hq
  rcases (show mp = 0 ∨ mp = 1 ∨ mp = 2 ∨ mp = 3 ∨ mp = 4 by omega) with rfl | rfl | rfl | rfl | rfl
  · exact (a.2.2 j e h.1).2
  · exact (b1.2.2 j e h.1).2
  · have h1 := c1 j h.1
    rw [h.2.1] at h1
    exact h1.2.1
  · have h1 := d1 j h.1
    rw [h.2.1] at h1
    exact h1.2
  · exact (ee.2.2 j e h.1).2

/-! The reference's comes, in the model's words. -/
def bM (o : Obs) (bk : Nat) : Nat → Int32 := fun x => bk_O (nI bk) (nI (o.2.1 x))
def adR (o : Obs) (q : Mps) (n : Nms) (mp key val : Nat) (q1 : Mps) (n1 : Nms) : Prop :=
  if mp = 0 then q1 = (wk_n (bM o n.1) (bM o (2 * n.1)) n.1 q.1 (key, val), q.2) ∧ n1 = (wk_b n.1 q.1, n.2)
  else if mp = 1 then q1 = (q.1, (q.2.1.1 ++ [(key, val)], q.2.1.2 ++ [n.2.1]), q.2.2) ∧ n1 = n
  else if mp = 2 then (∃ t, t < 16 ∧ isPr q.2.2.1 (7 * key % 16) t ∧ q1 = (q.1, q.2.1, va_up q.2.2.1 t (some (key, val)), q.2.2.2)) ∧ n1 = n
  else if mp = 3 then q1 = (q.1, q.2.1, q.2.2.1, va_up q.2.2.2.1 (o.2.1 key) (some val), q.2.2.2.2) ∧ n1 = n
  else q1 = (q.1, q.2.1, q.2.2.1, q.2.2.2.1, if 6 < q.2.2.2.2.length + 1 then (q.2.2.2.2 ++ [(key, val)]).tail else q.2.2.2.2 ++ [(key, val)]) ∧ n1 = n
theorem tw_cong {α : Type} {P P2 : α → Bool} : ∀ {l : List α}, (∀ x ∈ l, P x = P2 x) → tw P l = tw P2 l
  | [], _ => rfl
  | x :: l, h => by
    unfold tw
    rw [h x List.mem_cons_self, tw_cong (fun y hy => h y (List.mem_cons_of_mem _ hy))]
theorem ins_cong {b b2 : Nat → Int32} {w : List (Nat × Nat)} {e : Nat × Nat} (h : ∀ x ∈ w, b x.1 = b2 x.1) (he : b e.1 = b2 e.1) : ins_B b w e = ins_B b2 w e := by
  have e1 : tw (fun x : Nat × Nat => decide (b x.1 < b e.1)) w = tw (fun x : Nat × Nat => decide (b2 x.1 < b2 e.1)) w := tw_cong (fun x hx => by
    show decide (b x.1 < b e.1) = decide (b2 x.1 < b2 e.1)
    rw [h x hx, he])
  unfold ins_B
  rw [e1]
theorem fold_cong {b b2 : Nat → Int32} (w : List (Nat × Nat)) : ∀ (acc : List (Nat × Nat)), (∀ x ∈ w, b x.1 = b2 x.1) → (∀ x ∈ acc, b x.1 = b2 x.1) → w.foldl (ins_B b) acc = w.foldl (ins_B b2) acc := by
  induction w with
  | nil => intro acc _ _; rw [List.foldl_nil, List.foldl_nil]
  | cons e w ih =>
    intro acc h h2
    have e1 : ins_B b acc e = ins_B b2 acc e := ins_cong h2 (h e List.mem_cons_self)
    have e2 : ∀ x ∈ ins_B b2 acc e, b x.1 = b2 x.1 := fun x hx => by
      have h4 : x = e ∨ x ∈ acc := (ins_mem (b := b2) (w := acc) (e := e)).mp hx
      cases h4 with
      | inl h3 => rw [h3]; exact h e List.mem_cons_self
      | inr h3 => exact h2 x h3
    have e3 := ih (ins_B b2 acc e) (fun x hx => h x (List.mem_cons_of_mem _ hx)) e2
    rw [List.foldl_cons, List.foldl_cons, e1]
    exact e3
theorem wk_cong {b b2 c c2 : Nat → Int32} {bk : Nat} {w : List (Nat × Nat)} {e : Nat × Nat} (h : ∀ x, x ∈ w ∨ x = e → b x.1 = b2 x.1) (h2 : ∀ x, x ∈ w ∨ x = e → c x.1 = c2 x.1) : wk_n b c bk w e = wk_n b2 c2 bk w e := by
  have e1 : ins_B b w e = ins_B b2 w e := ins_cong (fun x hx => h x (Or.inl hx)) (h e (Or.inr rfl))
  unfold wk_n re_B
  rw [e1, fold_cong (b := c) (b2 := c2) (ins_B b2 w e) [] (fun x hx => by
    rcases (ins_mem (b := b2) (w := w) (e := e)).mp hx with h3 | h3
    · exact h2 x (Or.inr h3)
    · exact h2 x (Or.inl h3)) (fun x hx => by cases hx)]
theorem c_Mo_comesM (l : Launch) {s0 : State} {D : va_G} {ca : Nat → ClassId} (hB : so_B tbl s0 D vcl (tyl ca)) {σ : so_S} {mo : Nat} {ar : Nat → Nat} {R : Rf} (M : MoR ca σ mo ar R) {o : Obs} {q : Mps} {n : Nms} {k : Wks} (h0 : refR R o q n k) (hk : okM o q) {mp key val : Nat} (hm : mp < 5) (hkey : key < 32) (ha : o.1 key = true) (h12 : mp = 2 → cn q.2.2.1 16 < 16) (h8 : mp = 3 → o.2.1 key < 8 ∧ q.2.2.2.1 (o.2.1 key) = none) (hlw : mp = 0 → q.1.length < 32) (hls : mp = 1 → q.2.1.1.length < 32) (hll : mp = 4 → q.2.2.2.2.length < 32) (hbk : n.1 ≤ 32) :
    mo_C l s0 D ca mo ar σ y_Mo_comes b_Mo_comes 4 none 4 [.int (nI mp), .int (nI key), .int (nI val)] (fun v R1 => v = none ∧ (∃ q1 n1, adR o q n mp key val q1 n1 ∧ refR R1 o q1 n1 (k.1, va_up k.2.1 mp true, k.2.2)) ∧ R1.1 0 = R.1 0) := by
  obtain ⟨a, ⟨b1, b2, b3⟩, ⟨c1, c2⟩, ⟨d1, d2⟩, ee⟩ := h0.2.1
  have al := a.2.1
  have bl := b1.2.1
  have el := ee.2.1
  have ul : q.2.1.2.length ≤ 32 := by omega
  have hBj : ∀ (R1 : Rf), R1.2.2 = (sbb R 16 mp true).2.2 → ∀ j, j ≠ 16 → R1.2.2 j = R.2.2 j := fun R1 hb j hj => by
    rw [hb]
    show va_up R.2.2 16 _ j = _
    rw [va_up_ne _ _ hj]
  have hnu : ∀ (R1 : Rf), R1.1 = R.1 → nuR R1 n := fun R1 hz => by
    unfold nuR
    rw [hz]
    exact h0.2.2.1
  rcases (show mp = 0 ∨ mp = 1 ∨ mp = 2 ∨ mp = 3 ∨ mp = 4 by omega) with rfl | rfl | rfl | rfl | rfl
  · refine (c_Mo_comes_0 l hB M key val n.1 a (hlw rfl) (fun x hx => (hk.2.1.1.1 x hx).1.1) hkey h0.2.2.1.1 hbk).mono (fun v R1 hp => ?_)
    obtain ⟨rfl, g2, ga, g3, g4, g5⟩ := hp
    have hc : ∀ bk2 x, (x ∈ q.1 ∨ x = (key, val)) → bk_O (nI bk2) (R.2.1 1 x.1) = bM o bk2 x.1 := fun bk2 x hx => by
      unfold bM
      rcases hx with hx | hx
      · rw [((h0.1 x.1 (hk.2.1.1.1 x hx).1.1).2 (hk.2.1.1.1 x hx).1.2).1]
      · rw [hx, ((h0.1 key hkey).2 ha).1]
    rw [wk_cong (b2 := bM o n.1) (c2 := bM o (2 * n.1)) (fun x hx => hc n.1 x hx) (fun x hx => hc (2 * n.1) x hx)] at g2
    refine ⟨rfl, ⟨_, _, ⟨rfl, rfl⟩, ⟨ga.ob (hBj _ g5) h0.1, ⟨g2, ⟨ga.row (by decide) b1, ga.use (by decide) ul b2, b3⟩, ⟨ga.id (by decide) c1, (ga.2.2 2 (by decide)).trans c2⟩, ⟨ga.pl (by decide) d1, (ga.2.2 3 (by decide)).trans d2⟩, ga.row (by decide) ee⟩, ⟨g3, (g4 14 (by decide)).trans h0.2.2.1.2.1, (g4 7 (by decide)).trans h0.2.2.1.2.2⟩, ga.wk g5 h0.2.2.2⟩⟩, g4 0 (by decide)⟩
  · refine (c_Mo_comes_1 l hB M key val b1 (hls rfl)).mono (fun v R1 hp => ?_)
    obtain ⟨rfl, g2, g3, g4, ga, g5, g6⟩ := hp
    refine ⟨rfl, ⟨_, _, ⟨rfl, rfl⟩, ⟨ga.ob (hBj _ g6) h0.1, ⟨ga.row (by decide) a, ⟨g2, fun i x hx => ?_, ?_⟩, ⟨ga.id (by decide) c1, (ga.2.2 2 (by decide)).trans c2⟩, ⟨ga.pl (by decide) d1, (ga.2.2 3 (by decide)).trans d2⟩, ga.row (by decide) ee⟩, hnu _ g5, ga.wk g6 h0.2.2.2⟩⟩, by rw [g5]⟩
    · have hx2 : (q.2.1.2 ++ [n.2.1])[i]? = some x := hx
      rcases Nat.lt_trichotomy i q.2.1.2.length with h | h | h
      · rw [List.getElem?_append_left h] at hx2
        rw [g3 (32 + i) (by omega)]
        exact b2 i x hx2
      · rw [List.getElem?_append_right (by omega), h, Nat.sub_self] at hx2
        cases hx2
        rw [h, b3, g4]
        exact h0.2.2.1.2.1
      · have := (List.getElem?_eq_some_iff.mp hx2).1
        rw [List.length_append] at this
        simp only [List.length_cons, List.length_nil] at this
        omega
    · show (q.2.1.2 ++ [n.2.1]).length = (q.2.1.1 ++ [(key, val)]).length
      rw [List.length_append, List.length_append, b3]
      rfl
  · obtain ⟨t0, ht0, hft⟩ := cn_free (f := q.2.2.1) (n := 16) (h12 rfl)
    refine (c_Mo_comes_2 l hB M (sl := q.2.2.1) key val c1 ⟨(t0 + 16 - 7 * key % 16) % 16, by omega, by rw [show (7 * key % 16 + (t0 + 16 - 7 * key % 16) % 16) % 16 = t0 by omega]; exact hft⟩ hkey).mono (fun v R1 hp => ?_)
    obtain ⟨rfl, t, ht, hpr, rfl⟩ := hp
    have g1 : eqo 2 (sbb R 16 2 true) (sa (sa (sa (sbb R 16 2 true) 8 (64 + t) (nI key)) 9 (64 + t) (nI val)) 11 2 (R.2.1 11 2 + 1)) := ((eqo.sa8 (by omega) (by omega)).tr (eqo.sa9 (by omega) (by omega))).tr eqo.sa11
    have ga : agr 2 R (sa (sa (sa (sbb R 16 2 true) 8 (64 + t) (nI key)) 9 (64 + t) (nI val)) 11 2 (R.2.1 11 2 + 1)) := g1.agr
    have hid : idR (sa (sa (sbb R 16 2 true) 8 (64 + t) (nI key)) 9 (64 + t) (nI val)) (va_up q.2.2.1 t (some (key, val))) := idR.set (R := sbb R 16 2 true) (e := (key, val)) c1 hkey
    have hno : q.2.2.1 t = none := by
      obtain ⟨d, -, -, h3, -⟩ := hpr
      exact h3
    refine ⟨rfl, ⟨_, _, ⟨⟨t, ht, hpr, rfl⟩, rfl⟩, ⟨ga.ob (hBj _ g1.2.1) h0.1, ⟨ga.row (by decide) a, ⟨ga.row (by decide) b1, ga.use (by decide) ul b2, b3⟩, ⟨hid.s11 _ _, ?_⟩, ⟨ga.pl (by decide) d1, (ga.2.2 3 (by decide)).trans d2⟩, ga.row (by decide) ee⟩, hnu _ g1.1, ga.wk g1.2.1 h0.2.2.2⟩⟩, rfl⟩
    show R.2.1 11 2 + 1 = nI (cn (va_up q.2.2.1 t (some (key, val))) 16)
    rw [cn_up ht hno, c2, nI_1]
  · obtain ⟨hv8, hvn⟩ := h8 rfl
    refine (c_Mo_comes_3 l hB M key val (o.2.1 key) hkey ((h0.1 key hkey).2 ha).1 hv8).mono (fun v R1 hp => ?_)
    obtain ⟨rfl, rfl⟩ := hp
    generalize hvk : o.2.1 key = va at hv8 hvn
    have g1 : eqo 3 (sbb R 16 3 true) (sa (sa (sa (sbb R 16 3 true) 8 (96 + va) (nI va)) 9 (96 + va) (nI val)) 11 3 (R.2.1 11 3 + 1)) := ((eqo.sa8 (by omega) (by omega)).tr (eqo.sa9 (by omega) (by omega))).tr eqo.sa11
    have ga : agr 3 R (sa (sa (sa (sbb R 16 3 true) 8 (96 + va) (nI va)) 9 (96 + va) (nI val)) 11 3 (R.2.1 11 3 + 1)) := g1.agr
    refine ⟨rfl, ⟨_, _, ⟨rfl, rfl⟩, ⟨ga.ob (hBj _ g1.2.1) h0.1, ⟨ga.row (by decide) a, ⟨ga.row (by decide) b1, ga.use (by decide) ul b2, b3⟩, ⟨ga.id (by decide) c1, (ga.2.2 2 (by decide)).trans c2⟩, ⟨fun v hv => ?_, ?_⟩, ga.row (by decide) ee⟩, hnu _ g1.1, ga.wk g1.2.1 h0.2.2.2⟩⟩, rfl⟩
    · show ppR _ v (va_up q.2.2.2.1 (o.2.1 key) (some val) v)
      rw [hvk]
      have k8 : (sa (sa (sa (sbb R 16 3 true) 8 (96 + va) (nI va)) 9 (96 + va) (nI val)) 11 3 (R.2.1 11 3 + 1)).2.1 8 (96 + v) = upd (R.2.1 8) (96 + va) (nI va) (96 + v) := rfl
      have k9 : (sa (sa (sa (sbb R 16 3 true) 8 (96 + va) (nI va)) 9 (96 + va) (nI val)) 11 3 (R.2.1 11 3 + 1)).2.1 9 (96 + v) = upd (R.2.1 9) (96 + va) (nI val) (96 + v) := rfl
      by_cases c : v = va
      · rw [c] at k8 k9 ⊢
        rw [va_up_self]
        exact ⟨k8.trans (if_pos rfl), k9.trans (if_pos rfl)⟩
      · rw [va_up_ne _ _ c]
        have h1 := d1 v hv
        unfold ppR at h1 ⊢
        rw [k8, k9]
        unfold upd
        rw [if_neg (by omega), if_neg (by omega)]
        exact h1
    · show R.2.1 11 3 + 1 = nI (cn (va_up q.2.2.2.1 (o.2.1 key) (some val)) 8)
      rw [hvk, cn_up hv8 hvn, d2, nI_1]
  · refine (c_Mo_comes_4 l hB M key val ee (hll rfl)).mono (fun v R1 hp => ?_)
    obtain ⟨rfl, g2, ga, g5, g6⟩ := hp
    exact ⟨rfl, ⟨_, _, ⟨rfl, rfl⟩, ⟨ga.ob (hBj _ g6) h0.1, ⟨ga.row (by decide) a, ⟨ga.row (by decide) b1, ga.use (by decide) ul b2, b3⟩, ⟨ga.id (by decide) c1, (ga.2.2 2 (by decide)).trans c2⟩, ⟨ga.pl (by decide) d1, (ga.2.2 3 (by decide)).trans d2⟩, g2⟩, hnu _ g5, ga.wk g6 h0.2.2.2⟩⟩, by rw [g5]⟩

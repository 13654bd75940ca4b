/-! The model's invariant is kept: make, refer, root, get, remove, put. -/
def bk4 (b : Nat) : Prop := b = 4 ∨ b = 8 ∨ b = 16 ∨ b = 32
def inv (o : Obs) (q : Mps) (n : Nms) : Prop := okM o q ∧ okO o ∧ cn q.2.2.1 16 ≤ 12 ∧ bk4 n.1 ∧ ((∀ u ∈ q.2.1.2, 1 ≤ u ∧ u ≤ n.2.1) ∧ q.2.1.2.Nodup ∧ q.2.1.2.length = q.2.1.1.length) ∧ q.2.2.2.2.length ≤ 6 ∧ (∀ s, 16 ≤ s → q.2.2.1 s = none) ∧ ∀ s, 8 ≤ s → q.2.2.2.1 s = none
theorem bk4.le {b : Nat} (h : bk4 b) : b ≤ 32 := by unfold bk4 at h; omega
theorem inv_0 : inv o_0 q_0 (4, 0, 0) := by
  have hr : okR o_0 [] ∧ unR o_0 [] := ⟨fun e h => (by cases h), unR_nd.mpr List.nodup_nil⟩
  have hk : okM o_0 q_0 := ⟨fun i _ h => (by cases h), ⟨hr, hr, hr⟩, ⟨fun s e h => (by cases h), fun s t a b h => (by cases h)⟩, fun v x h => (by cases h)⟩
  have h0 : cn q_0.2.2.1 16 ≤ 12 := by
    rw [show cn q_0.2.2.1 16 = 0 from cn_0 16]
    omega
  exact ⟨hk, fun i _ h => (by cases h), h0, Or.inl rfl, ⟨fun u h => (by cases h), List.nodup_nil, rfl⟩, Nat.zero_le _, fun _ _ => rfl, fun _ _ => rfl⟩
theorem vk_cong {o o2 : Obs} {l : List (Nat × Nat)} (h : ∀ e ∈ l, o2.2.1 e.1 = o.2.1 e.1) : vk o2 l = vk o l := List.map_congr_left h
theorem inv_make {o : Obs} {q : Mps} {n : Nms} (h : inv o q n) {i va : Nat} (hi : i < 32) (hfr : o.1 i = false) (hva : va < 100) : inv (va_up o.1 i true, va_up o.2.1 i va, va_up o.2.2.1 i false, va_up o.2.2.2 i (fun _ => none)) q n := by
  obtain ⟨⟨h1, ⟨r0, r1, r4⟩, s1, p1⟩, hO, hrest⟩ := h
  have live : ∀ x, o.1 x = true → va_up o.1 i true x = true := fun x hx => by unfold va_up; split; rfl; exact hx
  have ne : ∀ x, o.1 x = true → x ≠ i := fun x hx e => by rw [e, hfr] at hx; cases hx
  have row : ∀ {l : List (Nat × Nat)}, okR o l ∧ unR o l → okR (va_up o.1 i true, va_up o.2.1 i va, va_up o.2.2.1 i false, va_up o.2.2.2 i (fun _ => none)) l ∧ unR (va_up o.1 i true, va_up o.2.1 i va, va_up o.2.2.1 i false, va_up o.2.2.2 i (fun _ => none)) l := by
    rintro l ⟨a, b⟩
    refine ⟨fun e he => ⟨⟨(a e he).1.1, live _ (a e he).1.2⟩, (a e he).2.1, live _ (a e he).2.2⟩, unR_nd.mpr ?_⟩
    rw [vk_cong (o := o) (fun e he => by show va_up o.2.1 i va e.1 = _; rw [va_up_ne _ _ (ne _ (a e he).1.2)])]
    exact unR_nd.mp b
  refine ⟨⟨fun j hj hl => ?_, ⟨row r0, row r1, row r4⟩, ⟨fun s e hs => ⟨⟨(s1.1 s e hs).1.1, live _ (s1.1 s e hs).1.2⟩, (s1.1 s e hs).2.1, live _ (s1.1 s e hs).2.2⟩, s1.2⟩, fun v x hx => ⟨(p1 v x hx).1, live _ (p1 v x hx).2⟩⟩, fun j hj hl w hw z hz => ?_, hrest⟩
  · show va_up o.2.1 i va j < 100
    have hl : va_up o.1 i true j = true := hl
    by_cases e1 : j = i
    · rw [e1, va_up_self]; exact hva
    · rw [va_up_ne _ _ e1] at hl ⊢; exact h1 j hj hl
  · have hl : va_up o.1 i true j = true := hl
    have hz : va_up o.2.2.2 i (fun _ => none) j w = some z := hz
    by_cases e1 : j = i
    · rw [e1, va_up_self] at hz; cases hz
    · rw [va_up_ne _ _ e1] at hl hz
      exact ⟨(hO j hj hl w hw z hz).1, live z (hO j hj hl w hw z hz).2⟩
theorem inv_refer {o : Obs} {q : Mps} {n : Nms} (h : inv o q n) {x w t : Int32} {j wh : Nat} (hok : rf_ok o x w t = true) : inv (o.1, o.2.1, o.2.2.1, va_up o.2.2.2 j (va_up (o.2.2.2 j) wh (tI t))) q n := by
  obtain ⟨h1, hO, hrest⟩ := h
  refine ⟨h1, fun i hi hl z hz y hy => ?_, hrest⟩
  have hy : va_up o.2.2.2 j (va_up (o.2.2.2 j) wh (tI t)) i z = some y := hy
  by_cases e1 : i = j
  · subst e1
    rw [va_up_self] at hy
    by_cases e2 : z = wh
    · subst e2
      rw [va_up_self] at hy
      unfold rf_ok at hok
      simp only [Bool.and_eq_true, Bool.or_eq_true, decide_eq_true_eq] at hok
      unfold tI at hy
      split at hy
      · cases hy
      · rename_i hne
        have ha := hok.2.2.2.resolve_left hne
        obtain ⟨y2, hy2, rfl, hl2⟩ := al_cases ha
        rw [nI_clamp (by omega)] at hy
        cases hy
        exact ⟨hy2, hl2⟩
    · rw [va_up_ne _ _ e2] at hy
      exact hO i hi hl z hz y hy
  · rw [va_up_ne _ _ e1] at hy
    exact hO i hi hl z hz y hy
theorem inv_root {o : Obs} {q : Mps} {n : Nms} (h : inv o q n) {j : Nat} {b : Bool} : inv (o.1, o.2.1, va_up o.2.2.1 j b, o.2.2.2) q n := h
theorem inv_tick {o : Obs} {q : Mps} {n : Nms} (h : inv o q n) {mp : Nat} : inv o q (tk_M n mp) := by
  unfold tk_M
  split
  · obtain ⟨a, b, c, d, ⟨e1, e2, e3⟩, f⟩ := h
    exact ⟨a, b, c, d, ⟨fun u hu => ⟨(e1 u hu).1, Nat.le_succ_of_le (e1 u hu).2⟩, e2, e3⟩, f⟩
  · exact h
theorem nd_set {l : List Nat} {j y : Nat} (h : l.Nodup) (hy : y ∉ l) : (l.set j y).Nodup := by
  rw [nd_ix] at h ⊢
  intro a b z ha hb
  rw [List.getElem?_set] at ha hb
  split at ha
  · rename_i e1
    split at ha
    · cases ha
      split at hb
      · rename_i e2; exact e1.symm.trans e2
      · exact absurd (List.mem_of_getElem? hb) hy
    · cases ha
  · split at hb
    · split at hb
      · cases hb; exact absurd (List.mem_of_getElem? ha) hy
      · cases hb
    · exact h a b z ha hb
/-- an entry was used: n is the time behind the tick -/
theorem inv_use {o : Obs} {q : Mps} {n : Nms} (h : inv o q n) {mp key j : Nat} {e : Nat × Nat} (hh : hit o q mp key j e) (hu : mp = 1 → 1 ≤ n.2.1 ∧ n.2.1 ∉ q.2.1.2) : inv o (us_M q n.2.1 mp j e) n := by
  unfold us_M
  split
  · rename_i e1
    obtain ⟨a, b, c, d, ⟨e2, e3, e4⟩, f⟩ := h
    refine ⟨a, b, c, d, ⟨fun u hu2 => ?_, nd_set e3 (hu e1).2, by show (q.2.1.2.set j n.2.1).length = _; rw [List.length_set]; exact e4⟩, f⟩
    rcases List.mem_or_eq_of_mem_set hu2 with h1 | h1
    · exact e2 u h1
    · rw [h1]; exact ⟨(hu e1).1, Nat.le_refl _⟩
  · split
    · rename_i e1
      obtain ⟨rfl, hj⟩ := e1
      have hm : q.2.2.2.2[j]? = some e := hh.1
      have hp := mv_perm hm
      obtain ⟨⟨a1, ⟨a2, a3, a4⟩, a5⟩, b, c, d, e2, f, g⟩ := h
      exact ⟨⟨a1, ⟨a2, a3, a4.1.perm hp, a4.2.perm hp⟩, a5⟩, b, c, d, e2, by show (q.2.2.2.2.eraseIdx j ++ [e]).length ≤ 6; rw [hp.length_eq]; exact f, g⟩
    · exact h
def uqS (f : Nat → Option (Nat × Nat)) : Prop := ∀ s t a b, f s = some a → f t = some b → a.1 = b.1 → s = t
theorem clo_ok : ∀ (n : Nat) {f : Nat → Option (Nat × Nat)} {fr s : Nat}, f fr = none → fr < 16 → s < 16 → uqS f → (∀ z, 16 ≤ z → f z = none) → uqS (clo n f fr s) ∧ (∀ z e, clo n f fr s z = some e → ∃ t, f t = some e) ∧ ∀ z, 16 ≤ z → clo n f fr s z = none
  | 0, f, fr, s, _, _, _, hu, hz => ⟨hu, fun z e h => ⟨z, h⟩, hz⟩
  | n + 1, f, fr, s, hf, hfr, hs, hu, hz => by
    cases hx : f s with
    | none => rw [clo_none hx]; exact ⟨hu, fun z e h => ⟨z, h⟩, hz⟩
    | some e =>
      have hcl : clo (n + 1) f fr s = if (7 * e.1 % 16 + 16 - fr) % 16 = 0 ∨ (s + 16 - fr) % 16 < (7 * e.1 % 16 + 16 - fr) % 16 then clo n (va_up (va_up f fr (some e)) s none) s ((s + 1) % 16) else clo n f fr ((s + 1) % 16) := by
        show (match f s with | none => f | some e => _) = _
        rw [hx]
      rw [hcl]
      split
      · have hne : s ≠ fr := fun z => by rw [z, hf] at hx; cases hx
        have hsub : ∀ z a, va_up (va_up f fr (some e)) s none z = some a → (z = fr ∧ a = e) ∨ (z ≠ s ∧ z ≠ fr ∧ f z = some a) := by
          intro z a h
          unfold va_up at h
          split at h
          · cases h
          · rename_i h1
            split at h
            · rename_i h2
              cases h
              exact Or.inl ⟨h2, rfl⟩
            · rename_i h2
              exact Or.inr ⟨h1, h2, h⟩
        have hu2 : uqS (va_up (va_up f fr (some e)) s none) := by
          intro z y a b ha hb hab
          rcases hsub z a ha with ⟨rfl, rfl⟩ | ⟨h1, h2, h3⟩
          · rcases hsub y b hb with ⟨rfl, rfl⟩ | ⟨h4, h5, h6⟩
            · rfl
            · exact absurd (hu s y a b hx h6 hab).symm h4
          · rcases hsub y b hb with ⟨rfl, rfl⟩ | ⟨h4, h5, h6⟩
            · exact absurd (hu z s a b h3 hx hab) h1
            · exact hu z y a b h3 h6 hab
        have hz2 : ∀ z, 16 ≤ z → va_up (va_up f fr (some e)) s none z = none := fun z hz3 => by
          rw [va_up_ne _ _ (by omega), va_up_ne _ _ (by omega)]
          exact hz z hz3
        obtain ⟨r1, r2, r3⟩ := clo_ok n (f := va_up (va_up f fr (some e)) s none) (fr := s) (s := (s + 1) % 16) (va_up_self _ _ _) hs (by omega) hu2 hz2
        refine ⟨r1, fun z a h => ?_, r3⟩
        obtain ⟨t, ht⟩ := r2 z a h
        rcases hsub t a ht with ⟨-, rfl⟩ | ⟨-, -, h3⟩
        · exact ⟨s, hx⟩
        · exact ⟨t, h3⟩
      · exact clo_ok n hf hfr (by omega) hu hz
theorem inv_drop {o : Obs} {q : Mps} {n : Nms} (h : inv o q n) {mp key j : Nat} {e : Nat × Nat} (hmp : mp < 5) (hh : hit o q mp key j e) : inv o (dr_M q mp j) n := by
  obtain ⟨⟨a1, ⟨r0, r1, r4⟩, s1, p1⟩, b, c, d, ⟨e1, e2, e3⟩, f, g, g2⟩ := h
  unfold hit at hh
  rcases mp with _ | _ | _ | _ | _ | mp
  · exact ⟨⟨a1, ⟨⟨r0.1.sub (List.eraseIdx_sublist _ _), r0.2.sub (List.eraseIdx_sublist _ _)⟩, r1, r4⟩, s1, p1⟩, b, c, d, ⟨e1, e2, e3⟩, f, g, g2⟩
  · refine ⟨⟨a1, ⟨r0, ⟨r1.1.sub (List.eraseIdx_sublist _ _), r1.2.sub (List.eraseIdx_sublist _ _)⟩, r4⟩, s1, p1⟩, b, c, d, ⟨fun u hu => e1 u (List.mem_of_mem_eraseIdx hu), (List.eraseIdx_sublist _ _).nodup e2, ?_⟩, f, g, g2⟩
    show (q.2.1.2.eraseIdx j).length = (q.2.1.1.eraseIdx j).length
    have hj := (List.getElem?_eq_some_iff.mp hh.1).1
    rw [List.length_eraseIdx_of_lt hj, List.length_eraseIdx_of_lt (by omega), e3]
  · obtain ⟨h1, h2, h3⟩ := hh
    have hu0 : uqS (va_up q.2.2.1 j none) := fun s t a b ha hb hab => by
      unfold va_up at ha hb
      split at ha
      · cases ha
      · split at hb
        · cases hb
        · exact s1.2 s t a b ha hb hab
    have hz0 : ∀ z, 16 ≤ z → va_up q.2.2.1 j none z = none := fun z hz => by
      unfold va_up
      split
      · rfl
      · exact g z hz
    obtain ⟨c1, c2, c3⟩ := clo_ok 15 (f := va_up q.2.2.1 j none) (fr := j) (s := (j + 1) % 16) (va_up_self _ _ _) h1 (by omega) hu0 hz0
    refine ⟨⟨a1, ⟨r0, r1, r4⟩, ⟨fun s x hx => ?_, c1⟩, p1⟩, b, ?_, d, ⟨e1, e2, e3⟩, f, c3, g2⟩
    · obtain ⟨t, ht⟩ := c2 s x hx
      unfold va_up at ht
      split at ht
      · cases ht
      · exact s1.1 t x ht
    · show cn (clo 15 (va_up q.2.2.1 j none) j ((j + 1) % 16)) 16 ≤ 12
      rw [cn_clo 15 h1 (by omega) (va_up_self _ _ _)]
      have := cn_dn (f := q.2.2.1) h1 h2
      omega
  · refine ⟨⟨a1, ⟨r0, r1, r4⟩, s1, fun v x hx => ?_⟩, b, c, d, ⟨e1, e2, e3⟩, f, g, fun s hs => ?_⟩
    · have hx : va_up q.2.2.2.1 j none v = some x := hx
      unfold va_up at hx
      split at hx
      · cases hx
      · exact p1 v x hx
    · show va_up q.2.2.2.1 j none s = none
      unfold va_up
      split
      · rfl
      · exact g2 s hs
  · refine ⟨⟨a1, ⟨r0, r1, ⟨r4.1.sub (List.eraseIdx_sublist _ _), r4.2.sub (List.eraseIdx_sublist _ _)⟩⟩, s1, p1⟩, b, c, d, ⟨e1, e2, e3⟩, ?_, g, g2⟩
    show (q.2.2.2.2.eraseIdx j).length ≤ 6
    have := (List.eraseIdx_sublist q.2.2.2.2 j).length_le
    omega
  · omega
theorem inv_set {o : Obs} {q : Mps} {n : Nms} (h : inv o q n) {mp key j val : Nat} {e : Nat × Nat} (hmp : mp < 5) (hh : hit o q mp key j e) (hv : val < 32) (hva : o.1 val = true) : inv o (st_M q mp j (e.1, val)) n ∧ hit o (st_M q mp j (e.1, val)) mp key j (e.1, val) := by
  obtain ⟨⟨a1, ⟨r0, r1, r4⟩, s1, p1⟩, b, c, d, ⟨e1, e2, e3⟩, f, g, g2⟩ := h
  have hget : ∀ {l : List (Nat × Nat)}, l[j]? = some e → (l.set j (e.1, val))[j]? = some (e.1, val) := fun h => by rw [List.getElem?_set_self (List.getElem?_eq_some_iff.mp h).1]
  unfold hit at hh
  rcases mp with _ | _ | _ | _ | _ | mp
  · exact ⟨⟨⟨a1, ⟨⟨r0.1.set hh.1 hv hva, r0.2.set hh.1⟩, r1, r4⟩, s1, p1⟩, b, c, d, ⟨e1, e2, e3⟩, f, g, g2⟩, hget hh.1, hh.2⟩
  · exact ⟨⟨⟨a1, ⟨r0, ⟨r1.1.set hh.1 hv hva, r1.2.set hh.1⟩, r4⟩, s1, p1⟩, b, c, d, ⟨e1, e2, by show _ = (q.2.1.1.set j (e.1, val)).length; rw [List.length_set]; exact e3⟩, f, g, g2⟩, hget hh.1, hh.2⟩
  · obtain ⟨h1, h2, h3⟩ := hh
    have hs : ∀ s x, va_up q.2.2.1 j (some (e.1, val)) s = some x → ∃ y, q.2.2.1 s = some y ∧ y.1 = x.1 ∧ (x = (e.1, val) ∨ x = y) := by
      intro s x hx
      unfold va_up at hx
      split at hx
      · rename_i e4
        cases hx
        exact ⟨e, by rw [e4]; exact h2, rfl, Or.inl rfl⟩
      · exact ⟨x, hx, rfl, Or.inr rfl⟩
    refine ⟨⟨⟨a1, ⟨r0, r1, r4⟩, ⟨fun s x hx => ?_, fun s t x y hx hy hxy => ?_⟩, p1⟩, b, ?_, d, ⟨e1, e2, e3⟩, f, fun s hz => ?_, g2⟩, h1, va_up_self _ _ _, h3⟩
    · obtain ⟨y, hy, hy1, hy2⟩ := hs s x hx
      rcases hy2 with rfl | rfl
      · exact ⟨(s1.1 j e h2).1, hv, hva⟩
      · exact s1.1 s x hy
    · obtain ⟨x2, hx2, hx3, -⟩ := hs s x hx
      obtain ⟨y2, hy2, hy3, -⟩ := hs t y hy
      exact s1.2 s t x2 y2 hx2 hy2 (hx3.trans (hxy.trans hy3.symm))
    · show cn (va_up q.2.2.1 j (some (e.1, val))) 16 ≤ 12
      rw [cn_same h2 16]
      exact c
    · show va_up q.2.2.1 j (some (e.1, val)) s = none
      rw [va_up_ne _ _ (by omega)]
      exact g s hz
  · obtain ⟨h1, h2, h3, h4⟩ := hh
    refine ⟨⟨⟨a1, ⟨r0, r1, r4⟩, s1, fun v x hx => ?_⟩, b, c, d, ⟨e1, e2, e3⟩, f, g, fun s hz => ?_⟩, h1, va_up_self _ _ _, h3, h4⟩
    · have hx : va_up q.2.2.2.1 j (some val) v = some x := hx
      unfold va_up at hx
      split at hx
      · cases hx; exact ⟨hv, hva⟩
      · exact p1 v x hx
    · show va_up q.2.2.2.1 j (some val) s = none
      rw [va_up_ne _ _ (by omega)]
      exact g2 s hz
  · exact ⟨⟨⟨a1, ⟨r0, r1, ⟨r4.1.set hh.1 hv hva, r4.2.set hh.1⟩⟩, s1, p1⟩, b, c, d, ⟨e1, e2, e3⟩, by show (q.2.2.2.2.set j (e.1, val)).length ≤ 6; rw [List.length_set]; exact f, g, g2⟩, hget hh.1, hh.2⟩
  · omega
/-- a new entry: n is the time behind the tick -/
theorem inv_add {o : Obs} {q q1 : Mps} {n n1 : Nms} (h : inv o q n) {mp key val : Nat} (hmp : mp < 5) (hno : ∀ j e, ¬ hit o q mp key j e) (hk : key < 32) (hka : o.1 key = true) (hv : val < 32) (hva : o.1 val = true) (h12 : mp = 2 → cn q.2.2.1 16 < 12) (h8 : mp = 3 → o.2.1 key < 8) (hu : mp = 1 → 1 ≤ n.2.1 ∧ n.2.1 ∉ q.2.1.2) (had : adR o q n mp key val q1 n1) : inv o q1 n1 := by
  obtain ⟨⟨a1, ⟨r0, r1, r4⟩, s1, p1⟩, b, c, d, ⟨e1, e2, e3⟩, f, g, g2⟩ := h
  unfold adR at had
  rcases mp with _ | _ | _ | _ | _ | mp
  · obtain ⟨rfl, rfl⟩ := had
    have hc := r0.1.cons hk hka hv hva
    have hn : unR o ((key, val) :: q.1) := r0.2.cons hno
    refine ⟨⟨a1, ⟨⟨hc.perm wkn_perm, hn.perm wkn_perm⟩, r1, r4⟩, s1, p1⟩, b, c, ?_, ⟨e1, e2, e3⟩, f, g, g2⟩
    show bk4 (wk_b n.1 q.1)
    unfold wk_b
    split
    · unfold bk4 at d ⊢; omega
    · exact d
  · obtain ⟨rfl, hn1⟩ := had
    rw [hn1]
    have hc := r1.1.cons hk hka hv hva
    have hn : unR o ((key, val) :: q.2.1.1) := r1.2.cons hno
    have hp : (q.2.1.1 ++ [(key, val)]).Perm ((key, val) :: q.2.1.1) := List.perm_append_comm
    refine ⟨⟨a1, ⟨r0, ⟨hc.perm hp, hn.perm hp⟩, r4⟩, s1, p1⟩, b, c, d, ⟨fun u hm => ?_, ?_, ?_⟩, f, g, g2⟩
    · rcases List.mem_append.mp hm with h1 | h1
      · exact e1 u h1
      · rw [List.mem_singleton.mp h1]; exact ⟨(hu rfl).1, Nat.le_refl _⟩
    · have hp2 : (q.2.1.2 ++ [n.2.1]).Perm (n.2.1 :: q.2.1.2) := List.perm_append_comm
      exact hp2.nodup_iff.mpr (List.nodup_cons.mpr ⟨(hu rfl).2, e2⟩)
    · show (q.2.1.2 ++ [n.2.1]).length = (q.2.1.1 ++ [(key, val)]).length
      rw [List.length_append, List.length_append, e3]
      rfl
  · obtain ⟨⟨t, ht, hpr, rfl⟩, rfl⟩ := had
    have htn : q.2.2.1 t = none := by obtain ⟨z, _, _, h2, _⟩ := hpr; exact h2
    have hs : ∀ s x, va_up q.2.2.1 t (some (key, val)) s = some x → (s = t ∧ x = (key, val)) ∨ q.2.2.1 s = some x := by
      intro s x hx
      unfold va_up at hx
      split at hx
      · cases hx; exact Or.inl ⟨by assumption, rfl⟩
      · exact Or.inr hx
    have hnk : ∀ s x, q.2.2.1 s = some x → x.1 ≠ key := fun s x hx e4 => by
      rcases Nat.lt_or_ge s 16 with h1 | h1
      · exact hno s x ⟨h1, hx, e4⟩
      · rw [g s h1] at hx; cases hx
    refine ⟨⟨a1, ⟨r0, r1, r4⟩, ⟨fun s x hx => ?_, fun s t2 x y hx hy hxy => ?_⟩, p1⟩, b, ?_, d, ⟨e1, e2, e3⟩, f, fun s hz => ?_, g2⟩
    · rcases hs s x hx with ⟨-, rfl⟩ | h1
      · exact ⟨⟨hk, hka⟩, hv, hva⟩
      · exact s1.1 s x h1
    · rcases hs s x hx with ⟨h1, rfl⟩ | h1
      · rcases hs t2 y hy with ⟨h2, rfl⟩ | h2
        · rw [h1, h2]
        · exact absurd hxy.symm (hnk t2 y h2)
      · rcases hs t2 y hy with ⟨h2, rfl⟩ | h2
        · exact absurd hxy (hnk s x h1)
        · exact s1.2 s t2 x y h1 h2 hxy
    · show cn (va_up q.2.2.1 t (some (key, val))) 16 ≤ 12
      rw [cn_up ht htn]
      have := h12 rfl
      omega
    · show va_up q.2.2.1 t (some (key, val)) s = none
      rw [va_up_ne _ _ (by omega)]
      exact g s hz
  · obtain ⟨rfl, rfl⟩ := had
    refine ⟨⟨a1, ⟨r0, r1, r4⟩, s1, fun v x hx => ?_⟩, b, c, d, ⟨e1, e2, e3⟩, f, g, fun s hz => ?_⟩
    · have hx : va_up q.2.2.2.1 (o.2.1 key) (some val) v = some x := hx
      unfold va_up at hx
      split at hx
      · cases hx; exact ⟨hv, hva⟩
      · exact p1 v x hx
    · show va_up q.2.2.2.1 (o.2.1 key) (some val) s = none
      rw [va_up_ne _ _ (by have := h8 rfl; omega)]
      exact g2 s hz
  · obtain ⟨rfl, rfl⟩ := had
    have hc := r4.1.cons hk hka hv hva
    have hn : unR o ((key, val) :: q.2.2.2.2) := r4.2.cons hno
    have hp : (q.2.2.2.2 ++ [(key, val)]).Perm ((key, val) :: q.2.2.2.2) := List.perm_append_comm
    refine ⟨⟨a1, ⟨r0, r1, ?_⟩, s1, p1⟩, b, c, d, ⟨e1, e2, e3⟩, ?_, g, g2⟩
    · show okR o (if 6 < q.2.2.2.2.length + 1 then _ else _) ∧ unR o (if 6 < q.2.2.2.2.length + 1 then _ else _)
      split
      · exact ⟨(hc.perm hp).sub (List.tail_sublist _), (hn.perm hp).sub (List.tail_sublist _)⟩
      · exact ⟨hc.perm hp, hn.perm hp⟩
    · show (if 6 < q.2.2.2.2.length + 1 then (q.2.2.2.2 ++ [(key, val)]).tail else q.2.2.2.2 ++ [(key, val)]).length ≤ 6
      split
      · rw [List.length_tail, List.length_append]
        show q.2.2.2.2.length + 1 - 1 ≤ 6
        omega
      · rw [List.length_append]
        show q.2.2.2.2.length + 1 ≤ 6
        omega
  · omega

/-! The reference's use and goes, in the model's words. -/
theorem so_C.mono {l : Launch} {s0 : State} {D : va_G} {cl : List vw_C} {y : MethodName} {b : ByteArray} {n : Nat} {r : Option FieldType} {k mc ms : Nat} {av : List Value} {σ : so_S} {post post2 : Option Value → so_S → Prop} (h : so_C l s0 D cl y b n r k mc ms av σ post) (hp : ∀ v σ1, post v σ1 → post2 v σ1) : so_C l s0 D cl y b n r k mc ms av σ post2 := by
  intro p e ha hc hk s m args below hf happ hP hK
  obtain ⟨j, o, h1, h2, h3, ⟨⟨⟨v, σ1, h4, h5, h6⟩, h7⟩, h8⟩⟩ := h p e ha hc hk s m args below hf happ hP hK
  exact ⟨j, o, h1, h2, h3, ⟨⟨v, σ1, h4, hp v σ1 h5, h6⟩, h7⟩, h8⟩
theorem mo_C.mono {l : Launch} {s0 : State} {D : va_G} {ca : Nat → ClassId} {mo : Nat} {ar : Nat → Nat} {σ : so_S} {y : MethodName} {b : ByteArray} {n : Nat} {r : Option FieldType} {k : Nat} {av : List Value} {post post2 : Option Value → Rf → Prop} (h : mo_C l s0 D ca mo ar σ y b n r k av post) (hp : ∀ v R1, post v R1 → post2 v R1) : mo_C l s0 D ca mo ar σ y b n r k av post2 :=
  so_C.mono h (fun v _ ⟨R1, h1, h2⟩ => ⟨R1, hp v R1 h1, h2⟩)
def us_M (q : Mps) (tm mp j : Nat) (e : Nat × Nat) : Mps := if mp = 1 then (q.1, (q.2.1.1, q.2.1.2.set j tm), q.2.2) else if mp = 4 ∧ j + 1 < q.2.2.2.2.length then (q.1, q.2.1, q.2.2.1, q.2.2.2.1, q.2.2.2.2.eraseIdx j ++ [e]) else q
def uw_M (q : Mps) (k : Wks) (mp j : Nat) : Wks := if mp = 4 ∧ j + 1 < q.2.2.2.2.length then (k.1, va_up k.2.1 4 true, k.2.2) else k
theorem c_Mo_useM (l : Launch) {s0 : State} {D : va_G} {ca : Nat → ClassId} (hB : so_B tbl s0 D vcl (tyl ca)) {σ : so_S} {mo : Nat} {ar : Nat → Nat} {R : Rf} (M : MoR ca σ mo ar R) {o : Obs} {q : Mps} {n : Nms} {k : Wks} (h0 : refR R o q n k) {mp key j : Nat} {e : Nat × Nat} (hm : mp < 5) (h : hit o q mp key j e) :
    mo_C l s0 D ca mo ar σ y_Mo_use b_Mo_use 5 none 2 [.int (nI mp), .int (nI (32 * mp + j))] (fun v R1 => v = none ∧ refR R1 o (us_M q n.2.1 mp j e) n (uw_M q k mp j) ∧ R1.1 0 = R.1 0) := by
  by_cases c1 : mp = 1
  · subst c1
    have hj := h.lt hm
    have hj2 : j < q.2.1.1.length := hj
    have hl := h0.2.1.2.1.1.2.1
    refine (c_Mo_use_1 l hB M (32 * 1 + j) (by omega)).mono (fun v R1 hp => ?_)
    obtain ⟨rfl, rfl⟩ := hp
    have hag : eqo 1 R (sa R 10 (32 * 1 + j) (R.1 14)) := eqo.sa10 (by omega) (by omega)
    refine ⟨rfl, ⟨hag.agr.ob (fun _ _ => rfl) h0.1, ?_, h0.2.2.1, hag.agr.wk2 rfl h0.2.2.2⟩, rfl⟩
    obtain ⟨a, ⟨b1, b2, b3⟩, ⟨c1, c2⟩, ⟨d1, d2⟩, ee⟩ := h0.2.1
    show mpR _ (q.1, (q.2.1.1, q.2.1.2.set j n.2.1), q.2.2)
    refine ⟨hag.row (by decide) a, ⟨b1, fun i x hx => ?_, by rw [List.length_set]; exact b3⟩, ⟨hag.agr.id (by decide) c1, c2⟩, ⟨hag.agr.pl (by decide) d1, d2⟩, hag.row (by decide) ee⟩
    show upd (R.2.1 10) (32 * 1 + j) (R.1 14) (32 + i) = nI x
    unfold upd
    rw [List.getElem?_set] at hx
    by_cases c : j = i
    · rw [if_pos c] at hx
      subst c
      rw [if_pos (by omega)] at hx
      cases hx
      rw [if_pos rfl]
      exact h0.2.2.1.2.1
    · rw [if_neg c] at hx
      rw [if_neg (by omega)]
      exact b2 i x hx
  · by_cases c4 : mp = 4
    · subst c4
      have hj : j < q.2.2.2.2.length := h.lt hm
      refine (c_Mo_use_4 l hB M (la := q.2.2.2.2) j h0.2.1.2.2.2.2 hj).mono (fun v R1 hp => ?_)
      obtain ⟨rfl, hp⟩ := hp
      refine ⟨rfl, ?_⟩
      rcases hp with ⟨x, h1, h2, h3, h4, h5, h6⟩ | ⟨h1, h2⟩
      · have hex : x = e := Option.some.inj (h2.symm.trans h.1)
        subst hex
        have e1 : us_M q n.2.1 4 j x = (q.1, q.2.1, q.2.2.1, q.2.2.2.1, q.2.2.2.2.eraseIdx j ++ [x]) := by
          unfold us_M
          rw [if_neg (by decide), if_pos ⟨rfl, h1⟩]
        have e2 : uw_M q k 4 j = (k.1, va_up k.2.1 4 true, k.2.2) := by
          unfold uw_M
          rw [if_pos ⟨rfl, h1⟩]
        rw [e1, e2]
        obtain ⟨a, ⟨b1, b2, b3⟩, ⟨c1, c2⟩, ⟨d1, d2⟩, ee⟩ := h0.2.1
        have hl := b1.2.1
        refine ⟨⟨h4.ob (fun j hj => ?_) h0.1, ⟨h4.row (by decide) a, ⟨h4.row (by decide) b1, h4.use (by decide) (show q.2.1.2.length ≤ 32 by omega) b2, b3⟩, ⟨h4.id (by decide) c1, (h4.2.2 2 (by decide)).trans c2⟩, ⟨h4.pl (by decide) d1, (h4.2.2 3 (by decide)).trans d2⟩, h3⟩, ?_, h4.wk h6 h0.2.2.2⟩, by rw [h5]⟩
        · rw [h6]
          show va_up R.2.2 16 _ j = _
          rw [va_up_ne _ _ hj]
        · unfold nuR
          rw [h5]
          exact h0.2.2.1
      · subst h2
        have e1 : us_M q n.2.1 4 j e = q := by
          unfold us_M
          rw [if_neg (by decide), if_neg (by omega)]
        have e2 : uw_M q k 4 j = k := by
          unfold uw_M
          rw [if_neg (by omega)]
        rw [e1, e2]
        exact ⟨h0, rfl⟩
    · refine (c_Mo_use l hB M mp (nI (32 * mp + j)) hm c1 c4).mono (fun v R1 hp => ?_)
      obtain ⟨rfl, rfl⟩ := hp
      have e1 : us_M q n.2.1 mp j e = q := by
        unfold us_M
        rw [if_neg c1, if_neg (fun z => c4 z.1)]
      have e2 : uw_M q k mp j = k := by
        unfold uw_M
        rw [if_neg (fun z => c4 z.1)]
      rw [e1, e2]
      exact ⟨rfl, h0, rfl⟩
/-- an entry goes -/
def dr_M (q : Mps) (mp j : Nat) : Mps := if mp = 0 then (q.1.eraseIdx j, q.2) else if mp = 1 then (q.1, (q.2.1.1.eraseIdx j, q.2.1.2.eraseIdx j), q.2.2) else if mp = 2 then (q.1, q.2.1, clo 15 (va_up q.2.2.1 j none) j ((j + 1) % 16), q.2.2.2) else if mp = 3 then (q.1, q.2.1, q.2.2.1, va_up q.2.2.2.1 j none, q.2.2.2.2) else (q.1, q.2.1, q.2.2.1, q.2.2.2.1, q.2.2.2.2.eraseIdx j)
theorem cn_out {α : Type} {f : Nat → Option α} {t : Nat} {x : Option α} : ∀ {n : Nat}, n ≤ t → cn (va_up f t x) n = cn f n
  | 0, _ => rfl
  | n + 1, h => by
    unfold cn
    rw [cn_out (by omega), va_up_ne _ _ (by omega)]
theorem cn_up {α : Type} {f : Nat → Option α} {t : Nat} {x : α} : ∀ {n : Nat}, t < n → f t = none → cn (va_up f t (some x)) n = cn f n + 1
  | 0, h, _ => absurd h (Nat.not_lt_zero _)
  | n + 1, h, h1 => by
    unfold cn
    by_cases c : t = n
    · subst c
      rw [cn_out (Nat.le_refl _), va_up_self, h1]
      rfl
    · rw [cn_up (by omega) h1, va_up_ne _ _ (fun z => c z.symm)]
      omega
theorem cn_dn {α : Type} {f : Nat → Option α} {t : Nat} {x : α} : ∀ {n : Nat}, t < n → f t = some x → cn (va_up f t none) n + 1 = cn f n
  | 0, h, _ => absurd h (Nat.not_lt_zero _)
  | n + 1, h, h1 => by
    unfold cn
    by_cases c : t = n
    · subst c
      rw [cn_out (Nat.le_refl _), va_up_self, h1]
      rfl
    · have := cn_dn (n := n) (by omega) h1
      rw [va_up_ne _ _ (fun z => c z.symm)]
      omega
theorem cn_clo : ∀ (m : Nat) {f : Nat → Option (Nat × Nat)} {fr s : Nat}, fr < 16 → s < 16 → f fr = none → cn (clo m f fr s) 16 = cn f 16
  | 0, f, fr, s, _, _, _ => rfl
  | m + 1, f, fr, s, h1, h2, h3 => by
    unfold clo
    cases hx : f s with
    | none => rfl
    | some e =>
      have hne : fr ≠ s := fun z => by rw [z, hx] at h3; cases h3
      simp only
      split
      · rw [cn_clo m h2 (Nat.mod_lt _ (by decide)) (va_up_self _ _ _)]
        have e1 := cn_up (x := e) (n := 16) h1 h3
        have e2 := cn_dn (f := va_up f fr (some e)) (x := e) (n := 16) h2 (by rw [va_up_ne _ _ (fun z => hne z.symm)]; exact hx)
        omega
      · exact cn_clo m h1 (Nat.mod_lt _ (by decide)) h3
theorem cn_full {α : Type} {f : Nat → Option α} : ∀ {n : Nat}, (∀ t, t < n → f t ≠ none) → cn f n = n
  | 0, _ => rfl
  | n + 1, h => by
    unfold cn
    rw [cn_full (fun t ht => h t (by omega)), if_pos (by
      cases hx : f n with
      | none => exact absurd hx (h n (by omega))
      | some e => rfl)]
theorem cn_free {α : Type} {f : Nat → Option α} {n : Nat} (h : cn f n < n) : ∃ t, t < n ∧ f t = none := by
  rcases Classical.em (∃ t, t < n ∧ f t = none) with h1 | h1
  · exact h1
  · have := cn_full (f := f) (n := n) (fun t ht hx => h1 ⟨t, ht, hx⟩)
    omega
theorem c_Mo_goesM (l : Launch) {s0 : State} {D : va_G} {ca : Nat → ClassId} (hB : so_B tbl s0 D vcl (tyl ca)) {σ : so_S} {mo : Nat} {ar : Nat → Nat} {R : Rf} (M : MoR ca σ mo ar R) {o : Obs} {q : Mps} {n : Nms} {k : Wks} (h0 : refR R o q n k) {mp key j : Nat} {e : Nat × Nat} (hm : mp < 5) (h12 : cn q.2.2.1 16 ≤ 12) (h : hit o q mp key j e) :
    mo_C l s0 D ca mo ar σ y_Mo_goes b_Mo_goes 3 none 2 [.int (nI mp), .int (nI (32 * mp + j))] (fun v R1 => v = none ∧ refR R1 o (dr_M q mp j) n (k.1, va_up k.2.1 mp true, k.2.2) ∧ R1.1 0 = R.1 0 ∧ R1.2.2 = (sbb R 16 mp true).2.2) := by
  obtain ⟨a, ⟨b1, b2, b3⟩, ⟨c1, c2⟩, ⟨d1, d2⟩, ee⟩ := h0.2.1
  have al := a.2.1
  have bl := b1.2.1
  have el := ee.2.1
  have ul : q.2.1.2.length ≤ 32 := by omega
  have row : ∀ (l2 : List (Nat × Nat)), mp ≠ 2 → mp ≠ 3 → rowR R mp l2 → j < l2.length → eqo mp (sbb R 16 mp true) (cl_R (sbb R 16 mp true) mp (32 * mp + j) l2.length) ∧ rowR (cl_R (sbb R 16 mp true) mp (32 * mp + j) l2.length) mp (l2.eraseIdx j) := fun l2 _ _ hr hj => by
    have := hr.2.1
    exact ⟨eqo.cl (by omega) (by omega) hr.2.1, (show rowR (sbb R 16 mp true) mp l2 from hr).cl hj⟩
  have hBj : ∀ (R1 : Rf), R1.2.2 = (sbb R 16 mp true).2.2 → ∀ j, j ≠ 16 → R1.2.2 j = R.2.2 j := fun R1 hb j hj => by
    rw [hb]
    show va_up R.2.2 16 _ j = _
    rw [va_up_ne _ _ hj]
  have hnu : ∀ (R1 : Rf), R1.1 = R.1 → nuR R1 n := fun R1 hz => by
    unfold nuR
    rw [hz]
    exact h0.2.2.1
  rcases (show mp = 0 ∨ mp = 1 ∨ mp = 2 ∨ mp = 3 ∨ mp = 4 by omega) with rfl | rfl | rfl | rfl | rfl
  · have hj : j < q.1.length := h.lt hm
    obtain ⟨g1, g2⟩ := row q.1 (by decide) (by decide) a hj
    refine (c_Mo_goes l hB M 0 (32 * 0 + j) q.1.length (by decide) (by decide) (by decide) a.1 (by omega) a.2.1 (by omega) (by omega)).mono (fun v R1 hp => ?_)
    obtain ⟨rfl, rfl⟩ := hp
    have ga : agr 0 R _ := g1.agr
    exact ⟨rfl, ⟨ga.ob (hBj _ g1.2.1) h0.1, ⟨g2, ⟨ga.row (by decide) b1, ga.use (by decide) ul b2, b3⟩, ⟨ga.id (by decide) c1, (ga.2.2 2 (by decide)).trans c2⟩, ⟨ga.pl (by decide) d1, (ga.2.2 3 (by decide)).trans d2⟩, ga.row (by decide) ee⟩, hnu _ g1.1, ga.wk g1.2.1 h0.2.2.2⟩, congrFun g1.1 0, g1.2.1⟩
  · have hj : j < q.2.1.1.length := h.lt hm
    obtain ⟨g1, g2⟩ := row q.2.1.1 (by decide) (by decide) b1 hj
    refine (c_Mo_goes l hB M 1 (32 * 1 + j) q.2.1.1.length (by decide) (by decide) (by decide) b1.1 (by omega) b1.2.1 (by omega) (by omega)).mono (fun v R1 hp => ?_)
    obtain ⟨rfl, rfl⟩ := hp
    have ga : agr 1 R _ := g1.agr
    refine ⟨rfl, ⟨ga.ob (hBj _ g1.2.1) h0.1, ⟨ga.row (by decide) a, ⟨g2, fun i x hx => ?_, ?_⟩, ⟨ga.id (by decide) c1, (ga.2.2 2 (by decide)).trans c2⟩, ⟨ga.pl (by decide) d1, (ga.2.2 3 (by decide)).trans d2⟩, ga.row (by decide) ee⟩, hnu _ g1.1, ga.wk g1.2.1 h0.2.2.2⟩, congrFun g1.1 0, g1.2.1⟩
    · show dwn (R.2.1 10) (32 + j) (32 + (q.2.1.1.length - 1)) (32 + i) = nI x
      have hx2 : (q.2.1.2.eraseIdx j)[i]? = some x := hx
      have hi := (List.getElem?_eq_some_iff.mp hx2).1
      rw [List.length_eraseIdx_of_lt (by omega)] at hi
      rw [List.getElem?_eraseIdx] at hx2
      by_cases c : i < j
      · rw [if_pos c] at hx2
        rw [cl_lt c]
        exact b2 i x hx2
      · rw [if_neg c] at hx2
        rw [cl_ge (by omega) (by omega)]
        exact b2 (i + 1) x hx2
    · show (q.2.1.2.eraseIdx j).length = (q.2.1.1.eraseIdx j).length
      rw [List.length_eraseIdx_of_lt (by omega), List.length_eraseIdx_of_lt (by omega), b3]
  · have hj : j < 16 := h.1
    have hsj := h.2.1
    obtain ⟨t, ht, hft⟩ := cn_free (f := q.2.2.1) (n := 16) (by omega)
    have htj : t ≠ j := fun z => by rw [z, hsj] at hft; cases hft
    refine (c_Mo_goes_2 l hB M (sl := q.2.2.1) j hj c1 ⟨(t + 16 - j) % 16, by omega, by omega, by rw [show (j + (t + 16 - j) % 16) % 16 = t by omega]; exact hft⟩).mono (fun v R1 hp => ?_)
    obtain ⟨rfl, g2, g1, g3⟩ := hp
    have ga : agr 2 R R1 := g1.agr
    refine ⟨rfl, ⟨ga.ob (hBj _ g1.2.1) h0.1, ⟨ga.row (by decide) a, ⟨ga.row (by decide) b1, ga.use (by decide) ul b2, b3⟩, ⟨g2, ?_⟩, ⟨ga.pl (by decide) d1, (ga.2.2 3 (by decide)).trans d2⟩, ga.row (by decide) ee⟩, hnu _ g1.1, ga.wk g1.2.1 h0.2.2.2⟩, congrFun g1.1 0, g1.2.1⟩
    show R1.2.1 11 2 = nI (cn (clo 15 (va_up q.2.2.1 j none) j ((j + 1) % 16)) 16)
    rw [g3, c2, cn_clo 15 hj (Nat.mod_lt _ (by decide)) (va_up_self _ _ _)]
    have := cn_dn (n := 16) hj hsj
    rw [nI_p (by omega)]
    congr 1
    omega
  · have hj : j < 8 := h.1
    have hpj := h.2.1
    refine (c_Mo_goes_3 l hB M (32 * 3 + j) (by omega)).mono (fun v R1 hp => ?_)
    obtain ⟨rfl, rfl⟩ := hp
    have g1 : eqo 3 (sbb R 16 3 true) (sa (sa (sbb R 16 3 true) 8 (32 * 3 + j) (-1)) 11 3 (R.2.1 11 3 - 1)) := (eqo.sa8 (by omega) (by omega)).tr eqo.sa11
    have ga : agr 3 R (sa (sa (sbb R 16 3 true) 8 (32 * 3 + j) (-1)) 11 3 (R.2.1 11 3 - 1)) := g1.agr
    refine ⟨rfl, ⟨ga.ob (hBj _ g1.2.1) h0.1, ⟨ga.row (by decide) a, ⟨ga.row (by decide) b1, ga.use (by decide) ul b2, b3⟩, ⟨ga.id (by decide) c1, (ga.2.2 2 (by decide)).trans c2⟩, ⟨fun v hv => ?_, ?_⟩, ga.row (by decide) ee⟩, hnu _ g1.1, ga.wk g1.2.1 h0.2.2.2⟩, congrFun g1.1 0, g1.2.1⟩
    · show ppR _ v (va_up q.2.2.2.1 j none v)
      have k8 : (sa (sa (sbb R 16 3 true) 8 (32 * 3 + j) (-1)) 11 3 (R.2.1 11 3 - 1)).2.1 8 (96 + v) = upd (R.2.1 8) (32 * 3 + j) (-1) (96 + v) := rfl
      have k9 : (sa (sa (sbb R 16 3 true) 8 (32 * 3 + j) (-1)) 11 3 (R.2.1 11 3 - 1)).2.1 9 (96 + v) = R.2.1 9 (96 + v) := rfl
      by_cases c : v = j
      · rw [c, va_up_self]
        show (sa (sa (sbb R 16 3 true) 8 (32 * 3 + j) (-1)) 11 3 (R.2.1 11 3 - 1)).2.1 8 (96 + j) < 0
        rw [show (sa (sa (sbb R 16 3 true) 8 (32 * 3 + j) (-1)) 11 3 (R.2.1 11 3 - 1)).2.1 8 (96 + j) = upd (R.2.1 8) (32 * 3 + j) (-1) (96 + j) from rfl, show upd (R.2.1 8) (32 * 3 + j) (-1) (96 + j) = -1 from if_pos (by omega)]
        decide
      · rw [va_up_ne _ _ c]
        have h1 := d1 v hv
        unfold ppR at h1 ⊢
        rw [k8, k9]
        unfold upd
        rw [if_neg (by omega)]
        exact h1
    · show R.2.1 11 3 - 1 = nI (cn (va_up q.2.2.2.1 j none) 8)
      have := cn_dn (n := 8) hj hpj
      rw [d2, nI_p (by omega)]
      congr 1
      omega
  · have hj : j < q.2.2.2.2.length := h.lt hm
    obtain ⟨g1, g2⟩ := row q.2.2.2.2 (by decide) (by decide) ee hj
    refine (c_Mo_goes l hB M 4 (32 * 4 + j) q.2.2.2.2.length (by decide) (by decide) (by decide) ee.1 (by omega) ee.2.1 (by omega) (by omega)).mono (fun v R1 hp => ?_)
    obtain ⟨rfl, rfl⟩ := hp
    have ga : agr 4 R _ := g1.agr
    exact ⟨rfl, ⟨ga.ob (hBj _ g1.2.1) h0.1, ⟨ga.row (by decide) a, ⟨ga.row (by decide) b1, ga.use (by decide) ul b2, b3⟩, ⟨ga.id (by decide) c1, (ga.2.2 2 (by decide)).trans c2⟩, ⟨ga.pl (by decide) d1, (ga.2.2 3 (by decide)).trans d2⟩, g2⟩, hnu _ g1.1, ga.wk g1.2.1 h0.2.2.2⟩, congrFun g1.1 0, g1.2.1⟩

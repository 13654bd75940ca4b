/-! The reference: the soft entries go or hold. -/
noncomputable def clF (rf : Nat → Nat → Option Nat) (S : Nat → Bool) : Nat → Bool := fun i => @decide (∀ T : Nat → Prop, clP rf T → (∀ i, i < 32 → S i = true → T i) → T i) (Classical.propDecidable _)
theorem isCl.F {rf : Nat → Nat → Option Nat} {S S1 S2 : Nat → Bool} (h : isCl rf S S1) (hs : ∀ x, x < 32 → S x = S2 x) : ∀ x, x < 32 → S1 x = clF rf S2 x := by
  intro x hx
  unfold clF
  cases h1 : S1 x with
  | true =>
    refine (@decide_eq_true _ (Classical.propDecidable _) (fun T hT h2 => h.2.2 T hT (fun i hi h3 => h2 i hi ?_) x hx h1)).symm
    rw [← hs i hi]; exact h3
  | false =>
    refine (@decide_eq_false _ (Classical.propDecidable _) (fun z => ?_)).symm
    have := z (fun i => S1 i = true) h.2.1 (fun i hi h3 => h.1 i hi (by rw [hs i hi]; exact h3))
    rw [h1] at this
    cases this
def ug (us : List Nat) (i : Nat) : Nat := us[i]?.getD 0
/-- of the first n places the one with the least number of at least lo -/
def mnI (f : Nat → Nat) (lo : Nat) : Nat → Option Nat
  | 0 => none
  | n + 1 => match mnI f lo n with
    | none => if lo ≤ f n then some n else none
    | some b => if lo ≤ f n ∧ f n < f b then some n else some b
theorem mn_some {f : Nat → Nat} {lo b : Nat} : ∀ {n : Nat}, mnI f lo n = some b → b < n ∧ lo ≤ f b
  | 0, h => by cases h
  | n + 1, h => by
    unfold mnI at h
    cases hx : mnI f lo n with
    | none =>
      rw [hx] at h
      simp only at h
      split at h
      · cases h; exact ⟨by omega, by assumption⟩
      · cases h
    | some b2 =>
      rw [hx] at h
      simp only at h
      have ih := mn_some hx
      split at h
      · rename_i c; cases h; exact ⟨by omega, c.1⟩
      · cases h; exact ⟨by omega, ih.2⟩
theorem mn_none {f : Nat → Nat} {lo : Nat} : ∀ {n : Nat}, mnI f lo n = none → ∀ i, i < n → ¬ lo ≤ f i
  | 0, _, i, h => absurd h (Nat.not_lt_zero _)
  | n + 1, h, i, hi => by
    unfold mnI at h
    cases hx : mnI f lo n with
    | none =>
      rw [hx] at h
      simp only at h
      split at h
      · cases h
      · rename_i c
        by_cases e : i = n
        · rw [e]; exact c
        · exact mn_none hx i (by omega)
    | some b2 =>
      rw [hx] at h
      simp only at h
      split at h <;> cases h
/-- how many numbers are at least lo -/
def cG (lo : Nat) (us : List Nat) : Nat := us.countP (fun u => decide (lo ≤ u))
theorem ug_some {us : List Nat} {i : Nat} (h : i < us.length) : us[i]? = some (ug us i) := by
  unfold ug
  rw [List.getElem?_eq_getElem h]
  rfl
theorem cG_pos {us : List Nat} {lo b : Nat} (hb : b < us.length) (h : lo ≤ ug us b) : 1 ≤ cG lo us := by
  unfold cG
  refine List.countP_pos_iff.mpr ⟨ug us b, List.mem_of_getElem? (ug_some hb), decide_eq_true h⟩
theorem cG_mono {us : List Nat} {a b : Nat} (h : a ≤ b) : cG b us ≤ cG a us := by
  unfold cG
  refine List.countP_mono_left (fun x _ h2 => decide_eq_true ?_)
  have := of_decide_eq_true h2
  omega
theorem cG_er {us : List Nat} {lo b : Nat} (hb : b < us.length) (h : lo ≤ ug us b) : cG lo (us.eraseIdx b) + 1 = cG lo us := by
  induction us generalizing b with
  | nil => exact absurd hb (Nat.not_lt_zero _)
  | cons x us ih =>
    cases b with
    | zero =>
      have h : lo ≤ x := h
      show cG lo us + 1 = cG lo (x :: us)
      unfold cG
      rw [List.countP_cons, if_pos (decide_eq_true h)]
    | succ b =>
      have ih := ih (b := b) (by simp only [List.length_cons] at hb; omega) h
      show cG lo (x :: us.eraseIdx b) + 1 = cG lo (x :: us)
      unfold cG at ih ⊢
      rw [List.countP_cons, List.countP_cons]
      omega
theorem cG_lt {us : List Nat} {lo b : Nat} (hb : b < us.length) (h : lo ≤ ug us b) : cG (ug us b + 1) us < cG lo us := by
  have h1 := cG_er hb h
  have h2 : cG (ug us b + 1) us = cG (ug us b + 1) (us.eraseIdx b) := by
    clear h1 h
    induction us generalizing b with
    | nil => rfl
    | cons x us ih =>
      cases b with
      | zero =>
        show cG (x + 1) (x :: us) = cG (x + 1) us
        unfold cG
        rw [List.countP_cons, if_neg (by rw [decide_eq_true_iff]; omega)]; rfl
      | succ b =>
        have ih := ih (b := b) (by simp only [List.length_cons] at hb; omega)
        show cG (ug us b + 1) (x :: us) = cG (ug us b + 1) (x :: us.eraseIdx b)
        unfold cG at ih ⊢
        rw [List.countP_cons, List.countP_cons, ih]
  have h3 : cG (ug us b + 1) (us.eraseIdx b) ≤ cG lo (us.eraseIdx b) := cG_mono (by omega)
  omega
theorem cG_ge {us : List Nat} {lo b : Nat} (hb : b < us.length) (h : lo ≤ ug us b) : cG (ug us b + 1) (us.eraseIdx b) < cG lo us := by
  have h1 := cG_er hb h
  have h3 : cG (ug us b + 1) (us.eraseIdx b) ≤ cG lo (us.eraseIdx b) := cG_mono (by omega)
  omega
/-- the soft row with its uses, what is held, whether the walk is broken -/
abbrev Sft : Type := List (Nat × Nat) × List Nat × (Nat → Bool) × Bool
noncomputable def sfM (rf : Nat → Nat → Option Nat) (tm pat : Nat) : Nat → Nat → Sft → Sft
  | 0, _, st => st
  | f + 1, lo, st => match mnI (ug st.2.1) lo st.2.1.length with
    | none => st
    | some b => match st.1[b]? with
      | none => st
      | some e => if st.2.2.1 e.2 = false ∧ pat ≤ tm - ug st.2.1 b then sfM rf tm pat f (ug st.2.1 b + 1) (st.1.eraseIdx b, st.2.1.eraseIdx b, st.2.2.1, true) else sfM rf tm pat f (ug st.2.1 b + 1) (st.1, st.2.1, clF rf (sH st.2.2.1 (some e.2)), st.2.2.2)
theorem sf_none {rf : Nat → Nat → Option Nat} {tm pat f lo : Nat} {st : Sft} (h : mnI (ug st.2.1) lo st.2.1.length = none) : sfM rf tm pat f lo st = st := by
  cases f with
  | zero => rfl
  | succ f => unfold sfM; rw [h]
theorem sf_drop {rf : Nat → Nat → Option Nat} {tm pat f lo b : Nat} {st : Sft} {e : Nat × Nat} (h : mnI (ug st.2.1) lo st.2.1.length = some b) (he : st.1[b]? = some e) (h1 : st.2.2.1 e.2 = false) (h2 : pat ≤ tm - ug st.2.1 b) : sfM rf tm pat (f + 1) lo st = sfM rf tm pat f (ug st.2.1 b + 1) (st.1.eraseIdx b, st.2.1.eraseIdx b, st.2.2.1, true) := by
  rw [sfM, h]
  simp only [he]
  rw [if_pos ⟨h1, h2⟩]
theorem sf_hold {rf : Nat → Nat → Option Nat} {tm pat f lo b : Nat} {st : Sft} {e : Nat × Nat} (h : mnI (ug st.2.1) lo st.2.1.length = some b) (he : st.1[b]? = some e) (h1 : ¬ (st.2.2.1 e.2 = false ∧ pat ≤ tm - ug st.2.1 b)) : sfM rf tm pat (f + 1) lo st = sfM rf tm pat f (ug st.2.1 b + 1) (st.1, st.2.1, clF rf (sH st.2.2.1 (some e.2)), st.2.2.2) := by
  rw [sfM, h]
  simp only [he]
  rw [if_neg h1]
def bM_I (x : Option Nat) : Int32 := match x with
  | none => -1
  | some b => nI (32 + b)
theorem sH_cong {S T : Nat → Bool} {t : Option Nat} (h : ∀ x, x < 32 → S x = T x) : ∀ x, x < 32 → sH S t x = sH T t x := by
  intro x hx
  cases t with
  | none => exact h x hx
  | some j =>
    show va_up S j true x = va_up T j true x
    unfold va_up
    split
    · rfl
    · exact h x hx
set_option maxHeartbeats 400000 in
set_option maxRecDepth 100000 in
theorem c_Mo_soften (l : Launch) {s0 : State} {D : va_G} {ca : Nat → ClassId} (hB : so_B tbl s0 D vcl (tyl ca)) {σ : so_S} {mo : Nat} {ar : Nat → Nat} {R : Rf} (M : MoR ca σ mo ar R) {o : Obs} {q : Mps} {n : Nms} {k : Wks} (h0 : refR R o q n k) (hok : okM o q) (hokO : okO o) (hal : ∀ i, i < 32 → R.2.2 6 i = true → o.1 i = true) (hus : ∀ u ∈ q.2.1.2, u ≤ n.2.1) (htm : n.2.1 < 2 ^ 29) (h12 : cn q.2.2.1 16 ≤ 12) (fu : Nat) (hfu : q.2.1.2.length ≤ fu) (pr : Nat) (hpr : pr ≤ 3) : mo_C l s0 D ca mo ar σ y_Mo_soften b_Mo_soften 6 none 3 [.int (nI pr)] (fun v R1 => v = none ∧ refR R1 o (q.1, ((sfM o.2.2.2 n.2.1 (12 - 4 * pr) fu 0 (q.2.1.1, q.2.1.2, R.2.2 6, k.2.1 1)).1, (sfM o.2.2.2 n.2.1 (12 - 4 * pr) fu 0 (q.2.1.1, q.2.1.2, R.2.2 6, k.2.1 1)).2.1), q.2.2) n (k.1, va_up k.2.1 1 (sfM o.2.2.2 n.2.1 (12 - 4 * pr) fu 0 (q.2.1.1, q.2.1.2, R.2.2 6, k.2.1 1)).2.2.2, k.2.2) ∧ (∀ x, x < 32 → R1.2.2 6 x = (sfM o.2.2.2 n.2.1 (12 - 4 * pr) fu 0 (q.2.1.1, q.2.1.2, R.2.2 6, k.2.1 1)).2.2.1 x) ∧ (∀ x, x < 32 → (sfM o.2.2.2 n.2.1 (12 - 4 * pr) fu 0 (q.2.1.1, q.2.1.2, R.2.2 6, k.2.1 1)).2.2.1 x = true → o.1 x = true) ∧ R1.1 0 = R.1 0) := by
  refine so_of hB (by decide) (Nat.le_of_ble_eq_true rfl) ?_
  intro p e s m below meth c ls S K E hr hlk hnm P hS hl
  have hl : lv_has ls 6 [(0, .ref mo), (1, .int (nI pr))] := hl
  have F : fM σ σ := fM.rf
  obtain ⟨σ0, hσ0⟩ : ∃ q, q = σ := ⟨σ, rfl⟩
  rw [← hσ0]
  replace F : fM σ0 σ := by rw [hσ0]; exact fM.rf
  refine lv_iconst (v := (-1)) S.1 S.2.1 d_Mo_soften_0 (by decide) ?_
  refine lv_istore_n S.1 S.2.1 d_Mo_soften_1 rfl hl (by decide) rfl (fun ls hl => ?_)
  refine lv_iconst (v := 1) S.1 S.2.1 d_Mo_soften_2 (by decide) ?_
  refine lv_istore_n S.1 S.2.1 d_Mo_soften_3 rfl hl (by decide) rfl (fun ls hl => ?_)
  obtain ⟨st0, hst0⟩ : ∃ x : Sft, x = (q.2.1.1, q.2.1.2, R.2.2 6, k.2.1 1) := ⟨_, rfl⟩
  obtain ⟨F0n, hF0⟩ : ∃ x : Nat, x = fu := ⟨_, rfl⟩
  have hcg : cG 0 q.2.1.2 ≤ F0n := by
    rw [hF0]
    exact Nat.le_trans List.countP_le_length hfu
  rw [show sfM o.2.2.2 n.2.1 (12 - 4 * pr) fu 0 (q.2.1.1, q.2.1.2, R.2.2 6, k.2.1 1) = sfM o.2.2.2 n.2.1 (12 - 4 * pr) F0n 0 st0 by rw [hst0, hF0]]
  refine so_lp (Wf := fun ls H locs σ1 (_ : Nat × Nat × Bool × Sft × Rf) => W p l e _ s m _ below meth c H locs _ _ _ (F0 m 4 ls [])) (fun n1 ls H locs σ1 a => n1 = a.1 + (if a.2.2.1 = true then 1 else 0) ∧ sfM o.2.2.2 n.2.1 (12 - 4 * pr) F0n 0 st0 = sfM o.2.2.2 n.2.1 (12 - 4 * pr) a.1 a.2.1 a.2.2.2.1 ∧ cG a.2.1 a.2.2.2.1.2.1 ≤ a.1 ∧ (a.2.2.1 = false → mnI (ug a.2.2.2.1.2.1) a.2.1 a.2.2.2.1.2.1.length = none) ∧ a.2.1 < 2 ^ 30 ∧ okR o a.2.2.2.1.1 ∧ (∀ u ∈ a.2.2.2.1.2.1, u ≤ n.2.1) ∧ refR a.2.2.2.2 o (q.1, (a.2.2.2.1.1, a.2.2.2.1.2.1), q.2.2) n (k.1, va_up k.2.1 1 a.2.2.2.1.2.2.2, k.2.2) ∧ (∀ x, x < 32 → a.2.2.2.2.2.2 6 x = a.2.2.2.1.2.2.1 x) ∧ (∀ x, x < 32 → a.2.2.2.1.2.2.1 x = true → o.1 x = true) ∧ a.2.2.2.2.1 0 = R.1 0 ∧ mo_I ca D s0 s mo ar σ0 ls 6 [(2, .int (nI a.2.1 - 1)), (3, .int (bI a.2.2.1)), (0, .ref mo), (1, .int (nI pr))] H locs σ1 a.2.2.2.2) ?_ _ ls s.heap [] σ (F0n, 0, true, (q.2.1.1, q.2.1.2, R.2.2 6, k.2.1 1), R) ⟨rfl, by rw [hst0], hcg, fun z => (by cases z), by show 0 < 2 ^ 30; decide, hok.2.1.2.1.1, hus, by show refR R o q n (k.1, va_up k.2.1 1 (k.2.1 1), k.2.2); rw [up_id]; exact h0, fun _ _ => rfl, hal, rfl, by show lv_has ls 6 [(2, .int (nI 0 - 1)), (3, .int (bI true)), (0, .ref mo), (1, .int (nI pr))]; rw [show nI 0 - 1 = -1 by decide]; exact lv_sub hl [1, 0, 2, 3] rfl, P, hS, M, F⟩
  clear hl P hS M F
  rintro n1 ls H locs σ ⟨f, lo, fnd, ⟨so, us, S1, br⟩, Rb⟩ ⟨hn1, hsf, hcnt, hfnd, hlo, hso, hus1, h1, hag, hal1, hz1, hl, P, hS, M, F⟩ ih
  simp only at hn1 hsf hcnt hfnd hlo hso hus1 h1 hag hal1 hz1 hl M ih
  have hrow := h1.2.1.2.1
  have hlen : us.length = so.length := hrow.2.2
  have hl32 : so.length ≤ 32 := hrow.1.2.1
  have een : en_O 1 so.length = 32 + so.length := en_r (by decide) (by decide)
  refine lv_iload_n S.1 S.2.1 d_Mo_soften_4 rfl (lv_at hl 1 rfl) ?_
  refine lv_if_eq (tgt := 149) S.1 S.2.1 d_Mo_soften_5 rfl (fun h5 => ?_) (fun h5 => ?_)
  · refine so_vret S hr hlk P hS (Nat.le_refl _) (Nat.le_refl _) ⟨_, ?_, M, F⟩ d_Mo_soften_149
    have hf0 : fnd = false := (bI_0 _).mp h5
    rw [hsf, sf_none (st := (so, us, S1, br)) (hfnd hf0)]
    exact ⟨rfl, h1, hag, hal1, hz1⟩
  · have hf1 : fnd = true := bI_1 h5
    have hfu2 : True := trivial
    refine lv_iconst (v := (-1)) S.1 S.2.1 d_Mo_soften_8 (by decide) ?_
    refine lv_istore S.1 S.2.1 d_Mo_soften_9 hl (by decide) rfl (fun ls hl => ?_)
    refine lv_bipush (v := 32) S.1 S.2.1 d_Mo_soften_11 (by decide) ?_
    refine lv_istore S.1 S.2.1 d_Mo_soften_13 hl (by decide) rfl (fun ls hl => ?_)
    refine so_lpR (Wf := fun ls (_ : Nat) => W p l e _ s m _ below meth c _ _ _ _ _ (F0 m 15 ls [])) (fun n2 ls i => n2 = us.length - i ∧ i ≤ us.length ∧ lv_has ls 6 [(5, .int (nI (32 + i))), (4, .int (bM_I (mnI (ug us) lo i))), (2, .int (nI lo - 1)), (3, .int (bI fnd)), (0, .ref mo), (1, .int (nI pr))]) ?_ _ ls 0 ⟨rfl, Nat.zero_le _, hl⟩
    clear hl
    intro n2 ls i ⟨hn2, hi2, hl⟩ ih2
    refine lv_iload S.1 S.2.1 d_Mo_soften_15 (lv_at hl 0 rfl) ?_
    refine lv_aload_n S.1 S.2.1 d_Mo_soften_17 rfl (lv_at hl 4 rfl) ?_
    refine lv_iconst (v := 1) S.1 S.2.1 d_Mo_soften_18 (by decide) ?_
    refine so_callR (cv_Mo_68_Mo S hB K E P hS M.1 (c_Mo_endd l hB M 1 so.length (by decide) hrow.1.1) rfl (by decide) (Nat.le_refl _) (Nat.le_refl _) hl.1 rfl (Nat.le_of_ble_eq_true rfl) d_Mo_soften_19) (fun v hv => ?_)
    subst hv
    refine lv_icmp_ge (tgt := 68) S.1 S.2.1 d_Mo_soften_22 rfl (fun h22 => ?_) (fun h22 => ?_)
    · have hiu : i = us.length := by
        have h9 : nI (en_O 1 so.length) ≤ nI (32 + i) := h22
        rw [een] at h9
        have := (nI_leI (by omega) (by omega)).mp h9
        omega
      subst hiu
      rcases hbst : mnI (ug us) lo us.length with _ | b
      · rw [hbst] at hl
        refine lv_iload S.1 S.2.1 d_Mo_soften_68 (lv_at hl 1 rfl) ?_
        refine lv_if_lt (tgt := 77) S.1 S.2.1 d_Mo_soften_70 rfl (fun h70 => ?_) (fun h70 => ?_)
        · refine lv_iconst (v := 0) S.1 S.2.1 d_Mo_soften_77 (by decide) ?_
          refine lv_istore_n S.1 S.2.1 d_Mo_soften_78 rfl hl (by decide) rfl (fun ls hl => ?_)
          refine lv_iload_n S.1 S.2.1 d_Mo_soften_79 rfl (lv_at hl 0 rfl) ?_
          refine lv_if_eq (tgt := 146) S.1 S.2.1 d_Mo_soften_80 rfl (fun h80 => ?_) (fun h80 => ?_)
          · refine lv_goto (tgt := 4) S.1 S.2.1 d_Mo_soften_146 rfl ?_
            exact ih (f + 0) ls H locs σ (f, lo, false, (so, us, S1, br), Rb) (by first | omega | (rw [hn1, hf1]; exact Nat.lt_succ_self _)) ⟨rfl, hsf, hcnt, fun _ => hbst, hlo, hso, hus1, h1, hag, hal1, hz1, lv_sub hl [3, 0, 4, 5] rfl, P, hS, M, F⟩
          · exact absurd rfl h80
        · exact absurd (show (-1 : Int32) < 0 by decide) h70
      · rw [hbst] at hl
        obtain ⟨hb, hlob⟩ := mn_some hbst
        have hub : Rb.2.1 10 (32 + b) = nI (ug us b) := hrow.2.1 b _ (ug_some hb)
        have hubt := hus1 _ (List.mem_of_getElem? (ug_some hb))
        obtain ⟨ex, hex⟩ : ∃ ex, so[b]? = some ex := ⟨_, List.getElem?_eq_getElem (by omega)⟩
        have hwb : Rb.2.1 9 (32 + b) = nI ex.2 := (hrow.1.2.2 b ex hex).2
        have hce := hso ex (List.mem_of_getElem? hex)
        have hpos := cG_pos hb hlob
        obtain ⟨f2, rfl⟩ : ∃ f2, f = f2 + 1 := ⟨f - 1, by omega⟩
        refine lv_iload S.1 S.2.1 d_Mo_soften_68 (lv_at hl 1 rfl) ?_
        refine lv_if_lt (tgt := 77) S.1 S.2.1 d_Mo_soften_70 rfl (fun h70 => ?_) (fun h70 => ?_)
        · exact absurd h70 (nI_pos (by omega))
        · refine lv_iconst (v := 1) S.1 S.2.1 d_Mo_soften_73 (by decide) ?_
          refine lv_goto (tgt := 78) S.1 S.2.1 d_Mo_soften_74 rfl ?_
          refine lv_istore_n S.1 S.2.1 d_Mo_soften_78 rfl hl (by decide) rfl (fun ls hl => ?_)
          refine lv_iload_n S.1 S.2.1 d_Mo_soften_79 rfl (lv_at hl 0 rfl) ?_
          refine lv_if_eq (tgt := 146) S.1 S.2.1 d_Mo_soften_80 rfl (fun h80 => ?_) (fun h80 => ?_)
          · exact absurd h80 (by decide)
          · refine lv_aload_n S.1 S.2.1 d_Mo_soften_83 rfl (lv_at hl 4 rfl) ?_
            refine gf_Mo_35_Mo S K P M.1 rfl d_Mo_soften_84 ?_
            refine lv_iload S.1 S.2.1 d_Mo_soften_87 (lv_at hl 2 rfl) ?_
            refine mo_iald S K P M 10 rfl (32 + b) rfl (by show 32 + b < 160; omega) d_Mo_soften_89 ?_
            refine lv_istore_n S.1 S.2.1 d_Mo_soften_90 rfl hl (by decide) rfl (fun ls hl => ?_)
            rw [hub] at hl
            refine lv_aload_n S.1 S.2.1 d_Mo_soften_91 rfl (lv_at hl 4 rfl) ?_
            refine gf_Mo_26_Mo S K P M.1 rfl d_Mo_soften_92 ?_
            refine lv_aload_n S.1 S.2.1 d_Mo_soften_95 rfl (lv_at hl 4 rfl) ?_
            refine gf_Mo_32_Mo S K P M.1 rfl d_Mo_soften_96 ?_
            refine lv_iload S.1 S.2.1 d_Mo_soften_99 (lv_at hl 3 rfl) ?_
            refine mo_iald S K P M 9 rfl (32 + b) rfl (by show 32 + b < 160; omega) d_Mo_soften_101 ?_
            refine mo_zald S K P M 6 rfl ex.2 hwb (by show ex.2 < 32; exact hce.2.1) d_Mo_soften_102 ?_
            refine lv_if_ne (tgt := 131) S.1 S.2.1 d_Mo_soften_103 rfl (fun h103 => ?_) (fun h103 => ?_)
            · have hnd : ¬ (S1 ex.2 = false ∧ 12 - 4 * pr ≤ n.2.1 - ug us b) := by
                intro z
                rw [← hag _ hce.2.1] at z
                exact h103 ((bI_0 _).mpr z.1)
              have hal3 : ∀ i, i < 32 → (hR Rb (sH (Rb.2.2 6) (some ex.2))).2.2 6 i = true → o.1 i = true := fun i hi h => by
                rw [hR_6] at h
                rcases sH_or h with h | h
                · exact hal1 i hi (by rw [← hag i hi]; exact h)
                · cases h; exact hce.2.2
              refine lv_aload_n S.1 S.2.1 d_Mo_soften_131 rfl (lv_at hl 4 rfl) ?_
              refine lv_aload_n S.1 S.2.1 d_Mo_soften_132 rfl (lv_at hl 4 rfl) ?_
              refine gf_Mo_32_Mo S K P M.1 rfl d_Mo_soften_133 ?_
              refine lv_iload S.1 S.2.1 d_Mo_soften_136 (lv_at hl 3 rfl) ?_
              refine mo_iald S K P M 9 rfl (32 + b) rfl (by show 32 + b < 160; omega) d_Mo_soften_138 ?_
              refine mo_after F (cv_Mo_135_Mo S hB K E P hS M.1 (c_Mo_holdR l hB (R := Rb) (S := Rb.2.2 6) (by rw [hR_id]; exact M) (some ex.2) (fun j hj => by cases hj; exact hce.2.1) _ hwb) rfl (by decide) (Nat.le_refl _) (Nat.le_refl _) hl.1 rfl (Nat.le_of_ble_eq_true rfl) d_Mo_soften_139) hS (fun v R1 σ H locs hp P hS M F => ?_)
              obtain ⟨rfl, rfl⟩ := hp
              refine lv_aload_n S.1 S.2.1 d_Mo_soften_142 rfl (lv_at hl 4 rfl) ?_
              refine mo_after F (cv_Mo_138_Mo S hB K E P hS M.1 (c_Mo_spread l hB M (o := o) (q := (q.1, (so, us), q.2.2)) (n := n) (k := (k.1, va_up k.2.1 1 br, k.2.2)) h1 hokO hal3) rfl (by decide) (Nat.le_refl _) (Nat.le_refl _) hl.1 rfl (Nat.le_of_ble_eq_true rfl) d_Mo_soften_143) hS (fun v R1 σ H locs hp P hS M F => ?_)
              obtain ⟨rfl, S4, rfl, hcl2⟩ := hp
              refine lv_goto (tgt := 4) S.1 S.2.1 d_Mo_soften_146 rfl ?_
              have hcl := hcl2.F (S2 := sH S1 (some ex.2)) (fun x hx => by rw [hR_6]; exact sH_cong hag x hx)
              refine ih (f2 + 1) ls H locs σ (f2, ug us b + 1, true, (so, us, clF o.2.2.2 (sH S1 (some ex.2)), br), hR (hR Rb (sH (Rb.2.2 6) (some ex.2))) S4) (by rw [hn1, hf1]; show f2 + 1 < f2 + 1 + 1; omega) ⟨rfl, hsf.trans (sf_hold (st := (so, us, S1, br)) hbst hex hnd), ?_, fun z => (by cases z), by show ug us b + 1 < 2 ^ 30; omega, hso, hus1, h1, fun x hx => ?_, fun x hx h => ?_, hz1, ?_, P, hS, M, F⟩
              · show cG (ug us b + 1) us ≤ f2
                have := cG_lt hb hlob
                omega
              · show (hR (hR Rb (sH (Rb.2.2 6) (some ex.2))) S4).2.2 6 x = _
                rw [hR_6]
                exact hcl x hx
              · have h : clF o.2.2.2 (sH S1 (some ex.2)) x = true := h
                rw [← hcl x hx] at h
                have h9 := hcl2.2.2 (fun y => y < 32 ∧ o.1 y = true) (fun i hi hT w hw j hj => hokO i hi hT.2 w hw j hj) (fun i hi hs => ⟨hi, hal3 i hi hs⟩) x hx h
                exact h9.2
              · show lv_has ls 6 [(2, .int (nI (ug us b + 1) - 1)), (3, .int (bI true)), (0, .ref mo), (1, .int (nI pr))]
                rw [nI_pred]
                exact lv_sub hl [0, 1, 4, 5] rfl
            · have etm : Rb.1 14 - nI (ug us b) = nI (n.2.1 - ug us b) := by rw [h1.2.2.1.2.1]; exact pk_sub hubt
              have epat : (12 : Int32) - 4 * nI pr = nI (12 - 4 * pr) := by
                rw [show (4 : Int32) * nI pr = nI (4 * pr) from pk_mul 4 pr]
                exact pk_sub (a := 12) (by omega)
              refine lv_aload_n S.1 S.2.1 d_Mo_soften_106 rfl (lv_at hl 4 rfl) ?_
              refine gf_Mo_93_Mo S K P M.1 rfl d_Mo_soften_107 ?_
              refine lv_iload_n S.1 S.2.1 d_Mo_soften_110 rfl (lv_at hl 0 rfl) ?_
              refine lv_isub S.1 S.2.1 d_Mo_soften_111 ?_
              refine lv_bipush (v := 12) S.1 S.2.1 d_Mo_soften_112 (by decide) ?_
              refine lv_iconst (v := 4) S.1 S.2.1 d_Mo_soften_114 (by decide) ?_
              refine lv_iload_n S.1 S.2.1 d_Mo_soften_115 rfl (lv_at hl 5 rfl) ?_
              refine lv_imul S.1 S.2.1 d_Mo_soften_116 ?_
              refine lv_isub S.1 S.2.1 d_Mo_soften_117 ?_
              refine lv_icmp_lt (tgt := 131) S.1 S.2.1 d_Mo_soften_118 rfl (fun h118 => ?_) (fun h118 => ?_)
              · have hnd : ¬ (S1 ex.2 = false ∧ 12 - 4 * pr ≤ n.2.1 - ug us b) := by
                  intro z
                  have h9 : nI (n.2.1 - ug us b) < nI (12 - 4 * pr) := by rw [← etm, ← epat]; exact h118
                  have := (nI_ltI (by omega) (by omega)).mp h9
                  omega
                have hal3 : ∀ i, i < 32 → (hR Rb (sH (Rb.2.2 6) (some ex.2))).2.2 6 i = true → o.1 i = true := fun i hi h => by
                  rw [hR_6] at h
                  rcases sH_or h with h | h
                  · exact hal1 i hi (by rw [← hag i hi]; exact h)
                  · cases h; exact hce.2.2
                refine lv_aload_n S.1 S.2.1 d_Mo_soften_131 rfl (lv_at hl 4 rfl) ?_
                refine lv_aload_n S.1 S.2.1 d_Mo_soften_132 rfl (lv_at hl 4 rfl) ?_
                refine gf_Mo_32_Mo S K P M.1 rfl d_Mo_soften_133 ?_
                refine lv_iload S.1 S.2.1 d_Mo_soften_136 (lv_at hl 3 rfl) ?_
                refine mo_iald S K P M 9 rfl (32 + b) rfl (by show 32 + b < 160; omega) d_Mo_soften_138 ?_
                refine mo_after F (cv_Mo_135_Mo S hB K E P hS M.1 (c_Mo_holdR l hB (R := Rb) (S := Rb.2.2 6) (by rw [hR_id]; exact M) (some ex.2) (fun j hj => by cases hj; exact hce.2.1) _ hwb) rfl (by decide) (Nat.le_refl _) (Nat.le_refl _) hl.1 rfl (Nat.le_of_ble_eq_true rfl) d_Mo_soften_139) hS (fun v R1 σ H locs hp P hS M F => ?_)
                obtain ⟨rfl, rfl⟩ := hp
                refine lv_aload_n S.1 S.2.1 d_Mo_soften_142 rfl (lv_at hl 4 rfl) ?_
                refine mo_after F (cv_Mo_138_Mo S hB K E P hS M.1 (c_Mo_spread l hB M (o := o) (q := (q.1, (so, us), q.2.2)) (n := n) (k := (k.1, va_up k.2.1 1 br, k.2.2)) h1 hokO hal3) rfl (by decide) (Nat.le_refl _) (Nat.le_refl _) hl.1 rfl (Nat.le_of_ble_eq_true rfl) d_Mo_soften_143) hS (fun v R1 σ H locs hp P hS M F => ?_)
                obtain ⟨rfl, S4, rfl, hcl2⟩ := hp
                refine lv_goto (tgt := 4) S.1 S.2.1 d_Mo_soften_146 rfl ?_
                have hcl := hcl2.F (S2 := sH S1 (some ex.2)) (fun x hx => by rw [hR_6]; exact sH_cong hag x hx)
                refine ih (f2 + 1) ls H locs σ (f2, ug us b + 1, true, (so, us, clF o.2.2.2 (sH S1 (some ex.2)), br), hR (hR Rb (sH (Rb.2.2 6) (some ex.2))) S4) (by rw [hn1, hf1]; show f2 + 1 < f2 + 1 + 1; omega) ⟨rfl, hsf.trans (sf_hold (st := (so, us, S1, br)) hbst hex hnd), ?_, fun z => (by cases z), by show ug us b + 1 < 2 ^ 30; omega, hso, hus1, h1, fun x hx => ?_, fun x hx h => ?_, hz1, ?_, P, hS, M, F⟩
                · show cG (ug us b + 1) us ≤ f2
                  have := cG_lt hb hlob
                  omega
                · show (hR (hR Rb (sH (Rb.2.2 6) (some ex.2))) S4).2.2 6 x = _
                  rw [hR_6]
                  exact hcl x hx
                · have h : clF o.2.2.2 (sH S1 (some ex.2)) x = true := h
                  rw [← hcl x hx] at h
                  have h9 := hcl2.2.2 (fun y => y < 32 ∧ o.1 y = true) (fun i hi hT w hw j hj => hokO i hi hT.2 w hw j hj) (fun i hi hs => ⟨hi, hal3 i hi hs⟩) x hx h
                  exact h9.2
                · show lv_has ls 6 [(2, .int (nI (ug us b + 1) - 1)), (3, .int (bI true)), (0, .ref mo), (1, .int (nI pr))]
                  rw [nI_pred]
                  exact lv_sub hl [0, 1, 4, 5] rfl
              · have hS1 : S1 ex.2 = false := by
                  rw [← hag _ hce.2.1]
                  exact (bI_0 _).mp h103
                have hpat : 12 - 4 * pr ≤ n.2.1 - ug us b := by
                  refine Nat.not_lt.mp fun z => h118 ?_
                  rw [etm, epat]
                  exact nI_lt z (by omega)
                refine lv_aload_n S.1 S.2.1 d_Mo_soften_121 rfl (lv_at hl 4 rfl) ?_
                refine lv_iconst (v := 1) S.1 S.2.1 d_Mo_soften_122 (by decide) ?_
                refine lv_iload S.1 S.2.1 d_Mo_soften_123 (lv_at hl 3 rfl) ?_
                refine mo_after F (cv_Mo_129_Mo S hB K E P hS M.1 (c_Mo_goesM l hB M h1 (mp := 1) (key := ex.1) (j := b) (e := ex) (by decide) h12 ⟨hex, rfl⟩) rfl (by decide) (Nat.le_refl _) (Nat.le_refl _) hl.1 rfl (Nat.le_of_ble_eq_true rfl) d_Mo_soften_125) hS (fun v R1 σ H locs hp P hS M F => ?_)
                obtain ⟨rfl, hrf, hz2, hB2⟩ := hp
                refine lv_goto (tgt := 146) S.1 S.2.1 d_Mo_soften_128 rfl ?_
                refine lv_goto (tgt := 4) S.1 S.2.1 d_Mo_soften_146 rfl ?_
                have e5 : (q.1, ((so.eraseIdx b), (us.eraseIdx b)), q.2.2) = dr_M (q.1, (so, us), q.2.2) 1 b := rfl
                have h6 : ∀ x, R1.2.2 6 x = Rb.2.2 6 x := fun x => by rw [hB2]; rfl
                refine ih (f2 + 1) ls H locs σ (f2, ug us b + 1, true, (so.eraseIdx b, us.eraseIdx b, S1, true), R1) (by rw [hn1, hf1]; show f2 + 1 < f2 + 1 + 1; omega) ⟨rfl, hsf.trans (sf_drop (st := (so, us, S1, br)) hbst hex hS1 hpat), ?_, fun z => (by cases z), by show ug us b + 1 < 2 ^ 30; omega, fun x hx => hso x (List.mem_of_mem_eraseIdx hx), fun x hx => hus1 x (List.mem_of_mem_eraseIdx hx), ?_, fun x hx => (h6 x).trans (hag x hx), hal1, hz2.trans hz1, ?_, P, hS, M, F⟩
                · show cG (ug us b + 1) (us.eraseIdx b) ≤ f2
                  have := cG_ge hb hlob
                  omega
                · show refR R1 o (q.1, (so.eraseIdx b, us.eraseIdx b), q.2.2) n (k.1, va_up k.2.1 1 true, k.2.2)
                  rw [bx_uu] at hrf
                  exact hrf
                · show lv_has ls 6 [(2, .int (nI (ug us b + 1) - 1)), (3, .int (bI true)), (0, .ref mo), (1, .int (nI pr))]
                  rw [nI_pred]
                  exact lv_sub hl [0, 1, 4, 5] rfl
    · have hiu : i < us.length := Nat.not_le.mp fun z => h22 (by rw [een]; exact nI_le (by omega) (by omega))
      have hui : Rb.2.1 10 (32 + i) = nI (ug us i) := hrow.2.1 i _ (ug_some hiu)
      have hut := hus1 _ (List.mem_of_getElem? (ug_some hiu))
      refine lv_aload_n S.1 S.2.1 d_Mo_soften_25 rfl (lv_at hl 4 rfl) ?_
      refine gf_Mo_35_Mo S K P M.1 rfl d_Mo_soften_26 ?_
      refine lv_iload S.1 S.2.1 d_Mo_soften_29 (lv_at hl 0 rfl) ?_
      refine mo_iald S K P M 10 rfl (32 + i) rfl (by show 32 + i < 160; omega) d_Mo_soften_31 ?_
      refine lv_iload_n S.1 S.2.1 d_Mo_soften_32 rfl (lv_at hl 2 rfl) ?_
      refine lv_icmp_le (tgt := 62) S.1 S.2.1 d_Mo_soften_33 rfl (fun h33 => ?_) (fun h33 => ?_)
      · have hnlo : ¬ lo ≤ ug us i := by
          have h9 : nI (ug us i) ≤ nI lo - 1 := by rw [← hui]; exact h33
          have := (p1_le (by omega) (by omega)).mp h9
          omega
        refine lv_iinc (k := 0) S.1 S.2.1 d_Mo_soften_62 hl rfl rfl (by decide) rfl (fun ls hl => ?_)
        refine lv_goto (tgt := 15) S.1 S.2.1 d_Mo_soften_65 rfl ?_
        rw [nI_a, show 32 + i + 1 = 32 + (i + 1) from rfl] at hl
        have emn : mnI (ug us) lo (i + 1) = mnI (ug us) lo i := by
          rw [mnI]
          cases hx : mnI (ug us) lo i with
          | none => simp only; rw [if_neg hnlo]
          | some b => simp only; rw [if_neg (fun z => hnlo z.1)]
        rw [← emn] at hl
        refine ih2 (us.length - (i + 1)) ls (i + 1) (by omega) ⟨rfl, by omega, hl⟩
      · have hilo : lo ≤ ug us i := Nat.not_lt.mp fun z => h33 (by rw [hui]; exact (p1_le (by omega) (by omega)).mpr z)
        rcases hbst : mnI (ug us) lo i with _ | b
        · rw [hbst] at hl
          refine lv_iload S.1 S.2.1 d_Mo_soften_36 (lv_at hl 1 rfl) ?_
          refine lv_if_lt (tgt := 58) S.1 S.2.1 d_Mo_soften_38 rfl (fun h38 => ?_) (fun h38 => ?_)
          · refine lv_iload S.1 S.2.1 d_Mo_soften_58 (lv_at hl 0 rfl) ?_
            refine lv_istore S.1 S.2.1 d_Mo_soften_60 hl (by decide) rfl (fun ls hl => ?_)
            refine lv_iinc (k := 1) S.1 S.2.1 d_Mo_soften_62 hl rfl rfl (by decide) rfl (fun ls hl => ?_)
            refine lv_goto (tgt := 15) S.1 S.2.1 d_Mo_soften_65 rfl ?_
            rw [nI_a, show 32 + i + 1 = 32 + (i + 1) from rfl] at hl
            have emn : mnI (ug us) lo (i + 1) = some i := by
              rw [mnI, hbst]
              simp only
              rw [if_pos hilo]
            refine ih2 (us.length - (i + 1)) ls (i + 1) (by omega) ⟨rfl, by omega, ?_⟩
            rw [emn]
            exact lv_sub hl [0, 1, 2, 3, 4, 5] rfl
          · exact absurd (show (-1 : Int32) < 0 by decide) h38
        · rw [hbst] at hl
          have hb1 := mn_some hbst
          have hub : Rb.2.1 10 (32 + b) = nI (ug us b) := hrow.2.1 b _ (ug_some (us := us) (show b < us.length by omega))
          have hubt := hus1 _ (List.mem_of_getElem? (ug_some (show b < us.length by omega)))
          refine lv_iload S.1 S.2.1 d_Mo_soften_36 (lv_at hl 1 rfl) ?_
          refine lv_if_lt (tgt := 58) S.1 S.2.1 d_Mo_soften_38 rfl (fun h38 => ?_) (fun h38 => ?_)
          · exact absurd h38 (nI_pos (by omega))
          · refine lv_aload_n S.1 S.2.1 d_Mo_soften_41 rfl (lv_at hl 4 rfl) ?_
            refine gf_Mo_35_Mo S K P M.1 rfl d_Mo_soften_42 ?_
            refine lv_iload S.1 S.2.1 d_Mo_soften_45 (lv_at hl 0 rfl) ?_
            refine mo_iald S K P M 10 rfl (32 + i) rfl (by show 32 + i < 160; omega) d_Mo_soften_47 ?_
            refine lv_aload_n S.1 S.2.1 d_Mo_soften_48 rfl (lv_at hl 4 rfl) ?_
            refine gf_Mo_35_Mo S K P M.1 rfl d_Mo_soften_49 ?_
            refine lv_iload S.1 S.2.1 d_Mo_soften_52 (lv_at hl 1 rfl) ?_
            refine mo_iald S K P M 10 rfl (32 + b) rfl (by show 32 + b < 160; omega) d_Mo_soften_54 ?_
            refine lv_icmp_ge (tgt := 62) S.1 S.2.1 d_Mo_soften_55 rfl (fun h55 => ?_) (fun h55 => ?_)
            · have hge55 : ¬ ug us i < ug us b := by
                have h9 : nI (ug us b) ≤ nI (ug us i) := by rw [← hui, ← hub]; exact h55
                have := (nI_leI (by omega) (by omega)).mp h9
                omega
              refine lv_iinc (k := 0) S.1 S.2.1 d_Mo_soften_62 hl rfl rfl (by decide) rfl (fun ls hl => ?_)
              refine lv_goto (tgt := 15) S.1 S.2.1 d_Mo_soften_65 rfl ?_
              rw [nI_a, show 32 + i + 1 = 32 + (i + 1) from rfl] at hl
              have emn : mnI (ug us) lo (i + 1) = some b := by
                rw [mnI, hbst]
                simp only
                rw [if_neg (fun z => hge55 z.2)]
              refine ih2 (us.length - (i + 1)) ls (i + 1) (by omega) ⟨rfl, by omega, ?_⟩
              rw [emn]
              exact hl
            · have hlt55 : ug us i < ug us b := by
                refine Nat.not_le.mp fun z => h55 ?_
                rw [hui, hub]
                exact nI_le z (by omega)
              refine lv_iload S.1 S.2.1 d_Mo_soften_58 (lv_at hl 0 rfl) ?_
              refine lv_istore S.1 S.2.1 d_Mo_soften_60 hl (by decide) rfl (fun ls hl => ?_)
              refine lv_iinc (k := 1) S.1 S.2.1 d_Mo_soften_62 hl rfl rfl (by decide) rfl (fun ls hl => ?_)
              refine lv_goto (tgt := 15) S.1 S.2.1 d_Mo_soften_65 rfl ?_
              rw [nI_a, show 32 + i + 1 = 32 + (i + 1) from rfl] at hl
              have emn : mnI (ug us) lo (i + 1) = some i := by
                rw [mnI, hbst]
                simp only
                rw [if_pos ⟨hilo, hlt55⟩]
              refine ih2 (us.length - (i + 1)) ls (i + 1) (by omega) ⟨rfl, by omega, ?_⟩
              rw [emn]
              exact lv_sub hl [0, 1, 2, 3, 4, 5] rfl

/-! The reference: collect. -/
theorem hR_sb (R : Rf) (S : Nat → Bool) (j : Nat) (b : Bool) : sbb (hR R S) 6 j b = hR R (va_up S j b) := by
  unfold sbb hR
  simp only [bx_uu, va_up_self]
theorem mh_al {R : Rf} {o : Obs} {q : Mps} (hq : mpR R q) (hk : okM o q) {x : Nat} (h : mh_M q x) : x < 32 ∧ o.1 x = true := by
  obtain ⟨m, j, e, hm, h1, h2⟩ := h
  have h3 := (at_cell hm hq hk (at_lt hm h1)).1 e h1
  rcases h2 with ⟨⟨-, c⟩, rfl⟩ | ⟨-, rfl⟩
  · exact ⟨h3.2.1, h3.2.2.1 c⟩
  · exact h3.2.2.2
theorem clF_cong {rf : Nat → Nat → Option Nat} {S T : Nat → Bool} (h : ∀ x, x < 32 → S x = T x) : clF rf S = clF rf T := by
  have e : (fun P : Nat → Prop => ∀ i, i < 32 → S i = true → P i) = (fun P : Nat → Prop => ∀ i, i < 32 → T i = true → P i) := by
    funext P
    exact propext ⟨fun h1 i hi h2 => h1 i hi (by rw [h i hi]; exact h2), fun h1 i hi h2 => h1 i hi (by rw [← h i hi]; exact h2)⟩
  funext x
  have e2 : (∀ P : Nat → Prop, clP rf P → (∀ i, i < 32 → S i = true → P i) → P x) = (∀ P : Nat → Prop, clP rf P → (∀ i, i < 32 → T i = true → P i) → P x) := by
    refine forall_congr (fun P => forall_congr (fun _ => ?_))
    rw [congrFun e P]
  have e3 : ∀ (A B : Prop), A = B → @decide A (Classical.propDecidable A) = @decide B (Classical.propDecidable B) := fun A B h => by subst h; rfl
  exact e3 _ _ e2
/-- the marks before the soft ones -/
noncomputable def rtM (o : Obs) (q : Mps) : Nat → Bool := fun x => (o.1 x && o.2.2.1 x) || @decide (mh_M q x) (Classical.propDecidable _)
noncomputable def scM (o : Obs) (q : Mps) (n : Nms) (k : Wks) (pr : Nat) : Sft := sfM o.2.2.2 n.2.1 (12 - 4 * pr) q.2.1.1.length 0 (q.2.1.1, q.2.1.2, clF o.2.2.2 (rtM o q), k.2.1 1)
theorem sf_cong {rf : Nat → Nat → Option Nat} {tm pat : Nat} {S T : Nat → Bool} : ∀ {f lo : Nat} {so : List (Nat × Nat)} {us : List Nat} {br : Bool}, (∀ e ∈ so, e.2 < 32) → (∀ x, x < 32 → S x = T x) → (sfM rf tm pat f lo (so, us, S, br)).1 = (sfM rf tm pat f lo (so, us, T, br)).1 ∧ (sfM rf tm pat f lo (so, us, S, br)).2.1 = (sfM rf tm pat f lo (so, us, T, br)).2.1 ∧ (∀ x, x < 32 → (sfM rf tm pat f lo (so, us, S, br)).2.2.1 x = (sfM rf tm pat f lo (so, us, T, br)).2.2.1 x) ∧ (sfM rf tm pat f lo (so, us, S, br)).2.2.2 = (sfM rf tm pat f lo (so, us, T, br)).2.2.2
  | 0, _, _, _, _, _, h => ⟨rfl, rfl, h, rfl⟩
  | f + 1, lo, so, us, br, hs, h => by
    cases hm : mnI (ug us) lo us.length with
    | none =>
      rw [sf_none (st := (so, us, S, br)) hm, sf_none (st := (so, us, T, br)) hm]
      exact ⟨rfl, rfl, h, rfl⟩
    | some b =>
      cases he : so[b]? with
      | none =>
        have e1 : ∀ U : Nat → Bool, sfM rf tm pat (f + 1) lo (so, us, U, br) = (so, us, U, br) := fun U => by
          rw [sfM]
          simp only [hm, he]
        rw [e1 S, e1 T]
        exact ⟨rfl, rfl, h, rfl⟩
      | some e =>
        have h2 := hs e (List.mem_of_getElem? he)
        by_cases c : S e.2 = false ∧ pat ≤ tm - ug us b
        · rw [sf_drop (st := (so, us, S, br)) hm he c.1 c.2, sf_drop (st := (so, us, T, br)) hm he (by show T e.2 = false; rw [← h e.2 h2]; exact c.1) c.2]
          exact sf_cong (fun x hx => hs x (List.mem_of_mem_eraseIdx hx)) h
        · rw [sf_hold (st := (so, us, S, br)) hm he c, sf_hold (st := (so, us, T, br)) hm he (by show ¬ (T e.2 = false ∧ _); rw [← h e.2 h2]; exact c)]
          have e3 : clF rf (sH S (some e.2)) = clF rf (sH T (some e.2)) := clF_cong (sH_cong h)
          show (sfM rf tm pat f (ug us b + 1) (so, us, clF rf (sH S (some e.2)), br)).1 = (sfM rf tm pat f (ug us b + 1) (so, us, clF rf (sH T (some e.2)), br)).1 ∧ (sfM rf tm pat f (ug us b + 1) (so, us, clF rf (sH S (some e.2)), br)).2.1 = (sfM rf tm pat f (ug us b + 1) (so, us, clF rf (sH T (some e.2)), br)).2.1 ∧ (∀ x, x < 32 → (sfM rf tm pat f (ug us b + 1) (so, us, clF rf (sH S (some e.2)), br)).2.2.1 x = (sfM rf tm pat f (ug us b + 1) (so, us, clF rf (sH T (some e.2)), br)).2.2.1 x) ∧ (sfM rf tm pat f (ug us b + 1) (so, us, clF rf (sH S (some e.2)), br)).2.2.2 = (sfM rf tm pat f (ug us b + 1) (so, us, clF rf (sH T (some e.2)), br)).2.2.2
          rw [e3]
          exact ⟨rfl, rfl, fun _ _ => rfl, rfl⟩
def wf {α : Type} (l : List α) (P : α → Bool) (i : Nat) : List α := l.take i ++ (l.drop i).filter P
def wb {α : Type} (l : List α) (P : α → Bool) (i : Nat) : Bool := (l.drop i).any (fun e => !P e)
theorem wf_take {α : Type} {l : List α} {j : Nat} {e : α} (h : l[j]? = some e) : l.take (j + 1) = l.take j ++ [e] := by
  rw [List.take_add_one, h]; rfl
theorem wf_drop0 {α : Type} {l : List α} {j : Nat} {e : α} (h : l[j]? = some e) : l.drop j = e :: l.drop (j + 1) := by
  obtain ⟨hj, rfl⟩ := List.getElem?_eq_some_iff.mp h
  exact List.drop_eq_getElem_cons hj
theorem wf_keep {α : Type} {l : List α} {P : α → Bool} {j : Nat} {e : α} (h : l[j]? = some e) (hp : P e = true) : wf l P j = wf l P (j + 1) ∧ wb l P j = wb l P (j + 1) := by
  unfold wf wb
  rw [wf_take h, wf_drop0 h, List.filter_cons_of_pos hp, List.append_assoc, List.any_cons, hp]
  exact ⟨rfl, rfl⟩
theorem wf_len1 {α : Type} {l : List α} {j : Nat} {e : α} (h : l[j]? = some e) : (l.take j).length = j := by
  rw [List.length_take]
  have := (List.getElem?_eq_some_iff.mp h).1
  omega
theorem wf_drop {α : Type} {l : List α} {P : α → Bool} {j : Nat} {e : α} (h : l[j]? = some e) (hp : P e = false) : wf l P j = (wf l P (j + 1)).eraseIdx j ∧ wb l P j = true := by
  unfold wf wb
  rw [wf_take h, wf_drop0 h, List.filter_cons_of_neg (by rw [hp]; exact Bool.false_ne_true), List.append_assoc, List.any_cons, hp]
  refine ⟨?_, rfl⟩
  have h1 := wf_len1 h
  rw [List.eraseIdx_append_of_length_le (by omega), h1, Nat.sub_self]
  rfl
theorem wf_at {α : Type} {l : List α} {P : α → Bool} {j : Nat} {e : α} (h : l[j]? = some e) : (wf l P (j + 1))[j]? = some e := by
  unfold wf
  have h1 := wf_len1 h
  rw [wf_take h, List.append_assoc, List.getElem?_append_right (by omega), h1, Nat.sub_self]
  rfl
theorem wf_0 {α : Type} {l : List α} {P : α → Bool} : wf l P 0 = l.filter P ∧ wb l P 0 = l.any (fun e => !P e) := ⟨rfl, rfl⟩
theorem wf_all {α : Type} {l : List α} {P : α → Bool} : wf l P l.length = l ∧ wb l P l.length = false := by
  unfold wf wb
  rw [List.take_length, List.drop_length]
  exact ⟨List.append_nil _, rfl⟩
theorem nI_dd (j : Nat) : nI j + Int32.ofInt (-1) = nI j - 1 := by
  rw [Int32.sub_eq_add_neg, show Int32.ofInt (-1) = -1 by decide]
/-- the first i objects are swept -/
def swR (R : Rf) (i : Nat) : Rf := (R.1, R.2.1, va_up R.2.2 4 (fun x => if x < i then R.2.2 6 x else R.2.2 4 x))
theorem swR_0 (R : Rf) : swR R 0 = R := by
  obtain ⟨z, A, B⟩ := R
  unfold swR
  have e : (fun x => if x < 0 then B 6 x else B 4 x) = B 4 := by
    funext x
    exact if_neg (Nat.not_lt_zero _)
  simp only [e, up_id]
theorem swR_4 (R : Rf) (i : Nat) : (swR R i).2.2 4 i = R.2.2 4 i := by
  show va_up R.2.2 4 (fun x => if x < i then R.2.2 6 x else R.2.2 4 x) 4 i = _
  rw [va_up_self]
  exact if_neg (Nat.lt_irrefl _)
theorem swR_s (R : Rf) (i : Nat) : sbb (swR R i) 4 i (R.2.2 6 i) = swR R (i + 1) := by
  unfold sbb swR
  simp only [bx_uu, va_up_self]
  have e : va_up (fun x => if x < i then R.2.2 6 x else R.2.2 4 x) i (R.2.2 6 i) = (fun x => if x < i + 1 then R.2.2 6 x else R.2.2 4 x) := by
    funext x
    unfold va_up
    by_cases c : x = i
    · rw [if_pos c, if_pos (by omega), c]
    · rw [if_neg c]
      show (if x < i then R.2.2 6 x else R.2.2 4 x) = _
      by_cases c2 : x < i
      · rw [if_pos c2, if_pos (by omega)]
      · rw [if_neg c2, if_neg (by omega)]
  rw [e]
set_option maxHeartbeats 400000 in
set_option maxRecDepth 100000 in
theorem c_Mo_collect (l : Launch) {s0 : State} {D : va_G} {ca : Nat → ClassId} (hB : so_B tbl s0 D vcl (tyl ca)) {σ : so_S} {mo : Nat} {ar : Nat → Nat} {R : Rf} (M : MoR ca σ mo ar R) {o : Obs} {q : Mps} {n : Nms} {k : Wks} (h0 : refR R o q n k) (hok : okM o q) (hokO : okO o) (hus : ∀ u ∈ q.2.1.2, u ≤ n.2.1) (htm : n.2.1 < 2 ^ 29) (h12 : cn q.2.2.1 16 ≤ 12) (x : Int32) : mo_C l s0 D ca mo ar σ y_Mo_collect b_Mo_collect 4 (some .int) 4 [.int x] (fun v R1 => ((x < 0 ∨ 3 < x) ∧ v = some (.int 0) ∧ R1.1 0 = 1 ∧ refR R1 o q n k) ∨ (∃ pr, pr ≤ 3 ∧ x = nI pr ∧ ∃ st, st = scM o q n k pr ∧ v = some (.int (nI (cb (fun x => o.1 x && !st.2.2.1 x) 32))) ∧ R1.1 0 = 0 ∧ refR R1 (st.2.2.1, o.2.1, o.2.2.1, o.2.2.2) (q.1.filter (fun e => st.2.2.1 e.1), (st.1, st.2.1), q.2.2) (n.1, n.2.1, n.2.2 + cb (fun x => o.1 x && !st.2.2.1 x) 32) (k.1, va_up (va_up k.2.1 1 st.2.2.2) 0 (k.2.1 0 || q.1.any (fun e => !st.2.2.1 e.1)), k.2.2))) := by
  refine so_of hB (by decide) (Nat.le_of_ble_eq_true rfl) ?_
  intro p e s m below meth c ls S K E hr hlk hnm P hS hl
  have hl : lv_has ls 4 [(0, .ref mo), (1, .int x)] := hl
  have F : fM σ σ := fM.rf
  obtain ⟨σ0, hσ0⟩ : ∃ q, q = σ := ⟨σ, rfl⟩
  rw [← hσ0]
  replace F : fM σ0 σ := by rw [hσ0]; exact fM.rf
  refine lv_aload_n S.1 S.2.1 d_Mo_collect_0 rfl (lv_at hl 0 rfl) ?_
  refine lv_iconst (v := 0) S.1 S.2.1 d_Mo_collect_1 (by decide) ?_
  refine mo_pz_57 S K P hS M F d_Mo_collect_2 (fun σ H locs P hS M F => ?_)
  refine lv_iload_n S.1 S.2.1 d_Mo_collect_5 rfl (lv_at hl 1 rfl) ?_
  refine lv_if_lt (tgt := 14) S.1 S.2.1 d_Mo_collect_6 rfl (fun h6 => ?_) (fun h6 => ?_)
  · refine lv_aload_n S.1 S.2.1 d_Mo_collect_14 rfl (lv_at hl 0 rfl) ?_
    refine lv_iconst (v := 1) S.1 S.2.1 d_Mo_collect_15 (by decide) ?_
    refine mo_after F (cv_Mo_60_Mo S hB K E P hS M.1 (c_Mo_refuse l hB M 1) rfl (by decide) (Nat.le_refl _) (Nat.le_refl _) hl.1 rfl (Nat.le_of_ble_eq_true rfl) d_Mo_collect_16) hS (fun v R1 σ H locs hp P hS M F => ?_)
    obtain ⟨rfl, rfl⟩ := hp
    refine so_iret S hr hlk P hS (Nat.le_refl _) (Nat.le_refl _) ⟨_, ?_, M, F⟩ d_Mo_collect_19
    refine Or.inl ⟨?_, rfl, rfl, ⟨h0.1, h0.2.1, h0.2.2.1, h0.2.2.2⟩⟩
    first
      | exact Or.inl h6
      | exact Or.inr (i_nle h11)
  · refine lv_iload_n S.1 S.2.1 d_Mo_collect_9 rfl (lv_at hl 1 rfl) ?_
    refine lv_iconst (v := 3) S.1 S.2.1 d_Mo_collect_10 (by decide) ?_
    refine lv_icmp_le (tgt := 20) S.1 S.2.1 d_Mo_collect_11 rfl (fun h11 => ?_) (fun h11 => ?_)
    · obtain ⟨pr, hpr, rfl⟩ := nI_of2 (M := 3) (n := 3) (by decide) h6 h11
      have h1 : refR (sz R 0 0) o q n k := h0.s0 0
      have hz1 : (sz R 0 0).1 0 = 0 := rfl
      generalize sz R 0 0 = Ra at M h1 hz1
      have hfu : q.2.1.2.length ≤ q.2.1.1.length := Nat.le_of_eq h0.2.1.2.1.2.2
      refine lv_iconst (v := 0) S.1 S.2.1 d_Mo_collect_20 (by decide) ?_
      refine lv_istore_n S.1 S.2.1 d_Mo_collect_21 rfl hl (by decide) rfl (fun ls hl => ?_)
      refine so_lp (Wf := fun ls H locs σ1 (_ : Nat × (Nat → Bool)) => W p l e _ s m _ below meth c H locs _ _ _ (F0 m 22 ls [])) (fun n1 ls H locs σ1 a => n1 = 32 - a.1 ∧ a.1 ≤ 32 ∧ (∀ x, x < a.1 → a.2 x = (o.1 x && o.2.2.1 x)) ∧ mo_I ca D s0 s mo ar σ0 ls 4 [(2, .int (nI a.1)), (0, .ref mo), (1, .int (nI pr))] H locs σ1 (hR Ra a.2)) ?_ _ ls H locs σ (0, Ra.2.2 6) ⟨rfl, Nat.zero_le _, fun x h => absurd h (Nat.not_lt_zero _), hl, P, hS, by rw [hR_id]; exact M, F⟩
      clear hl P hS M F
      rintro n1 ls H locs σ ⟨i, S1⟩ ⟨hn1, hi1, hin1, hl, P, hS, M, F⟩ ih
      simp only at hn1 hi1 hin1 hl M ih
      refine lv_iload_n S.1 S.2.1 d_Mo_collect_22 rfl (lv_at hl 0 rfl) ?_
      refine lv_bipush (v := 32) S.1 S.2.1 d_Mo_collect_23 (by decide) ?_
      refine lv_icmp_ge (tgt := 63) S.1 S.2.1 d_Mo_collect_25 rfl (fun h25 => ?_) (fun h25 => ?_)
      · have hi32 : i = 32 := by
          have := (nI_leI (a := 32) (by decide) (by omega)).mp h25
          omega
        subst hi32
        refine lv_aload_n S.1 S.2.1 d_Mo_collect_63 rfl (lv_at hl 1 rfl) ?_
        refine mo_after F (cv_Mo_141_Mo S hB K E P hS M.1 (c_Mo_holdMaps l hB M (o := o) (q := q) (n := n) (k := k) h1 hok) rfl (by decide) (Nat.le_refl _) (Nat.le_refl _) hl.1 rfl (Nat.le_of_ble_eq_true rfl) d_Mo_collect_64) hS (fun v R1 σ H locs hp P hS M F => ?_)
        obtain ⟨rfl, S2, rfl, hin2⟩ := hp
        have hal2 : ∀ i, i < 32 → (hR (hR Ra S1) S2).2.2 6 i = true → o.1 i = true := by
          intro i hi h
          rw [hR_6] at h
          rcases (hin2 i).mp h with h | h
          · rw [hR_6, hin1 i hi, Bool.and_eq_true] at h
            exact h.1
          · exact (mh_al h1.2.1 hok h).2
        refine lv_aload_n S.1 S.2.1 d_Mo_collect_67 rfl (lv_at hl 1 rfl) ?_
        refine mo_after F (cv_Mo_138_Mo S hB K E P hS M.1 (c_Mo_spread l hB M (o := o) (q := q) (n := n) (k := k) h1 hokO hal2) rfl (by decide) (Nat.le_refl _) (Nat.le_refl _) hl.1 rfl (Nat.le_of_ble_eq_true rfl) d_Mo_collect_68) hS (fun v R1 σ H locs hp P hS M F => ?_)
        obtain ⟨rfl, S3, rfl, hcl3⟩ := hp
        have hal3 : ∀ i, i < 32 → (hR (hR (hR Ra S1) S2) S3).2.2 6 i = true → o.1 i = true := by
          intro i hi h
          rw [hR_6] at h
          exact (hcl3.2.2 (fun y => y < 32 ∧ o.1 y = true) (fun i hi hT w hw j hj => hokO i hi hT.2 w hw j hj) (fun i hi hs => ⟨hi, hal2 i hi hs⟩) i hi h).2
        refine lv_aload_n S.1 S.2.1 d_Mo_collect_71 rfl (lv_at hl 1 rfl) ?_
        refine lv_iload_n S.1 S.2.1 d_Mo_collect_72 rfl (lv_at hl 2 rfl) ?_
        refine mo_after F (cv_Mo_144_Mo S hB K E P hS M.1 (c_Mo_soften l hB M (o := o) (q := q) (n := n) (k := k) h1 hok hokO hal3 hus htm h12 q.2.1.1.length hfu pr hpr) rfl (by decide) (Nat.le_refl _) (Nat.le_refl _) hl.1 rfl (Nat.le_of_ble_eq_true rfl) d_Mo_collect_73) hS (fun v R1 σ H locs hp P hS M F => ?_)
        obtain ⟨rfl, hrf, hag, hal4, hz4⟩ := hp
        have hag4 : ∀ x, x < 32 → (hR (hR (hR Ra S1) S2) S3).2.2 6 x = clF o.2.2.2 (rtM o q) x := by
          intro x hx
          rw [hR_6]
          refine hcl3.F (fun y hy => ?_) x hx
          rw [hR_6]
          unfold rtM
          have h9 := hin2 y
          rw [hR_6, hin1 y (by omega)] at h9
          cases hb : (o.1 y && o.2.2.1 y) with
          | true => rw [Bool.true_or]; exact h9.mpr (Or.inl hb)
          | false =>
            rw [Bool.false_or]
            rw [hb] at h9
            by_cases c : mh_M q y
            · rw [@decide_eq_true _ (Classical.propDecidable _) c]; exact h9.mpr (Or.inr c)
            · rw [@decide_eq_false _ (Classical.propDecidable _) c]
              cases hx2 : S2 y with
              | false => rfl
              | true => exact absurd (h9.mp hx2) (fun z => z.elim (fun z => Bool.false_ne_true z) c)
        have hc := sf_cong (rf := o.2.2.2) (tm := n.2.1) (pat := 12 - 4 * pr) (f := q.2.1.1.length) (lo := 0) (so := q.2.1.1) (us := q.2.1.2) (br := k.2.1 1) (fun e he => (hok.2.1.2.1.1 e he).2.1) hag4
        rw [show sfM o.2.2.2 n.2.1 (12 - 4 * pr) q.2.1.1.length 0 (q.2.1.1, q.2.1.2, clF o.2.2.2 (rtM o q), k.2.1 1) = scM o q n k pr from rfl] at hc
        rw [hc.1, hc.2.1, hc.2.2.2] at hrf
        have hag5 : ∀ x, x < 32 → R1.2.2 6 x = (scM o q n k pr).2.2.1 x := fun x hx => (hag x hx).trans (hc.2.2.1 x hx)
        have hal5 : ∀ x, x < 32 → (scM o q n k pr).2.2.1 x = true → o.1 x = true := fun x hx h => hal4 x hx (by rw [hc.2.2.1 x hx]; exact h)
        have hz5 : R1.1 0 = 0 := hz4.trans hz1
        clear hc hag hal4 hz4 hag4 hcl3 hin2
        obtain ⟨st, hst⟩ : ∃ st, st = scM o q n k pr := ⟨_, rfl⟩
        rw [← hst] at hrf hag5 hal5
        refine lv_aload_n S.1 S.2.1 d_Mo_collect_76 rfl (lv_at hl 1 rfl) ?_
        refine gf_Mo_38_Mo S K P M.1 rfl d_Mo_collect_77 ?_
        refine lv_iconst (v := 0) S.1 S.2.1 d_Mo_collect_80 (by decide) ?_
        refine mo_iald S K P M 11 rfl 0 rfl (by decide) d_Mo_collect_81 ?_
        refine lv_iconst (v := 1) S.1 S.2.1 d_Mo_collect_82 (by decide) ?_
        refine lv_isub S.1 S.2.1 d_Mo_collect_83 ?_
        refine lv_istore_n S.1 S.2.1 d_Mo_collect_84 rfl hl (by decide) rfl (fun ls hl => ?_)
        have hw0 := hrf.2.1.1.1
        rw [show R1.2.1 11 0 = nI q.1.length from hw0] at hl
        have hw32 : q.1.length ≤ 32 := hrf.2.1.1.2.1
        refine so_lp (Wf := fun ls H locs σ1 (_ : Nat × Rf) => W p l e _ s m _ below meth c H locs _ _ _ (F0 m 85 ls [])) (fun n1 ls H locs σ1 a => n1 = a.1 ∧ a.1 ≤ q.1.length ∧ refR a.2 o (wf q.1 (fun e => st.2.2.1 e.1) a.1, (st.1, st.2.1), q.2.2) n (k.1, va_up (va_up k.2.1 1 st.2.2.2) 0 (k.2.1 0 || wb q.1 (fun e => st.2.2.1 e.1) a.1), k.2.2) ∧ (∀ x, x < 32 → a.2.2.2 6 x = st.2.2.1 x) ∧ a.2.1 0 = 0 ∧ mo_I ca D s0 s mo ar σ0 ls 4 [(2, .int (nI a.1 - 1)), (0, .ref mo), (1, .int (nI pr))] H locs σ1 a.2) ?_ _ ls H locs σ (q.1.length, R1) ⟨rfl, Nat.le_refl _, ?_, hag5, hz5, hl, P, hS, M, F⟩
        · clear hl P hS M F hrf
          rintro n1 ls H locs σ ⟨i, Rw⟩ ⟨hn1, hi1, hrf, hag5, hz5, hl, P, hS, M, F⟩ ih
          simp only at hn1 hi1 hrf hag5 hz5 hl M ih
          refine lv_iload_n S.1 S.2.1 d_Mo_collect_85 rfl (lv_at hl 0 rfl) ?_
          refine lv_if_lt (tgt := 115) S.1 S.2.1 d_Mo_collect_86 rfl (fun h86 => ?_) (fun h86 => ?_)
          · refine lv_iconst (v := 0) S.1 S.2.1 d_Mo_collect_115 (by decide) ?_
            refine lv_istore_n S.1 S.2.1 d_Mo_collect_116 rfl hl (by decide) rfl (fun ls hl => ?_)
            refine lv_iconst (v := 0) S.1 S.2.1 d_Mo_collect_117 (by decide) ?_
            refine lv_istore_n S.1 S.2.1 d_Mo_collect_118 rfl hl (by decide) rfl (fun ls hl => ?_)
            have hi0 : i = 0 := by
              cases i with
              | zero => rfl
              | succ j =>
                rw [nI_pred] at h86
                exact absurd h86 (nI_pos (by omega))
            subst hi0
            rw [wf_0.1, wf_0.2] at hrf
            refine so_lp (Wf := fun ls H locs σ1 (_ : Nat) => W p l e _ s m _ below meth c H locs _ _ _ (F0 m 119 ls [])) (fun n1 ls H locs σ1 i => n1 = 32 - i ∧ i ≤ 32 ∧ mo_I ca D s0 s mo ar σ0 ls 4 [(3, .int (nI i)), (2, .int (nI (cb (fun x => o.1 x && !st.2.2.1 x) i))), (0, .ref mo), (1, .int (nI pr))] H locs σ1 (swR Rw i)) ?_ _ ls H locs σ 0 ⟨rfl, Nat.zero_le _, lv_sub hl [0, 1, 2, 3] rfl, P, hS, by rw [swR_0]; exact M, F⟩
            clear hl P hS M F
            rintro n1 ls H locs σ i ⟨hn1, hi1, hl, P, hS, M, F⟩ ih
            have hcb := cb_le (fun x => o.1 x && !st.2.2.1 x) i
            refine lv_iload_n S.1 S.2.1 d_Mo_collect_119 rfl (lv_at hl 0 rfl) ?_
            refine lv_bipush (v := 32) S.1 S.2.1 d_Mo_collect_120 (by decide) ?_
            refine lv_icmp_ge (tgt := 169) S.1 S.2.1 d_Mo_collect_122 rfl (fun h122 => ?_) (fun h122 => ?_)
            · have hi32 : i = 32 := by
                have := (nI_leI (a := 32) (by decide) (by omega)).mp h122
                omega
              subst hi32
              refine lv_aload_n S.1 S.2.1 d_Mo_collect_169 rfl (lv_at hl 2 rfl) ?_
              refine lv_dup S.1 S.2.1 d_Mo_collect_170 rfl ?_
              refine gf_Mo_147_Mo S K P M.1 rfl d_Mo_collect_171 ?_
              refine lv_iload_n S.1 S.2.1 d_Mo_collect_174 rfl (lv_at hl 1 rfl) ?_
              refine lv_iadd S.1 S.2.1 d_Mo_collect_175 ?_
              refine mo_pz_147 S K P hS M F d_Mo_collect_176 (fun σ H locs P hS M F => ?_)
              refine lv_iload_n S.1 S.2.1 d_Mo_collect_179 rfl (lv_at hl 1 rfl) ?_
              refine so_iret S hr hlk P hS (Nat.le_refl _) (Nat.le_refl _) ⟨_, ?_, M, F⟩ d_Mo_collect_180
              refine Or.inr ⟨pr, hpr, rfl, st, hst, rfl, hz5, ⟨fun i hi => ?_, mpR.ext rfl rfl rfl rfl hrf.2.1, ⟨hrf.2.2.1.1, hrf.2.2.1.2.1, ?_⟩, hrf.2.2.2⟩⟩
              · have hoi := hrf.1 i hi
                have e4 : (swR Rw 32).2.2 4 i = st.2.2.1 i := by
                  show va_up Rw.2.2 4 (fun x => if x < 32 then Rw.2.2 6 x else Rw.2.2 4 x) 4 i = _
                  rw [va_up_self]
                  simp only [if_pos hi]
                  exact hag5 i hi
                refine ⟨e4, fun ha => hoi.2 (hal5 i hi ha)⟩
              · show va_up Rw.1 7 (Rw.1 7 + nI (cb (fun x => o.1 x && !st.2.2.1 x) 32)) 7 = nI (n.2.2 + cb (fun x => o.1 x && !st.2.2.1 x) 32)
                rw [va_up_self, hrf.2.2.1.2.2]
                exact nI_add _ _
            · have hlt : i < 32 := Nat.not_le.mp fun z => h122 (nI_le (a := 32) z (by omega))
              refine lv_iload_n S.1 S.2.1 d_Mo_collect_125 rfl (lv_at hl 1 rfl) ?_
              refine lv_aload_n S.1 S.2.1 d_Mo_collect_126 rfl (lv_at hl 2 rfl) ?_
              refine gf_Mo_19_Mo S K P M.1 rfl d_Mo_collect_127 ?_
              refine lv_iload_n S.1 S.2.1 d_Mo_collect_130 rfl (lv_at hl 0 rfl) ?_
              refine mo_zald S K P M 4 rfl i rfl (by show i < 32; omega) d_Mo_collect_131 ?_
              refine lv_if_eq (tgt := 148) S.1 S.2.1 d_Mo_collect_132 rfl (fun h132 => ?_) (fun h132 => ?_)
              · refine lv_iconst (v := 0) S.1 S.2.1 d_Mo_collect_148 (by decide) ?_
                refine lv_iadd S.1 S.2.1 d_Mo_collect_149 ?_
                refine lv_istore_n S.1 S.2.1 d_Mo_collect_150 rfl hl (by decide) rfl (fun ls hl => ?_)
                refine lv_aload_n S.1 S.2.1 d_Mo_collect_151 rfl (lv_at hl 2 rfl) ?_
                refine gf_Mo_19_Mo S K P M.1 rfl d_Mo_collect_152 ?_
                refine lv_iload_n S.1 S.2.1 d_Mo_collect_155 rfl (lv_at hl 1 rfl) ?_
                refine lv_aload_n S.1 S.2.1 d_Mo_collect_156 rfl (lv_at hl 2 rfl) ?_
                refine gf_Mo_26_Mo S K P M.1 rfl d_Mo_collect_157 ?_
                refine lv_iload_n S.1 S.2.1 d_Mo_collect_160 rfl (lv_at hl 1 rfl) ?_
                refine mo_zald S K P M 6 rfl i rfl (by show i < 32; omega) d_Mo_collect_161 ?_
                refine mo_zast S K P hS M F 4 rfl i ((swR Rw i).2.2 6 i) rfl rfl (by show i < 32; omega) d_Mo_collect_162 (fun σ H locs P hS M F => ?_)
                refine lv_iinc (k := 1) S.1 S.2.1 d_Mo_collect_163 hl rfl rfl (by decide) rfl (fun ls hl => ?_)
                refine lv_goto (tgt := 119) S.1 S.2.1 d_Mo_collect_166 rfl ?_
                rw [nI_a] at hl
                have hgi : (o.1 i && !st.2.2.1 i) = false := by
                  rw [← (hrf.1 i hlt).1, show Rw.2.2 4 i = false by rw [← swR_4]; exact (bI_0 _).mp h132]; rfl
                have e9 : nI (cb (fun x => o.1 x && !st.2.2.1 x) i) + 0 = nI (cb (fun x => o.1 x && !st.2.2.1 x) (i + 1)) := by
                  rw [show cb (fun x => o.1 x && !st.2.2.1 x) (i + 1) = cb (fun x => o.1 x && !st.2.2.1 x) i + if (o.1 i && !st.2.2.1 i) = true then 1 else 0 from rfl, hgi]
                  exact nI_add _ 0
                rw [e9] at hl
                exact ih (32 - (i + 1)) ls H locs σ (i + 1) (by omega) ⟨rfl, by omega, hl, P, hS, by rw [← swR_s]; exact M, F⟩
              · refine lv_aload_n S.1 S.2.1 d_Mo_collect_135 rfl (lv_at hl 2 rfl) ?_
                refine gf_Mo_26_Mo S K P M.1 rfl d_Mo_collect_136 ?_
                refine lv_iload_n S.1 S.2.1 d_Mo_collect_139 rfl (lv_at hl 0 rfl) ?_
                refine mo_zald S K P M 6 rfl i rfl (by show i < 32; omega) d_Mo_collect_140 ?_
                refine lv_if_ne (tgt := 148) S.1 S.2.1 d_Mo_collect_141 rfl (fun h141 => ?_) (fun h141 => ?_)
                · refine lv_iconst (v := 0) S.1 S.2.1 d_Mo_collect_148 (by decide) ?_
                  refine lv_iadd S.1 S.2.1 d_Mo_collect_149 ?_
                  refine lv_istore_n S.1 S.2.1 d_Mo_collect_150 rfl hl (by decide) rfl (fun ls hl => ?_)
                  refine lv_aload_n S.1 S.2.1 d_Mo_collect_151 rfl (lv_at hl 2 rfl) ?_
                  refine gf_Mo_19_Mo S K P M.1 rfl d_Mo_collect_152 ?_
                  refine lv_iload_n S.1 S.2.1 d_Mo_collect_155 rfl (lv_at hl 1 rfl) ?_
                  refine lv_aload_n S.1 S.2.1 d_Mo_collect_156 rfl (lv_at hl 2 rfl) ?_
                  refine gf_Mo_26_Mo S K P M.1 rfl d_Mo_collect_157 ?_
                  refine lv_iload_n S.1 S.2.1 d_Mo_collect_160 rfl (lv_at hl 1 rfl) ?_
                  refine mo_zald S K P M 6 rfl i rfl (by show i < 32; omega) d_Mo_collect_161 ?_
                  refine mo_zast S K P hS M F 4 rfl i ((swR Rw i).2.2 6 i) rfl rfl (by show i < 32; omega) d_Mo_collect_162 (fun σ H locs P hS M F => ?_)
                  refine lv_iinc (k := 1) S.1 S.2.1 d_Mo_collect_163 hl rfl rfl (by decide) rfl (fun ls hl => ?_)
                  refine lv_goto (tgt := 119) S.1 S.2.1 d_Mo_collect_166 rfl ?_
                  rw [nI_a] at hl
                  have hgi : (o.1 i && !st.2.2.1 i) = false := by
                    rw [← hag5 i hlt, show Rw.2.2 6 i = true from bI_1 h141, Bool.not_true, Bool.and_false]
                  have e9 : nI (cb (fun x => o.1 x && !st.2.2.1 x) i) + 0 = nI (cb (fun x => o.1 x && !st.2.2.1 x) (i + 1)) := by
                    rw [show cb (fun x => o.1 x && !st.2.2.1 x) (i + 1) = cb (fun x => o.1 x && !st.2.2.1 x) i + if (o.1 i && !st.2.2.1 i) = true then 1 else 0 from rfl, hgi]
                    exact nI_add _ 0
                  rw [e9] at hl
                  exact ih (32 - (i + 1)) ls H locs σ (i + 1) (by omega) ⟨rfl, by omega, hl, P, hS, by rw [← swR_s]; exact M, F⟩
                · refine lv_iconst (v := 1) S.1 S.2.1 d_Mo_collect_144 (by decide) ?_
                  refine lv_goto (tgt := 149) S.1 S.2.1 d_Mo_collect_145 rfl ?_
                  refine lv_iadd S.1 S.2.1 d_Mo_collect_149 ?_
                  refine lv_istore_n S.1 S.2.1 d_Mo_collect_150 rfl hl (by decide) rfl (fun ls hl => ?_)
                  refine lv_aload_n S.1 S.2.1 d_Mo_collect_151 rfl (lv_at hl 2 rfl) ?_
                  refine gf_Mo_19_Mo S K P M.1 rfl d_Mo_collect_152 ?_
                  refine lv_iload_n S.1 S.2.1 d_Mo_collect_155 rfl (lv_at hl 1 rfl) ?_
                  refine lv_aload_n S.1 S.2.1 d_Mo_collect_156 rfl (lv_at hl 2 rfl) ?_
                  refine gf_Mo_26_Mo S K P M.1 rfl d_Mo_collect_157 ?_
                  refine lv_iload_n S.1 S.2.1 d_Mo_collect_160 rfl (lv_at hl 1 rfl) ?_
                  refine mo_zald S K P M 6 rfl i rfl (by show i < 32; omega) d_Mo_collect_161 ?_
                  refine mo_zast S K P hS M F 4 rfl i ((swR Rw i).2.2 6 i) rfl rfl (by show i < 32; omega) d_Mo_collect_162 (fun σ H locs P hS M F => ?_)
                  refine lv_iinc (k := 1) S.1 S.2.1 d_Mo_collect_163 hl rfl rfl (by decide) rfl (fun ls hl => ?_)
                  refine lv_goto (tgt := 119) S.1 S.2.1 d_Mo_collect_166 rfl ?_
                  rw [nI_a] at hl
                  have hgi : (o.1 i && !st.2.2.1 i) = true := by
                    rw [← (hrf.1 i hlt).1, ← hag5 i hlt, show Rw.2.2 4 i = true by rw [← swR_4]; exact bI_1 h132, show Rw.2.2 6 i = false from (bI_0 _).mp h141]; rfl
                  have e9 : nI (cb (fun x => o.1 x && !st.2.2.1 x) i) + 1 = nI (cb (fun x => o.1 x && !st.2.2.1 x) (i + 1)) := by
                    rw [show cb (fun x => o.1 x && !st.2.2.1 x) (i + 1) = cb (fun x => o.1 x && !st.2.2.1 x) i + if (o.1 i && !st.2.2.1 i) = true then 1 else 0 from rfl, hgi]
                    exact nI_add _ 1
                  rw [e9] at hl
                  exact ih (32 - (i + 1)) ls H locs σ (i + 1) (by omega) ⟨rfl, by omega, hl, P, hS, by rw [← swR_s]; exact M, F⟩
          · obtain ⟨j, rfl⟩ : ∃ j, i = j + 1 := by
              cases i with
              | zero => exact absurd (show nI 0 - 1 < 0 by decide) h86
              | succ j => exact ⟨j, rfl⟩
            rw [nI_pred] at hl
            obtain ⟨ex, hex⟩ : ∃ ex, q.1[j]? = some ex := ⟨_, List.getElem?_eq_getElem (by omega)⟩
            have hce := hok.2.1.1.1 ex (List.mem_of_getElem? hex)
            have hat := wf_at (P := fun e => st.2.2.1 e.1) hex
            have hkj : Rw.2.1 8 j = nI ex.1 := by
              have h9 := (hrf.2.1.1.2.2 j ex hat).1
              rw [Nat.mul_zero, Nat.zero_add] at h9
              exact h9
            refine lv_aload_n S.1 S.2.1 d_Mo_collect_89 rfl (lv_at hl 1 rfl) ?_
            refine gf_Mo_26_Mo S K P M.1 rfl d_Mo_collect_90 ?_
            refine lv_aload_n S.1 S.2.1 d_Mo_collect_93 rfl (lv_at hl 1 rfl) ?_
            refine gf_Mo_29_Mo S K P M.1 rfl d_Mo_collect_94 ?_
            refine lv_iload_n S.1 S.2.1 d_Mo_collect_97 rfl (lv_at hl 0 rfl) ?_
            refine mo_iald S K P M 8 rfl j rfl (by show j < 160; omega) d_Mo_collect_98 ?_
            refine mo_zald S K P M 6 rfl ex.1 hkj (by show ex.1 < 32; exact hce.1.1) d_Mo_collect_99 ?_
            refine lv_if_ne (tgt := 109) S.1 S.2.1 d_Mo_collect_100 rfl (fun h100 => ?_) (fun h100 => ?_)
            · refine lv_iinc (k := 0) S.1 S.2.1 d_Mo_collect_109 hl rfl rfl (by decide) rfl (fun ls hl => ?_)
              refine lv_goto (tgt := 85) S.1 S.2.1 d_Mo_collect_112 rfl ?_
              rw [nI_dd] at hl
              have hPe : (fun e : Nat × Nat => st.2.2.1 e.1) ex = true := by
                show st.2.2.1 ex.1 = true
                rw [← hag5 _ hce.1.1]
                exact bI_1 h100
              have hwd := wf_keep (P := fun e => st.2.2.1 e.1) hex hPe
              refine ih j ls H locs σ (j, Rw) (by omega) ⟨rfl, by show j ≤ _; omega, ?_, hag5, hz5, hl, P, hS, M, F⟩
              show refR Rw o (wf q.1 (fun e => st.2.2.1 e.1) j, (st.1, st.2.1), q.2.2) n (k.1, va_up (va_up k.2.1 1 st.2.2.2) 0 (k.2.1 0 || wb q.1 (fun e => st.2.2.1 e.1) j), k.2.2)
              rw [hwd.1, hwd.2]
              exact hrf
            · refine lv_aload_n S.1 S.2.1 d_Mo_collect_103 rfl (lv_at hl 1 rfl) ?_
              refine lv_iconst (v := 0) S.1 S.2.1 d_Mo_collect_104 (by decide) ?_
              refine lv_iload_n S.1 S.2.1 d_Mo_collect_105 rfl (lv_at hl 0 rfl) ?_
              have hgo := c_Mo_goesM l hB M hrf (mp := 0) (key := ex.1) (j := j) (e := ex) (by decide) h12 ⟨hat, rfl⟩
              rw [Nat.mul_zero, Nat.zero_add] at hgo
              refine mo_after F (cv_Mo_129_Mo S hB K E P hS M.1 (hgo) rfl (by decide) (Nat.le_refl _) (Nat.le_refl _) hl.1 rfl (Nat.le_of_ble_eq_true rfl) d_Mo_collect_106) hS (fun v R1 σ H locs hp P hS M F => ?_)
              obtain ⟨rfl, hrf6, hz6, hB6⟩ := hp
              refine lv_iinc (k := 0) S.1 S.2.1 d_Mo_collect_109 hl rfl rfl (by decide) rfl (fun ls hl => ?_)
              refine lv_goto (tgt := 85) S.1 S.2.1 d_Mo_collect_112 rfl ?_
              rw [nI_dd] at hl
              have hPe : (fun e : Nat × Nat => st.2.2.1 e.1) ex = false := by
                show st.2.2.1 ex.1 = false
                rw [← hag5 _ hce.1.1]
                exact (bI_0 _).mp h100
              have hwd := wf_drop (P := fun e => st.2.2.1 e.1) hex hPe
              refine ih j ls H locs σ (j, R1) (by omega) ⟨rfl, by show j ≤ _; omega, ?_, fun x hx => ?_, hz6.trans hz5, hl, P, hS, M, F⟩
              · show refR R1 o (wf q.1 (fun e => st.2.2.1 e.1) j, (st.1, st.2.1), q.2.2) n (k.1, va_up (va_up k.2.1 1 st.2.2.2) 0 (k.2.1 0 || wb q.1 (fun e => st.2.2.1 e.1) j), k.2.2)
                rw [hwd.1, hwd.2, Bool.or_true]
                rw [bx_uu] at hrf6
                exact hrf6
              · show R1.2.2 6 x = _
                rw [hB6]
                exact hag5 x hx
        · show refR R1 o (wf q.1 (fun e => st.2.2.1 e.1) q.1.length, (st.1, st.2.1), q.2.2) n (k.1, va_up (va_up k.2.1 1 st.2.2.2) 0 (k.2.1 0 || wb q.1 (fun e => st.2.2.1 e.1) q.1.length), k.2.2)
          rw [wf_all.1, wf_all.2, Bool.or_false, show va_up (va_up k.2.1 1 st.2.2.2) 0 (k.2.1 0) = va_up k.2.1 1 st.2.2.2 from up_id (va_up k.2.1 1 st.2.2.2) 0]
          exact hrf
      · have hlt : i < 32 := Nat.not_le.mp fun z => h25 (nI_le (a := 32) z (by omega))
        refine lv_aload_n S.1 S.2.1 d_Mo_collect_28 rfl (lv_at hl 1 rfl) ?_
        refine gf_Mo_26_Mo S K P M.1 rfl d_Mo_collect_29 ?_
        refine lv_iload_n S.1 S.2.1 d_Mo_collect_32 rfl (lv_at hl 0 rfl) ?_
        refine lv_aload_n S.1 S.2.1 d_Mo_collect_33 rfl (lv_at hl 1 rfl) ?_
        refine gf_Mo_19_Mo S K P M.1 rfl d_Mo_collect_34 ?_
        refine lv_iload_n S.1 S.2.1 d_Mo_collect_37 rfl (lv_at hl 0 rfl) ?_
        refine mo_zald S K P M 4 rfl i rfl (by show i < 32; omega) d_Mo_collect_38 ?_
        refine lv_if_eq (tgt := 55) S.1 S.2.1 d_Mo_collect_39 rfl (fun h39 => ?_) (fun h39 => ?_)
        · refine lv_iconst (v := 0) S.1 S.2.1 d_Mo_collect_55 (by decide) ?_
          refine mo_zast S K P hS M F 6 rfl i false rfl rfl (by show i < 32; omega) d_Mo_collect_56 (fun σ H locs P hS M F => ?_)
          refine lv_iinc (k := 0) S.1 S.2.1 d_Mo_collect_57 hl rfl rfl (by decide) rfl (fun ls hl => ?_)
          refine lv_goto (tgt := 22) S.1 S.2.1 d_Mo_collect_60 rfl ?_
          rw [nI_a] at hl
          rw [hR_sb] at M
          have hb : (o.1 i && o.2.2.1 i) = false := by
            rw [← (h1.1 i hlt).1, show Ra.2.2 4 i = false from (bI_0 _).mp h39]; rfl
          refine ih (32 - (i + 1)) ls H locs σ (i + 1, va_up S1 i false) (by omega) ⟨rfl, by show i + 1 ≤ 32; omega, fun x hx => ?_, hl, P, hS, M, F⟩
          show va_up S1 i false x = _
          unfold va_up
          by_cases c : x = i
          · rw [if_pos c, c, hb]
          · rw [if_neg c]
            exact hin1 x (by have : x < i + 1 := hx; omega)
        · have hth : o.1 i = true := by rw [← (h1.1 i hlt).1]; exact bI_1 h39
          refine lv_aload_n S.1 S.2.1 d_Mo_collect_42 rfl (lv_at hl 1 rfl) ?_
          refine gf_Mo_23_Mo S K P M.1 rfl d_Mo_collect_43 ?_
          refine lv_iload_n S.1 S.2.1 d_Mo_collect_46 rfl (lv_at hl 0 rfl) ?_
          refine mo_zald S K P M 5 rfl i rfl (by show i < 32; omega) d_Mo_collect_47 ?_
          refine lv_if_eq (tgt := 55) S.1 S.2.1 d_Mo_collect_48 rfl (fun h48 => ?_) (fun h48 => ?_)
          · refine lv_iconst (v := 0) S.1 S.2.1 d_Mo_collect_55 (by decide) ?_
            refine mo_zast S K P hS M F 6 rfl i false rfl rfl (by show i < 32; omega) d_Mo_collect_56 (fun σ H locs P hS M F => ?_)
            refine lv_iinc (k := 0) S.1 S.2.1 d_Mo_collect_57 hl rfl rfl (by decide) rfl (fun ls hl => ?_)
            refine lv_goto (tgt := 22) S.1 S.2.1 d_Mo_collect_60 rfl ?_
            rw [nI_a] at hl
            rw [hR_sb] at M
            have hb : (o.1 i && o.2.2.1 i) = false := by
              rw [hth, ← ((h1.1 i hlt).2 hth).2.1, show Ra.2.2 5 i = false from (bI_0 _).mp h48]; rfl
            refine ih (32 - (i + 1)) ls H locs σ (i + 1, va_up S1 i false) (by omega) ⟨rfl, by show i + 1 ≤ 32; omega, fun x hx => ?_, hl, P, hS, M, F⟩
            show va_up S1 i false x = _
            unfold va_up
            by_cases c : x = i
            · rw [if_pos c, c, hb]
            · rw [if_neg c]
              exact hin1 x (by have : x < i + 1 := hx; omega)
          · refine lv_iconst (v := 1) S.1 S.2.1 d_Mo_collect_51 (by decide) ?_
            refine lv_goto (tgt := 56) S.1 S.2.1 d_Mo_collect_52 rfl ?_
            refine mo_zast S K P hS M F 6 rfl i true rfl rfl (by show i < 32; omega) d_Mo_collect_56 (fun σ H locs P hS M F => ?_)
            refine lv_iinc (k := 0) S.1 S.2.1 d_Mo_collect_57 hl rfl rfl (by decide) rfl (fun ls hl => ?_)
            refine lv_goto (tgt := 22) S.1 S.2.1 d_Mo_collect_60 rfl ?_
            rw [nI_a] at hl
            rw [hR_sb] at M
            have hb : (o.1 i && o.2.2.1 i) = true := by
              rw [hth, ← ((h1.1 i hlt).2 hth).2.1, show Ra.2.2 5 i = true from bI_1 h48]; rfl
            refine ih (32 - (i + 1)) ls H locs σ (i + 1, va_up S1 i true) (by omega) ⟨rfl, by show i + 1 ≤ 32; omega, fun x hx => ?_, hl, P, hS, M, F⟩
            show va_up S1 i true x = _
            unfold va_up
            by_cases c : x = i
            · rw [if_pos c, c, hb]
            · rw [if_neg c]
              exact hin1 x (by have : x < i + 1 := hx; omega)
    · refine lv_aload_n S.1 S.2.1 d_Mo_collect_14 rfl (lv_at hl 0 rfl) ?_
      refine lv_iconst (v := 1) S.1 S.2.1 d_Mo_collect_15 (by decide) ?_
      refine mo_after F (cv_Mo_60_Mo S hB K E P hS M.1 (c_Mo_refuse l hB M 1) rfl (by decide) (Nat.le_refl _) (Nat.le_refl _) hl.1 rfl (Nat.le_of_ble_eq_true rfl) d_Mo_collect_16) hS (fun v R1 σ H locs hp P hS M F => ?_)
      obtain ⟨rfl, rfl⟩ := hp
      refine so_iret S hr hlk P hS (Nat.le_refl _) (Nat.le_refl _) ⟨_, ?_, M, F⟩ d_Mo_collect_19
      refine Or.inl ⟨?_, rfl, rfl, ⟨h0.1, h0.2.1, h0.2.2.1, h0.2.2.2⟩⟩
      first
        | exact Or.inl h6
        | exact Or.inr (i_nle h11)

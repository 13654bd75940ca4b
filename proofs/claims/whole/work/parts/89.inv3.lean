/-! The model's invariant is kept by collect. -/
theorem mn_min {f : Nat → Nat} {lo : Nat} : ∀ {n b : Nat}, mnI f lo n = some b → ∀ i, i < n → lo ≤ f i → f b ≤ f i
  | 0, b, h => by cases h
  | n + 1, b, h => by
    intro i hi hl
    have h0 : mnI f lo (n + 1) = match mnI f lo n with
      | none => if lo ≤ f n then some n else none
      | some b => if lo ≤ f n ∧ f n < f b then some n else some b := rfl
    rw [h0] at h
    cases hx : mnI f lo n with
    | none =>
      rw [hx] at h
      simp only at h
      split at h
      · cases h
        rcases Nat.lt_or_ge i n with h1 | h1
        · exact absurd hl (mn_none hx i h1)
        · rw [show i = n by omega]; exact Nat.le_refl _
      · cases h
    | some c =>
      rw [hx] at h
      simp only at h
      have ih := mn_min hx
      split at h
      · rename_i hc
        cases h
        rcases Nat.lt_or_ge i n with h1 | h1
        · exact Nat.le_trans (Nat.le_of_lt hc.2) (ih i h1 hl)
        · rw [show i = n by omega]; exact Nat.le_refl _
      · rename_i hc
        cases h
        rcases Nat.lt_or_ge i n with h1 | h1
        · exact ih i h1 hl
        · rw [show i = n by omega] at hl ⊢
          exact Nat.not_lt.mp fun z => hc ⟨hl, z⟩
theorem mn_01 {f : Nat → Nat} : ∀ {n : Nat}, (∀ i, i < n → 1 ≤ f i) → mnI f 0 n = mnI f 1 n
  | 0, _ => rfl
  | n + 1, h => by
    have h1 := h n (by omega)
    have ih := mn_01 (f := f) (n := n) (fun i hi => h i (by omega))
    show (match mnI f 0 n with | none => if 0 ≤ f n then some n else none | some b => if 0 ≤ f n ∧ f n < f b then some n else some b) = (match mnI f 1 n with | none => if 1 ≤ f n then some n else none | some b => if 1 ≤ f n ∧ f n < f b then some n else some b)
    rw [ih]
    cases mnI f 1 n with
    | none =>
      show (if 0 ≤ f n then some n else none) = if 1 ≤ f n then some n else none
      rw [if_pos (Nat.zero_le _), if_pos h1]
    | some b =>
      show (if 0 ≤ f n ∧ f n < f b then some n else some b) = if 1 ≤ f n ∧ f n < f b then some n else some b
      by_cases hc : f n < f b
      · rw [if_pos ⟨Nat.zero_le _, hc⟩, if_pos ⟨h1, hc⟩]
      · rw [if_neg (fun z => hc z.2), if_neg (fun z => hc z.2)]
theorem sf_01 {rf : Nat → Nat → Option Nat} {tm pat : Nat} {f : Nat} {st : Sft} (h : ∀ u ∈ st.2.1, 1 ≤ u) : sfM rf tm pat f 0 st = sfM rf tm pat f 1 st := by
  cases f with
  | zero => rfl
  | succ f =>
    have e1 : mnI (ug st.2.1) 0 st.2.1.length = mnI (ug st.2.1) 1 st.2.1.length := mn_01 (fun i hi => by
      unfold ug
      rw [List.getElem?_eq_getElem hi]
      exact h _ (List.getElem_mem hi))
    rw [sfM, sfM, e1]
theorem clF_cl {rf : Nat → Nat → Option Nat} {S : Nat → Bool} : clP rf (fun i => clF rf S i = true) := by
  intro i hi hc w hw j hj
  unfold clF at hc ⊢
  rw [@decide_eq_true_iff _ (Classical.propDecidable _)] at hc ⊢
  intro T hT hs
  exact hT i hi (hc T hT hs) w hw j hj
theorem clF_le {rf : Nat → Nat → Option Nat} {S : Nat → Bool} {i : Nat} (hi : i < 32) (h : S i = true) : clF rf S i = true := by
  unfold clF
  rw [@decide_eq_true_iff _ (Classical.propDecidable _)]
  exact fun T _ hs => hs i hi h
theorem clF_in {o : Obs} {S : Nat → Bool} (hO : okO o) (hS : ∀ i, i < 32 → S i = true → o.1 i = true) {i : Nat} (h : clF o.2.2.2 S i = true) : i < 32 ∧ o.1 i = true := by
  unfold clF at h
  rw [@decide_eq_true_iff _ (Classical.propDecidable _)] at h
  exact h (fun i => i < 32 ∧ o.1 i = true) (fun i hi hm w hw z e1 => hO i hi hm.2 w hw z e1) (fun i hi hs => ⟨hi, hS i hi hs⟩)
theorem ug_us {L : List En} {i : Nat} (h : i < L.length) : ug (L.map us) i = us L[i] := by
  unfold ug
  rw [List.getElem?_map, List.getElem?_eq_getElem h]
  rfl
theorem ct_er {L : List En} {b : Nat} {P : En → Bool} (hb : b < L.length) (hp : P L[b] = true) : (L.eraseIdx b).countP P + 1 = L.countP P := by
  have h1 := (er_perm (List.getElem?_eq_getElem hb)).countP_eq P
  rw [List.countP_cons, if_pos hp] at h1
  exact h1
theorem ct_le {L : List En} {a b : Nat} (h : a ≤ b) : L.countP (fun x => decide (b ≤ us x)) ≤ L.countP (fun x => decide (a ≤ us x)) := List.countP_mono_left (fun x _ hx => decide_eq_true (Nat.le_trans h (of_decide_eq_true hx)))
theorem sf_ok {o : Obs} (hO : okO o) {tm pat : Nat} : ∀ (f lo : Nat) (L : List En) (S : Nat → Bool) (br : Bool), (L.map us).Nodup → clP o.2.2.2 (fun i => S i = true) → (∀ i, i < 32 → S i = true → o.1 i = true) → (∀ x ∈ L, x.2.2.2.1 < 32 ∧ o.1 x.2.2.2.1 = true) → (∀ x ∈ L, us x < lo → S x.2.2.2.1 = true) → L.countP (fun x => decide (lo ≤ us x)) ≤ f →
    ∃ L1 : List En, L1.Sublist L ∧ (sfM o.2.2.2 tm pat f lo (L.map kv, L.map us, S, br)).1 = L1.map kv ∧ (sfM o.2.2.2 tm pat f lo (L.map kv, L.map us, S, br)).2.1 = L1.map us ∧ (∀ i, i < 32 → S i = true → (sfM o.2.2.2 tm pat f lo (L.map kv, L.map us, S, br)).2.2.1 i = true) ∧ clP o.2.2.2 (fun i => (sfM o.2.2.2 tm pat f lo (L.map kv, L.map us, S, br)).2.2.1 i = true) ∧ (∀ i, i < 32 → (sfM o.2.2.2 tm pat f lo (L.map kv, L.map us, S, br)).2.2.1 i = true → o.1 i = true) ∧ ∀ x ∈ L1, (sfM o.2.2.2 tm pat f lo (L.map kv, L.map us, S, br)).2.2.1 x.2.2.2.1 = true
  | 0, lo, L, S, br, hnd, hcl, hlv, hvl, hlo, hf => by
    refine ⟨L, List.Sublist.refl _, rfl, rfl, fun i _ h => h, hcl, hlv, fun x hx => hlo x hx (Nat.not_le.mp fun z => ?_)⟩
    have := List.countP_eq_zero.mp (Nat.le_zero.mp hf) x hx
    exact this (decide_eq_true z)
  | f + 1, lo, L, S, br, hnd, hcl, hlv, hvl, hlo, hf => by
    have hul : (L.map us).length = L.length := List.length_map _
    cases hm : mnI (ug (L.map us)) lo (L.map us).length with
    | none =>
      rw [sf_none (st := (L.map kv, L.map us, S, br)) hm]
      refine ⟨L, List.Sublist.refl _, rfl, rfl, fun i _ h => h, hcl, hlv, fun x hx => hlo x hx (Nat.not_le.mp fun z => ?_)⟩
      obtain ⟨j, hj, rfl⟩ := List.mem_iff_getElem.mp hx
      refine mn_none hm j (by rw [hul]; exact hj) ?_
      rw [ug_us hj]
      exact z
    | some b =>
      have hb := mn_some hm
      rw [hul] at hb
      have hbl := hb.1
      have hub := hb.2
      rw [ug_us hbl] at hub
      have hmin : ∀ x ∈ L, lo ≤ us x → us L[b] ≤ us x := fun x hx hl => by
        obtain ⟨j, hj, rfl⟩ := List.mem_iff_getElem.mp hx
        have := mn_min hm j (by rw [hul]; exact hj) (by rw [ug_us hj]; exact hl)
        rw [ug_us hbl, ug_us hj] at this
        exact this
      have hkv : (L.map kv)[b]? = some (kv L[b]) := by rw [List.getElem?_map, List.getElem?_eq_getElem hbl]; rfl
      have hv := hvl L[b] (List.getElem_mem hbl)
      have hct := ct_er (P := fun x => decide (lo ≤ us x)) hbl (decide_eq_true hub)
      by_cases hc : S L[b].2.2.2.1 = false ∧ pat ≤ tm - ug (L.map us) b
      · have e1 : sfM o.2.2.2 tm pat (f + 1) lo (L.map kv, L.map us, S, br) = sfM o.2.2.2 tm pat f (us L[b] + 1) ((L.eraseIdx b).map kv, (L.eraseIdx b).map us, S, true) := by
          rw [sf_drop (st := (L.map kv, L.map us, S, br)) hm hkv hc.1 hc.2, map_er, map_er]
          show sfM _ _ _ _ (ug (L.map us) b + 1) _ = _
          rw [ug_us hbl]
        have hsub : (L.eraseIdx b).Sublist L := List.eraseIdx_sublist _ _
        have hnd2 : ((L.eraseIdx b).map us).Nodup := (hsub.map us).nodup hnd
        have hside : ∀ x ∈ L.eraseIdx b, us x < us L[b] + 1 → S x.2.2.2.1 = true := fun x hx hl => by
          by_cases hx2 : us x < lo
          · exact hlo x (hsub.mem hx) hx2
          · exfalso
            have h6 := hmin x (hsub.mem hx) (by omega)
            have h7 : us x = us L[b] := by omega
            have hp := (er_perm (List.getElem?_eq_getElem hbl)).map us
            have h8 := hp.nodup_iff.mpr hnd
            rw [List.map_cons, List.nodup_cons] at h8
            exact h8.1 (List.mem_map.mpr ⟨x, hx, h7⟩)
        obtain ⟨L1, r1, r2, r3, r4, r5, r6, r7⟩ := sf_ok hO f (us L[b] + 1) (L.eraseIdx b) S true hnd2 hcl hlv (fun x hx => hvl x (hsub.mem hx)) hside (by
          have h5 := ct_le (L := L.eraseIdx b) (show lo ≤ us L[b] + 1 by omega)
          omega)
        rw [e1]
        exact ⟨L1, r1.trans hsub, r2, r3, r4, r5, r6, r7⟩
      · have e1 : sfM o.2.2.2 tm pat (f + 1) lo (L.map kv, L.map us, S, br) = sfM o.2.2.2 tm pat f (us L[b] + 1) (L.map kv, L.map us, clF o.2.2.2 (sH S (some L[b].2.2.2.1)), br) := by
          rw [sf_hold (st := (L.map kv, L.map us, S, br)) hm hkv hc]
          show sfM _ _ _ _ (ug (L.map us) b + 1) _ = _
          rw [ug_us hbl]
        have hS2 : ∀ i, i < 32 → sH S (some L[b].2.2.2.1) i = true → o.1 i = true := fun i hi hs => by
          have hs : va_up S L[b].2.2.2.1 true i = true := hs
          unfold va_up at hs
          split at hs
          · rename_i e2; rw [e2]; exact hv.2
          · exact hlv i hi hs
        have hside : ∀ x ∈ L, us x < us L[b] + 1 → clF o.2.2.2 (sH S (some L[b].2.2.2.1)) x.2.2.2.1 = true := fun x hx hl => by
          by_cases hx2 : us x < lo
          · exact clF_le (hvl x hx).1 (sH_le (hlo x hx hx2))
          · have h6 := hmin x hx (by omega)
            have h7 : us x = us L[b] := by omega
            obtain ⟨j, hj, rfl⟩ := List.mem_iff_getElem.mp hx
            have h8 : j = b := nd_ix.mp hnd j b (us L[b]) (by rw [List.getElem?_map, List.getElem?_eq_getElem hj]; show some (us L[j]) = _; rw [h7]) (by rw [List.getElem?_map, List.getElem?_eq_getElem hbl]; rfl)
            subst h8
            exact clF_le hv.1 (va_up_self _ _ _)
        obtain ⟨L1, r1, r2, r3, r4, r5, r6, r7⟩ := sf_ok hO f (us L[b] + 1) L (clF o.2.2.2 (sH S (some L[b].2.2.2.1))) br hnd clF_cl (fun i _ hs => (clF_in hO hS2 hs).2) hvl hside (by
          have h5 : L.countP (fun x => decide (us L[b] + 1 ≤ us x)) ≤ (L.eraseIdx b).countP (fun x => decide (lo ≤ us x)) := by
            have h6 := (er_perm (List.getElem?_eq_getElem hbl)).countP_eq (fun x => decide (us L[b] + 1 ≤ us x))
            rw [List.countP_cons, if_neg (by simp)] at h6
            rw [← h6]
            exact ct_le (by omega)
          omega)
        rw [e1]
        exact ⟨L1, r1, r2, r3, fun i hi hs => r4 i hi (clF_le hi (sH_le hs)), r5, r6, r7⟩

/-! The marks as a list: L lists the held ones in their order. -/
def HL (X : Hx) (L : List Nat) : Prop := X.hc = nI L.length ∧ L.length = cb (fun j => X.al j && X.hd j) 32 ∧ (∀ t j, L[t]? = some j → X.g t = nI j ∧ j < 32 ∧ X.al j = true ∧ X.hd j = true) ∧ ∀ j, j < 32 → X.al j = true → X.hd j = true → j ∈ L
/-- the same but for the marks -/
def sbM (X X1 : Hx) : Prop := X1.ad = X.ad ∧ X1.va = X.va ∧ X1.rt = X.rt ∧ X1.rr = X.rr ∧ X1.cd = X.cd
theorem sbM.rf {X : Hx} : sbM X X := ⟨rfl, rfl, rfl, rfl, rfl⟩
theorem sbM.tr {X Y Z : Hx} (h : sbM X Y) (h2 : sbM Y Z) : sbM X Z := ⟨h2.1.trans h.1, h2.2.1.trans h.2.1, h2.2.2.1.trans h.2.2.1, h2.2.2.2.1.trans h.2.2.2.1, h2.2.2.2.2.trans h.2.2.2.2⟩
theorem sbM.al {X Y : Hx} (h : sbM X Y) : Y.al = X.al := by
  funext i
  unfold Hx.al
  rw [h.1]
theorem cb_cong {f g : Nat → Bool} : ∀ {n : Nat}, (∀ i, i < n → f i = g i) → cb f n = cb g n
  | 0, _ => rfl
  | n + 1, h => by
    unfold cb
    rw [cb_cong (fun i hi => h i (by omega)), h n (by omega)]
theorem cb_up {f : Nat → Bool} {t : Nat} : ∀ {n : Nat}, t < n → f t = false → cb (va_up f t true) n = cb f n + 1
  | 0, h, _ => absurd h (Nat.not_lt_zero _)
  | n + 1, h, hf => by
    unfold cb
    by_cases c : t = n
    · subst c
      rw [va_up_self, hf, cb_cong (g := f) (fun i hi => va_up_ne _ _ (by omega))]
      rfl
    · rw [cb_up (by omega) hf, va_up_ne _ _ (by omega)]
      omega
theorem HL.lt {X : Hx} {L : List Nat} (h : HL X L) {j : Nat} (hj : j < 32) (hn : X.hd j = false) : L.length < 32 := by
  rw [h.2.1]
  have h1 := cb_lt (S := fun j => X.al j && X.hd j) (T := fun _ => true) (n := 32) (i0 := j) (fun _ _ _ => rfl) hj rfl (by rw [hn, Bool.and_false]; exact Bool.false_ne_true)
  have h2 := cb_le (fun _ => true) 32
  omega
theorem HL.le {X : Hx} {L : List Nat} (h : HL X L) : L.length ≤ 32 := by
  rw [h.2.1]; exact cb_le _ _
theorem HL.mk {X : Hx} {L : List Nat} (h : HL X L) {j : Nat} (hj : j < 32) (ha : X.al j = true) (hn : X.hd j = false) : HL (mk_H X L.length j) (L ++ [j]) ∧ sbM X (mk_H X L.length j) ∧ (mk_H X L.length j).hd = va_up X.hd j true := by
  have hA : (mk_H X L.length j).al = X.al := rfl
  have hD : (mk_H X L.length j).hd = va_up X.hd j true := rfl
  have hG : (mk_H X L.length j).g = upd X.g L.length (nI j) := rfl
  refine ⟨⟨?_, ?_, fun t i ht => ?_, fun i hi h1 h2 => ?_⟩, ⟨rfl, rfl, up_id X.rt j, rfl, rfl⟩, rfl⟩
  · rw [List.length_append]; rfl
  · rw [List.length_append, hA, hD, h.2.1]
    have e : (fun i => X.al i && va_up X.hd j true i) = va_up (fun i => X.al i && X.hd i) j true := by
      funext i
      unfold va_up
      by_cases c : i = j
      · rw [if_pos c, if_pos c, c, ha]; rfl
      · rw [if_neg c, if_neg c]
    rw [e, cb_up hj (by rw [hn, Bool.and_false])]
    rfl
  · rw [hA, hD, hG]
    unfold upd
    rcases Nat.lt_or_ge t L.length with c | c
    · rw [List.getElem?_append_left c] at ht
      have h3 := h.2.2.1 t i ht
      rw [if_neg (by omega)]
      refine ⟨h3.1, h3.2.1, h3.2.2.1, ?_⟩
      unfold va_up
      split
      · rfl
      · exact h3.2.2.2
    · rw [List.getElem?_append_right c] at ht
      have e0 : t - L.length = 0 := by
        have := (List.getElem?_eq_some_iff.mp ht).1
        simp only [List.length_singleton] at this
        omega
      rw [e0] at ht
      cases ht
      rw [if_pos (by omega), va_up_self]
      exact ⟨rfl, hj, ha, rfl⟩
  · rw [hA] at h1
    rw [hD] at h2
    by_cases c : i = j
    · rw [c]; exact List.mem_append_right _ (List.mem_singleton.mpr rfl)
    · rw [va_up_ne _ _ c] at h2
      exact List.mem_append_left _ (h.2.2.2 i hi h1 h2)
/-- what a mark of x makes of the list -/
def mkL (X : Hx) (L : List Nat) (x : Int32) (X1 : Hx) (L1 : List Nat) : Prop := HL X1 L1 ∧ sbM X X1 ∧ ((L1 = L ∧ X1.hd = X.hd ∧ ∀ j, j < 32 → x = nI j → X.al j = true → j ∈ L) ∨ ∃ j, j < 32 ∧ x = nI j ∧ X.al j = true ∧ X.hd j = false ∧ L1 = L ++ [j] ∧ X1.hd = va_up X.hd j true)
theorem c_He_markL (l : Launch) {s0 : State} {D : va_G} {ca : Nat → ClassId} (hB : so_B tbl s0 D vcl (tyl ca)) {σ : so_S} {he th ho : Nat} {X : Hx} (M : HeR ca σ he th ho X) {L : List Nat} (h : HL X L) (x : Int32) : he_C l s0 D ca he th ho σ y_He_mark b_He_mark 2 none 1 [.int x] (fun v X1 => v = none ∧ ∃ L1, mkL X L x X1 L1) := by
  refine so_C.mono (c_He_mark l hB M L.length h.1 h.le x) (fun v σ1 hp => ?_)
  obtain ⟨X1, ⟨hv, hp⟩, h2, h3⟩ := hp
  refine ⟨X1, ⟨hv, ?_⟩, h2, h3⟩
  rcases hp with ⟨hc, rfl⟩ | ⟨j, hj, rfl, ha, hn, -, rfl⟩
  · refine ⟨L, h, sbM.rf, Or.inl ⟨rfl, rfl, fun j hj hx ha => ?_⟩⟩
    refine h.2.2.2 j hj ha ?_
    rcases hc with hc | ⟨i, hi, h1, h4⟩ | hc
    · rw [hc j hj hx] at ha; cases ha
    · have : i = j := (nI_eq (by omega) (by omega)).mp (h1.symm.trans hx)
      rw [← this]; exact h4
    · cases hd : X1.hd j with
      | true => rfl
      | false => exact absurd (h.lt hj hd) (by omega)
  · have h5 := h.mk hj ha hn
    exact ⟨L ++ [j], h5.1, h5.2.1, Or.inr ⟨j, hj, rfl, ha, hn, rfl, h5.2.2⟩⟩

/-! Heap: what an object refers to is marked; hold. -/
def he_I (ca : Nat → ClassId) (D : va_G) (s0 s : State) (he th ho : Nat) (σ0 : so_S) (ls : Array Slot) (nL : Nat) (lv : List (Nat × Value)) (H : Heap) (locs : List Loc) (σ : so_S) (X : Hx) : Prop :=
  lv_has ls nL lv ∧ so_P D vcl s0.heap.size σ H ∧ va_S (so_A s0.heap.size) s.heap H locs ∧ HeR ca σ he th ho X ∧ fH σ0 σ
def mwL (X : Hx) (L : List Nat) (j W : Nat) (X1 : Hx) (L1 : List Nat) : Prop := HL X1 L1 ∧ sbM X X1 ∧ (∃ E, L1 = L ++ E ∧ ∀ e ∈ E, (e < 32 ∧ X.al e = true) ∧ ∃ w, w < 2 ∧ X.rr j w = nI e) ∧ ∀ w, w < W → ∀ i, i < 32 → X.rr j w = nI i → X.al i = true → i ∈ L1
theorem mwL.st {X X1 X2 : Hx} {L L1 L2 : List Nat} {j W : Nat} (h : mwL X L j W X1 L1) (hW : W < 2) (h2 : mkL X1 L1 (X1.rr j W) X2 L2) : mwL X L j (W + 1) X2 L2 := by
  obtain ⟨a, b, ⟨E, rfl, hE⟩, d⟩ := h
  obtain ⟨a2, b2, c2⟩ := h2
  have er : X1.rr = X.rr := b.2.2.2.1
  have ea : X1.al = X.al := b.al
  rw [er, ea] at c2
  refine ⟨a2, b.tr b2, ?_, fun w hw i hi h1 h3 => ?_⟩
  · rcases c2 with ⟨rfl, -, -⟩ | ⟨i, hi, h1, h3, -, rfl, -⟩
    · exact ⟨E, rfl, hE⟩
    · refine ⟨E ++ [i], List.append_assoc _ _ _, fun e he => ?_⟩
      rcases List.mem_append.mp he with h | h
      · exact hE e h
      · cases List.mem_singleton.mp h
        exact ⟨⟨hi, h3⟩, W, hW, h1⟩
  · rcases Nat.lt_succ_iff_lt_or_eq.mp hw with c | c
    · have h5 := d w c i hi h1 h3
      rcases c2 with ⟨rfl, -, -⟩ | ⟨i2, hi2, h6, h7, -, rfl, -⟩
      · exact h5
      · exact List.mem_append_left _ h5
    · subst c
      rcases c2 with ⟨rfl, -, h8⟩ | ⟨i2, hi2, h6, h7, -, rfl, -⟩
      · exact h8 i hi h1 h3
      · have : i2 = i := (nI_eq (by omega) (by omega)).mp (h6.symm.trans h1)
        rw [this]
        exact List.mem_append_right _ (List.mem_singleton.mpr rfl)
set_option maxHeartbeats 400000 in
set_option maxRecDepth 100000 in
theorem c_He_markWhatItRefersTo (l : Launch) {s0 : State} {D : va_G} {ca : Nat → ClassId} (hB : so_B tbl s0 D vcl (tyl ca)) {σ : so_S} {he th ho : Nat} {X : Hx} (M : HeR ca σ he th ho X) {L : List Nat} (hL : HL X L) (j : Nat) (hj : j < 32) (haj : X.al j = true) : he_C l s0 D ca he th ho σ y_He_markWhatItRefersTo b_He_markWhatItRefersTo 3 none 2 [.int (nI j)] (fun v X1 => v = none ∧ ∃ L1, mwL X L j 2 X1 L1) := by
  refine so_of hB (by decide) (Nat.le_of_ble_eq_true rfl) ?_
  intro p e s m below meth c ls S K E hr hlk hnm P hS hl
  have hl : lv_has ls 3 [(0, .ref he), (1, .int (nI j))] := hl
  have F : fH σ σ := fH.rf
  obtain ⟨σ0, hσ0⟩ : ∃ q, q = σ := ⟨σ, rfl⟩
  rw [← hσ0]
  replace F : fH σ0 σ := by rw [hσ0]; exact fH.rf
  refine lv_aload_n S.1 S.2.1 d_He_markWhatItRefersTo_0 rfl (lv_at hl 0 rfl) ?_
  refine lv_iload_n S.1 S.2.1 d_He_markWhatItRefersTo_1 rfl (lv_at hl 1 rfl) ?_
  refine so_callR (cv_He_21_He S hB K E P hS M.1 (c_He_has l hB M.1 M.2.1 (nI j)) rfl (by decide) (Nat.le_refl _) (Nat.le_refl _) hl.1 rfl (Nat.le_of_ble_eq_true rfl) d_He_markWhatItRefersTo_2) (fun v hv => ?_)
  subst hv
  refine lv_if_eq (tgt := 36) S.1 S.2.1 d_He_markWhatItRefersTo_5 rfl (fun h5 => ?_) (fun h5 => ?_)
  · rw [has_nI hj, X.f_al, haj] at h5
    exact absurd h5 (by decide)
  · obtain ⟨a, ha⟩ := Hx.al_ad haj
    refine lv_iconst (v := 0) S.1 S.2.1 d_He_markWhatItRefersTo_8 (by decide) ?_
    refine lv_istore_n S.1 S.2.1 d_He_markWhatItRefersTo_9 rfl hl (by decide) rfl (fun ls hl => ?_)
    refine so_lp (Wf := fun ls H locs σ1 (_ : Nat × Hx × List Nat) => W p l e _ s m _ below meth c H locs _ _ _ (F0 m 10 ls [])) (fun n1 ls H locs σ1 a => n1 = 2 - a.1 ∧ a.1 ≤ 2 ∧ mwL X L j a.1 a.2.1 a.2.2 ∧ he_I ca D s0 s he th ho σ0 ls 3 [(2, .int (nI a.1)), (0, .ref he), (1, .int (nI j))] H locs σ1 a.2.1) ?_ _ ls s.heap [] σ (0, X, L) ⟨rfl, Nat.zero_le _, ⟨hL, sbM.rf, ⟨[], (List.append_nil _).symm, fun e h => by cases h⟩, fun w h => absurd h (Nat.not_lt_zero _)⟩, hl, P, hS, M, F⟩
    clear hl P hS M F
    rintro n1 ls H locs σ ⟨w, X2, L2⟩ ⟨hn1, hw2, hmw, hl, P, hS, M, F⟩ ih
    simp only at hn1 hw2 hmw hl M ih
    have ha2 : X2.ad j = some a := by rw [hmw.2.1.1]; exact ha
    have hta := M.2.2.2 j a hj ha2
    refine lv_iload_n S.1 S.2.1 d_He_markWhatItRefersTo_10 rfl (lv_at hl 0 rfl) ?_
    refine lv_iconst (v := 2) S.1 S.2.1 d_He_markWhatItRefersTo_11 (by decide) ?_
    refine lv_icmp_ge (tgt := 36) S.1 S.2.1 d_He_markWhatItRefersTo_12 rfl (fun h12 => ?_) (fun h12 => ?_)
    · refine so_vret S hr hlk P hS (Nat.le_refl _) (Nat.le_refl _) ⟨_, ?_, M, F⟩ d_He_markWhatItRefersTo_36
      have hw3 : w = 2 := by
        have := (nI_leI (a := 2) (by decide) (by omega)).mp h12
        omega
      subst hw3
      exact ⟨rfl, L2, hmw⟩
    · have hlt : w < 2 := Nat.not_le.mp fun z => h12 (nI_le (a := 2) z (by omega))
      refine lv_aload_n S.1 S.2.1 d_He_markWhatItRefersTo_15 rfl (lv_at hl 1 rfl) ?_
      refine lv_aload_n S.1 S.2.1 d_He_markWhatItRefersTo_16 rfl (lv_at hl 1 rfl) ?_
      refine gf_He_11_He S K P M.1 rfl d_He_markWhatItRefersTo_17 ?_
      refine lv_iload_n S.1 S.2.1 d_He_markWhatItRefersTo_20 rfl (lv_at hl 2 rfl) ?_
      refine so_aaldN S K P M.2.1 3 rfl hj (by decide) d_He_markWhatItRefersTo_21 ?_
      rw [show X2.f j = some a.1 by unfold Hx.f; rw [ha2]; rfl]
      refine gf_He_46_Th S K P hta.1 rfl d_He_markWhatItRefersTo_22 ?_
      refine lv_iload_n S.1 S.2.1 d_He_markWhatItRefersTo_25 rfl (lv_at hl 0 rfl) ?_
      refine so_ialdN S K P hta.2 0 rfl hlt (by decide) d_He_markWhatItRefersTo_26 ?_
      refine he_after F (cv_He_40_He S hB K E P hS M.1 (c_He_markL l hB M hmw.1 (X2.rr j w)) rfl (by decide) (Nat.le_refl _) (Nat.le_refl _) hl.1 rfl (Nat.le_of_ble_eq_true rfl) d_He_markWhatItRefersTo_27) hS (fun v X1 σ H locs hp P hS M F => ?_)
      obtain ⟨rfl, L1, hmk⟩ := hp
      refine lv_iinc (k := 0) S.1 S.2.1 d_He_markWhatItRefersTo_30 hl rfl rfl (by decide) rfl (fun ls hl => ?_)
      refine lv_goto (tgt := 10) S.1 S.2.1 d_He_markWhatItRefersTo_33 rfl ?_
      rw [nI_a] at hl
      exact ih (2 - (w + 1)) ls H locs σ (w + 1, X1, L1) (by omega) ⟨rfl, by show w + 1 ≤ 2; omega, hmw.st hlt hmk, hl, P, hS, M, F⟩

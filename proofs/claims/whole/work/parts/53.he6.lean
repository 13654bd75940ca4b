/-! Heap: sweep. -/
section HE4
variable {p : Program} {l : Launch} {e : Env} {Ro : Room} {s : State} {m : MethodId} {args : Array Value} {below : List Frame} {meth : Method} {c : Code} {H H0 : Heap} {locs : List Loc} {cells slots : Nat} {Q : State → Prop}
variable {cc : ByteArray} {pc nL N0 : Nat} {ls : Array Slot} {rest : List Value} {D : va_G} {σ σ0 : so_S} {ca : Nat → ClassId} {he th ho : Nat} {X : Hx}
theorem he_a0 (S : CallFix p m c cc nL s args tbl "HoldMaps$Heap") (K : va_K D vcl (tyl ca) s) (P : so_P D vcl N0 σ H) (hS : va_S (so_A N0) H0 H locs) (M : HeR ca σ he th ho X) (F : fH σ0 σ) (i : Nat) (hi : i < 32) (hdg : decode cc pc = .ok (.aastore, 1)) (kk : ∀ (σ1 : so_S) (H1 : Heap) (locs1 : List Loc), so_P D vcl N0 σ1 H1 → va_S (so_A N0) H0 H1 locs1 → HeR ca σ1 he th ho (X.w0 i) → fH σ0 σ1 → W p l e Ro s m args below meth c H1 locs1 cells slots Q (F0 m (pc + 1) ls rest)) : W p l e Ro s m args below meth c H locs cells slots Q (F0 m pc ls (.null :: .int (nI i) :: .ref th :: rest)) :=
  so_aastN S K P hS M.2.1 3 rfl (r := none) (fun v h => by cases h) hi (by decide) hdg (fun H1 locs1 P1 hS1 => kk _ H1 locs1 P1 hS1 (M.up_0 i) (F.up M.2.1 (Or.inr (Or.inl rfl))))
end HE4
/-- the first i objects are swept -/
def swH (X : Hx) (i : Nat) : Hx := (fun j => if j < i ∧ X.hd j = false then none else X.ad j, X.2)
theorem swH_0 (X : Hx) : swH X 0 = X := by
  unfold swH
  refine Prod.ext (funext fun j => ?_) rfl
  show (if j < 0 ∧ X.hd j = false then none else X.ad j) = X.ad j
  exact if_neg (fun h => Nat.not_lt_zero _ h.1)
theorem swH_ad (X : Hx) (i : Nat) : (swH X i).ad i = X.ad i := if_neg (fun h => Nat.lt_irrefl _ h.1)
theorem swH_s (X : Hx) {i : Nat} (h : X.hd i = false) : (swH X i).w0 i = swH X (i + 1) := by
  refine Prod.ext (funext fun j => ?_) rfl
  show va_up (swH X i).ad i none j = if j < i + 1 ∧ X.hd j = false then none else X.ad j
  unfold va_up
  by_cases c : j = i
  · rw [if_pos c, if_pos ⟨by omega, by rw [c]; exact h⟩]
  · rw [if_neg c]
    show (if j < i ∧ X.hd j = false then none else X.ad j) = _
    by_cases c2 : j < i ∧ X.hd j = false
    · rw [if_pos c2, if_pos ⟨by omega, c2.2⟩]
    · rw [if_neg c2, if_neg (fun z => c2 ⟨by omega, z.2⟩)]
theorem swH_k (X : Hx) {i : Nat} (h : X.ad i = none ∨ X.hd i = true) : swH X i = swH X (i + 1) := by
  refine Prod.ext (funext fun j => ?_) rfl
  show (if j < i ∧ X.hd j = false then none else X.ad j) = if j < i + 1 ∧ X.hd j = false then none else X.ad j
  by_cases c : j = i
  · subst c
    rw [if_neg (fun h => Nat.lt_irrefl _ h.1)]
    rcases h with h | h
    · rw [h]; split <;> rfl
    · rw [if_neg (fun z => by rw [h] at z; cases z.2)]
  · by_cases c2 : j < i ∧ X.hd j = false
    · rw [if_pos c2, if_pos ⟨by omega, c2.2⟩]
    · rw [if_neg c2, if_neg (fun z => c2 ⟨by omega, z.2⟩)]
set_option maxHeartbeats 400000 in
set_option maxRecDepth 100000 in
theorem c_He_sweep (l : Launch) {s0 : State} {D : va_G} {ca : Nat → ClassId} (hB : so_B tbl s0 D vcl (tyl ca)) {σ : so_S} {he th ho : Nat} {X : Hx} (M : HeR ca σ he th ho X)  : he_C l s0 D ca he th ho σ y_He_sweep b_He_sweep 3 (some .int) 1 [] (fun v X1 => v = some (.int (nI (cb (fun j => X.al j && !X.hd j) 32))) ∧ X1 = (swH X 32).wn X.hc (X.cd + nI (cb (fun j => X.al j && !X.hd j) 32))) := by
  refine so_of hB (by decide) (Nat.le_of_ble_eq_true rfl) ?_
  intro p e s m below meth c ls S K E hr hlk hnm P hS hl
  have hl : lv_has ls 3 [(0, .ref he)] := hl
  have F : fH σ σ := fH.rf
  obtain ⟨σ0, hσ0⟩ : ∃ q, q = σ := ⟨σ, rfl⟩
  rw [← hσ0]
  replace F : fH σ0 σ := by rw [hσ0]; exact fH.rf
  refine lv_iconst (v := 0) S.1 S.2.1 d_He_sweep_0 (by decide) ?_
  refine lv_istore_n S.1 S.2.1 d_He_sweep_1 rfl hl (by decide) rfl (fun ls hl => ?_)
  refine lv_iconst (v := 0) S.1 S.2.1 d_He_sweep_2 (by decide) ?_
  refine lv_istore_n S.1 S.2.1 d_He_sweep_3 rfl hl (by decide) rfl (fun ls hl => ?_)
  refine so_lp (Wf := fun ls H locs σ1 (_ : Nat) => W p l e _ s m _ below meth c H locs _ _ _ (F0 m 4 ls [])) (fun n1 ls H locs σ1 i => n1 = 32 - i ∧ i ≤ 32 ∧ he_I ca D s0 s he th ho σ0 ls 3 [(2, .int (nI i)), (1, .int (nI (cb (fun j => X.al j && !X.hd j) i))), (0, .ref he)] H locs σ1 (swH X i)) ?_ _ ls s.heap [] σ 0 ⟨rfl, Nat.zero_le _, hl, P, hS, by rw [swH_0]; exact M, F⟩
  clear hl P hS M F
  rintro n1 ls H locs σ i ⟨hn1, hi1, hl, P, hS, M, F⟩ ih
  refine lv_iload_n S.1 S.2.1 d_He_sweep_4 rfl (lv_at hl 0 rfl) ?_
  refine lv_bipush (v := 32) S.1 S.2.1 d_He_sweep_5 (by decide) ?_
  refine lv_icmp_ge (tgt := 47) S.1 S.2.1 d_He_sweep_7 rfl (fun h7 => ?_) (fun h7 => ?_)
  · have hi32 : i = 32 := by
      have := (nI_leI (a := 32) (by decide) (by omega)).mp h7
      omega
    subst hi32
    refine lv_aload_n S.1 S.2.1 d_He_sweep_47 rfl (lv_at hl 2 rfl) ?_
    refine lv_dup S.1 S.2.1 d_He_sweep_48 rfl ?_
    refine gf_He_49_He S K P M.1 rfl d_He_sweep_49 ?_
    refine lv_iload_n S.1 S.2.1 d_He_sweep_52 rfl (lv_at hl 1 rfl) ?_
    refine lv_iadd S.1 S.2.1 d_He_sweep_53 ?_
    refine he_p49 S K P hS M F d_He_sweep_54 (fun σ H locs P hS M F => ?_)
    refine lv_iload_n S.1 S.2.1 d_He_sweep_57 rfl (lv_at hl 1 rfl) ?_
    refine so_iret S hr hlk P hS (Nat.le_refl _) (Nat.le_refl _) ⟨_, ?_, M, F⟩ d_He_sweep_58
    exact ⟨rfl, rfl⟩
  · have hlt : i < 32 := Nat.not_le.mp fun z => h7 (nI_le (a := 32) z (by omega))
    refine lv_aload_n S.1 S.2.1 d_He_sweep_10 rfl (lv_at hl 2 rfl) ?_
    refine gf_He_11_He S K P M.1 rfl d_He_sweep_11 ?_
    refine lv_iload_n S.1 S.2.1 d_He_sweep_14 rfl (lv_at hl 0 rfl) ?_
    refine so_aaldN S K P M.2.1 3 rfl hlt (by decide) d_He_sweep_15 ?_
    refine lv_ifnullQ (tgt := 41) S.1 S.2.1 d_He_sweep_16 rfl (fun h16 => ?_) (fun q h16 => ?_)
    · have hadn : X.ad i = none := by
        have h9 : ((swH X i).ad i).map Prod.fst = none := h16
        rw [swH_ad] at h9
        cases hx : X.ad i with
        | none => rfl
        | some a => rw [hx] at h9; cases h9
      have hali0 : X.al i = false := by unfold Hx.al; rw [hadn]; rfl
      refine lv_iinc (k := 0) S.1 S.2.1 d_He_sweep_41 hl rfl rfl (by decide) rfl (fun ls hl => ?_)
      refine lv_goto (tgt := 4) S.1 S.2.1 d_He_sweep_44 rfl ?_
      rw [nI_a] at hl
      have hgi : (X.al i && !X.hd i) = false := by
        rw [hali0]; rfl
      have e9 : cb (fun j => X.al j && !X.hd j) (i + 1) = cb (fun j => X.al j && !X.hd j) i + 0 := by
        rw [show cb (fun j => X.al j && !X.hd j) (i + 1) = cb (fun j => X.al j && !X.hd j) i + if (X.al i && !X.hd i) = true then 1 else 0 from rfl, hgi]; rfl
      refine ih (32 - (i + 1)) ls H locs σ (i + 1) (by omega) ⟨rfl, by omega, ?_, P, hS, ?_, F⟩
      · rw [e9]
        exact lv_sub hl [0, 1, 2] rfl
      · rw [← swH_k X (Or.inl hadn)]; exact M
    · obtain ⟨a, ha, rfl, hta⟩ := M.thing hlt h16
      have hali1 : X.al i = true := by
        rw [swH_ad] at ha
        unfold Hx.al
        rw [ha]; rfl
      refine lv_aload_n S.1 S.2.1 d_He_sweep_19 rfl (lv_at hl 2 rfl) ?_
      refine gf_He_11_He S K P M.1 rfl d_He_sweep_20 ?_
      refine lv_iload_n S.1 S.2.1 d_He_sweep_23 rfl (lv_at hl 0 rfl) ?_
      refine so_aaldN S K P M.2.1 3 rfl hlt (by decide) d_He_sweep_24 ?_
      rw [h16]
      refine gf_He_25_Th S K P hta.1 rfl d_He_sweep_25 ?_
      refine lv_if_ne (tgt := 41) S.1 S.2.1 d_He_sweep_28 rfl (fun h28 => ?_) (fun h28 => ?_)
      · refine lv_iinc (k := 0) S.1 S.2.1 d_He_sweep_41 hl rfl rfl (by decide) rfl (fun ls hl => ?_)
        refine lv_goto (tgt := 4) S.1 S.2.1 d_He_sweep_44 rfl ?_
        rw [nI_a] at hl
        have hgi : (X.al i && !X.hd i) = false := by
          rw [show X.hd i = true from bI_1 h28, Bool.not_true, Bool.and_false]
        have e9 : cb (fun j => X.al j && !X.hd j) (i + 1) = cb (fun j => X.al j && !X.hd j) i + 0 := by
          rw [show cb (fun j => X.al j && !X.hd j) (i + 1) = cb (fun j => X.al j && !X.hd j) i + if (X.al i && !X.hd i) = true then 1 else 0 from rfl, hgi]; rfl
        refine ih (32 - (i + 1)) ls H locs σ (i + 1) (by omega) ⟨rfl, by omega, ?_, P, hS, ?_, F⟩
        · rw [e9]
          exact lv_sub hl [0, 1, 2] rfl
        · rw [← swH_k X (Or.inr (bI_1 h28))]; exact M
      · refine lv_aload_n S.1 S.2.1 d_He_sweep_31 rfl (lv_at hl 2 rfl) ?_
        refine gf_He_11_He S K P M.1 rfl d_He_sweep_32 ?_
        refine lv_iload_n S.1 S.2.1 d_He_sweep_35 rfl (lv_at hl 0 rfl) ?_
        refine lv_null S.1 S.2.1 d_He_sweep_36 ?_
        refine he_a0 S K P hS M F i hlt d_He_sweep_37 (fun σ H locs P hS M F => ?_)
        refine lv_iinc (k := 1) S.1 S.2.1 d_He_sweep_38 hl rfl rfl (by decide) rfl (fun ls hl => ?_)
        refine lv_iinc (k := 1) S.1 S.2.1 d_He_sweep_41 hl rfl rfl (by decide) rfl (fun ls hl => ?_)
        refine lv_goto (tgt := 4) S.1 S.2.1 d_He_sweep_44 rfl ?_
        rw [nI_a] at hl
        rw [nI_a] at hl
        have hgi : (X.al i && !X.hd i) = true := by
          rw [hali1, show X.hd i = false from (bI_0 _).mp h28]; rfl
        have e9 : cb (fun j => X.al j && !X.hd j) (i + 1) = cb (fun j => X.al j && !X.hd j) i + 1 := by
          rw [show cb (fun j => X.al j && !X.hd j) (i + 1) = cb (fun j => X.al j && !X.hd j) i + if (X.al i && !X.hd i) = true then 1 else 0 from rfl, hgi]; rfl
        refine ih (32 - (i + 1)) ls H locs σ (i + 1) (by omega) ⟨rfl, by omega, ?_, P, hS, ?_, F⟩
        · rw [e9]
          exact lv_sub hl [0, 1, 2] rfl
        · rw [← swH_s X ((bI_0 _).mp h28)]; exact M

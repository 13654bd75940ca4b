/-! ArrayList: what grows. -/
/-- the list al over the row ed of cap places (or over the JDK's empty row DE), n of them in use -/
def ALQ (ca : Nat → ClassId) (DE : Nat) (σ : so_S) (al tg tr : Nat) (md : Int32) (ed n cap : Nat) (f : Nat → Option Nat) : Prop := σ al = some (tg, oAL md ed (nI n)) ∧ ((ed = DE ∧ n = 0 ∧ cap = 0) ∨ (σ ed = some (tr, aR ca 6 cap f) ∧ n ≤ cap ∧ 1 ≤ cap ∧ cap ≤ 64))
theorem isE.fr {σ σ1 : so_S} {y tg tr : Nat} (h : isE σ y) (Fr : fT (tL tg tr) σ σ1) (h1 : tg < 1000) (h2 : tr < 1000) : isE σ1 y := by
  obtain ⟨te, k, m, v, u, ht, h⟩ := h
  exact ⟨te, k, m, v, u, ht, Fr _ _ h (fun z => by rcases z with z | z <;> (simp only at z; omega))⟩
theorem isE.ast {σ : so_S} {s : State} {v : Nat} (h : isE σ v) (hw : va_Nw (.castable "HoldMaps$Entry" "java/lang/Object") s) : ∃ (tv ci : Nat) (q : vw_C) (vs : List Value), σ v = some (tv, .inr (ci, vs)) ∧ vcl[ci]? = some q ∧ va_Nw (.castable q.1 "java/lang/Object") s := by
  obtain ⟨te, k, m, x, u, -, h⟩ := h
  exact ⟨te, 3, _, _, h, rfl, hw⟩
section ALG
variable {p : Program} {l : Launch} {e : Env} {R : Room} {s s0 : State} {m : MethodId} {args : Array Value} {below : List Frame} {meth : Method} {c : Code} {H : Heap} {locs : List Loc} {cells slots : Nat} {Q : State → Prop}
variable {cc : ByteArray} {pc nL DE mi : Nat} {ls : Array Slot} {rest : List Value} {D : va_G} {ca : Nat → ClassId} {σ : so_S} {own : String} {al tg tr ed n cap : Nat} {md : Int32} {f : Nat → Option Nat}
theorem ALQ.alen (M : ALQ ca DE σ al tg tr md ed n cap f) (J : jX s0 D ca DE mi) (S : CallFix p m c cc nL s args tbl own) (K : va_K D vcl (tyl ca) s) (E : so_Kn s0 s) (P : so_P D vcl s0.heap.size σ H) (hS : va_S (so_A s0.heap.size) s.heap H locs) (hdg : decode cc pc = .ok (.arraylength, 1))
    (kk : W p l e R s m args below meth c H locs cells slots Q (F0 m (pc + 1) ls (.int (nI cap) :: rest))) : W p l e R s m args below meth c H locs cells slots Q (F0 m pc ls (.ref ed :: rest)) := by
  rcases M.2 with ⟨rfl, rfl, rfl⟩ | ⟨h, -⟩
  · obtain ⟨cell, h0, h1, h2⟩ := J.p E hS
    exact W.alen (n := nI 0) S.1 S.2.1 h0 h1 h2 rfl rfl hdg kk
  · exact so_alen S K P h 6 rfl hdg kk
end ALG
set_option maxHeartbeats 400000 in
set_option maxRecDepth 100000 in
theorem c_Ar_copyOf2 (l : Launch) {s0 : State} {D : va_G} {ca : Nat → ClassId} (hB : so_B tbl s0 D vcl (tyl ca)) {σ : so_S} {DE mi ed tr : Nat} (J : jX s0 D ca DE mi) {cap : Nat} {f : Nat → Option Nat} (h2 : σ ed = some (tr, aR ca 6 cap f)) (hE : ∀ i y, i < cap → f i = some y → isE σ y) (N : Nat) (hN : cap ≤ N) (hN2 : N ≤ 64) : so_C l s0 D vcl y_Ar_copyOf2 b_Ar_copyOf2 4 (some (.array (.object "java/lang/Object"))) 1 1 64 [.ref ed, .int (nI N), .ref mi] σ (fun v σ1 => ∃ q f1, v = some (.ref q) ∧ σ q = none ∧ σ1 = so_up σ q (tr, aR ca 6 N f1) ∧ ∀ i, i < cap → f1 i = f i) := by
  refine so_of hB (by decide) (Nat.le_of_ble_eq_true rfl) ?_
  intro p e s m below meth c ls S K E hr hlk hnm P hS hl
  have hl : lv_has ls 4 [(0, .ref ed), (1, .int (nI N)), (2, .ref mi)] := hl
  refine lv_aload_n S.1 S.2.1 d_Ar_copyOf2_0 rfl (lv_at hl 2 rfl) ?_
  refine va_ldcM S.1 S.2.1 S.2.2.2.1 (S.2.2.2.2 _ wd_587) (J.cl E) d_Ar_copyOf2_1 ?_
  refine lv_acmp_ne (tgt := 13) (rx := some mi) (ry := some mi) S.1 S.2.1 d_Ar_copyOf2_3 rfl (fun h => absurd rfl h) (fun _ => ?_)
  refine lv_iload_n S.1 S.2.1 d_Ar_copyOf2_6 rfl (lv_at hl 1 rfl) ?_
  refine so_newq tr S K P hS E.2.1 (S.2.2.2.2 _ wd_589) (S.2.2.2.2 _ wd_588) 6 rfl (nI_pos (by omega)) (nI_clamp (by omega)) (by omega) (by show 0 + 1 ≤ 1; omega) (by show 0 + N ≤ 64; omega) d_Ar_copyOf2_7 (fun q H hq P hS => ?_)
  have hqe : ed ≠ q := fun z => by rw [← z, h2] at hq; cases hq
  have g2 : so_up σ q (tr, aR ca 6 N (fun _ => none)) ed = some (tr, aR ca 6 cap f) := by rw [so_un hqe]; exact h2
  have g3 : so_up σ q (tr, aR ca 6 N (fun _ => none)) q = some (tr, aR ca 6 N (fun _ => none)) := so_us
  refine lv_goto (tgt := 24) S.1 S.2.1 d_Ar_copyOf2_10 rfl ?_
  refine lv_astore_n S.1 S.2.1 d_Ar_copyOf2_24 rfl hl (by decide) rfl (fun ls hl => ?_)
  refine lv_aload_n S.1 S.2.1 d_Ar_copyOf2_25 rfl (lv_at hl 1 rfl) ?_
  refine lv_iconst (v := 0) S.1 S.2.1 d_Ar_copyOf2_26 (by decide) ?_
  refine lv_aload_n S.1 S.2.1 d_Ar_copyOf2_27 rfl (lv_at hl 0 rfl) ?_
  refine lv_iconst (v := 0) S.1 S.2.1 d_Ar_copyOf2_28 (by decide) ?_
  refine lv_aload_n S.1 S.2.1 d_Ar_copyOf2_29 rfl (lv_at hl 1 rfl) ?_
  refine so_alen S K P g2 6 rfl d_Ar_copyOf2_30 ?_
  refine lv_iload_n S.1 S.2.1 d_Ar_copyOf2_31 rfl (lv_at hl 2 rfl) ?_
  refine va_mmin (x := nI cap) (y := nI N) S.1 S.2.1 (by rw [S.2.2.1, hl.1]) S.2.2.2.1 (S.2.2.2.2 _ wd_590) (S.2.2.2.2 _ wd_591) (S.2.2.2.2 _ wd_24) (S.2.2.2.2 _ wd_592) (by show 1 ≤ 1; omega) (Nat.le_of_ble_eq_true rfl) (by show 0 + 1 ≤ 1; omega) (by show 0 + N ≤ 64; omega) d_Ar_copyOf2_32 ?_
  rw [if_neg (nI_nlt hN (by omega))]
  refine so_copyq S hl.1 wd_593 wd_595 wd_594 wd_26 K P hS 6 6 (C := "HoldMaps$Entry") (sp := 0) (dp := 0) g2 g3 rfl rfl (show 0 + cap ≤ cap by omega) (show 0 + cap ≤ N by omega) (by omega) (by omega) (fun i hi y hy => ?_) (va_Nw.of rfl (S.2.2.2.2 _ wd_1084)) (Nat.le_refl _) (by decide) d_Ar_copyOf2_35 (fun H locs P hS => ?_)
  · obtain ⟨te, k, mm, v, u, ht, h⟩ := hE i y hi (by rw [Nat.zero_add] at hy; exact hy)
    exact ⟨te, 3, _, _, _, by rw [so_un (fun z => by rw [← z, h] at hq; cases hq)]; exact h, rfl⟩
  refine lv_aload_n S.1 S.2.1 d_Ar_copyOf2_38 rfl (lv_at hl 0 rfl) ?_
  refine so_aret (v := some q) S hr (Or.inr ⟨_, rfl⟩) hlk P hS (by show 0 + 1 ≤ 1; omega) (by show 0 + N ≤ 64; omega) ⟨q, va_cpy f (fun _ => none) 0 0 cap, rfl, hq, ?_, fun i hi => ?_⟩ d_Ar_copyOf2_39
  · funext x
    unfold so_up
    split <;> rfl
  · show (if 0 ≤ i ∧ i < 0 + cap then f (0 + (i - 0)) else none) = f i
    rw [if_pos (by omega), show 0 + (i - 0) = i by omega]
set_option maxHeartbeats 400000 in
set_option maxRecDepth 100000 in
theorem c_Ar_copyOf (l : Launch) {s0 : State} {D : va_G} {ca : Nat → ClassId} (hB : so_B tbl s0 D vcl (tyl ca)) {σ : so_S} {DE mi ed tr : Nat} (J : jX s0 D ca DE mi) {cap : Nat} {f : Nat → Option Nat} (h2 : σ ed = some (tr, aR ca 6 cap f)) (hE : ∀ i y, i < cap → f i = some y → isE σ y) (N : Nat) (hN : cap ≤ N) (hN2 : N ≤ 64) : so_C l s0 D vcl y_Ar_copyOf b_Ar_copyOf 2 (some (.array (.object "java/lang/Object"))) 2 1 64 [.ref ed, .int (nI N)] σ (fun v σ1 => ∃ q f1, v = some (.ref q) ∧ σ q = none ∧ σ1 = so_up σ q (tr, aR ca 6 N f1) ∧ ∀ i, i < cap → f1 i = f i) := by
  refine so_of hB (by decide) (Nat.le_of_ble_eq_true rfl) ?_
  intro p e s m below meth c ls S K E hr hlk hnm P hS hl
  have hl : lv_has ls 2 [(0, .ref ed), (1, .int (nI N))] := hl
  refine lv_aload_n S.1 S.2.1 d_Ar_copyOf_0 rfl (lv_at hl 0 rfl) ?_
  refine lv_iload_n S.1 S.2.1 d_Ar_copyOf_1 rfl (lv_at hl 1 rfl) ?_
  refine lv_aload_n S.1 S.2.1 d_Ar_copyOf_2 rfl (lv_at hl 0 rfl) ?_
  refine va_getC (C := "[Ljava/lang/Object;") S.1 S.2.1 (by rw [S.2.2.1, hl.1]) S.2.2.2.1 (S.2.2.2.2 _ wd_566) (S.2.2.2.2 _ wd_1074) (S.2.2.2.2 _ wd_1073) (S.2.2.2.2 _ wd_567) (S.2.2.2.2 _ wd_583) (J.cl E) ⟨_, (P ed _ h2).2, rfl, va_nmO (K.2 6 _ rfl).2 (by decide +kernel)⟩ (by show 1 ≤ 2; omega) (Nat.le_of_ble_eq_true rfl) d_Ar_copyOf_3 ?_
  refine so_call (cs_Ar_300 S hB E P hS (c_Ar_copyOf2 l hB J h2 hE N hN hN2) rfl (by decide) (Nat.le_refl _) (Nat.le_refl _) hl.1 rfl (Nat.le_of_ble_eq_true rfl) d_Ar_copyOf_6) hS (fun v σ1 H locs hv P hS => ?_)
  obtain ⟨q, f1, rfl, hq, hσ, hf⟩ := hv
  exact so_aret (v := some q) S hr (Or.inr ⟨_, rfl⟩) hlk P hS (Nat.le_refl _) (Nat.le_refl _) ⟨q, f1, rfl, hq, hσ, hf⟩ d_Ar_copyOf_9
set_option maxHeartbeats 400000 in
set_option maxRecDepth 100000 in
theorem c_AL_grow2 (l : Launch) {s0 : State} {D : va_G} {ca : Nat → ClassId} (hB : so_B tbl s0 D vcl (tyl ca)) {σ : so_S} {DE mi : Nat} (J : jX s0 D ca DE mi) {al tg ed tr : Nat} {md : Int32} {n cap : Nat} {f : Nat → Option Nat} (htg : tg ≠ tr) (M : ALQ ca DE σ al tg tr md ed n cap f) (hnc : n = cap) (hn : n < 40) (hE : ∀ i y, i < n → f i = some y → isE σ y) : so_C l s0 D vcl y_AL_grow2 b_AL_grow2 4 (some (.array (.object "java/lang/Object"))) 3 1 64 [.ref al, .int (nI (n + 1))] σ (fun v σ1 => ∃ q cap1 f1, v = some (.ref q) ∧ σ1 al = some (tg, oAL md q (nI n)) ∧ σ1 q = some (tr, aR ca 6 cap1 f1) ∧ n < cap1 ∧ cap1 ≤ 64 ∧ (∀ i, i < n → f1 i = f i) ∧ fT (tL tg tr) σ σ1) := by
  refine so_of hB (by decide) (Nat.le_of_ble_eq_true rfl) ?_
  intro p e s m below meth c ls S K E hr hlk hnm P hS hl
  have hl : lv_has ls 4 [(0, .ref al), (1, .int (nI (n + 1)))] := hl
  refine lv_aload_n S.1 S.2.1 d_AL_grow2_0 rfl (lv_at hl 0 rfl) ?_
  refine gf_AL_9_AL S K P M.1 rfl d_AL_grow2_1 ?_
  refine M.alen J S K E P hS d_AL_grow2_4 ?_
  refine lv_istore_n S.1 S.2.1 d_AL_grow2_5 rfl hl (by decide) rfl (fun ls hl => ?_)
  refine lv_iload_n S.1 S.2.1 d_AL_grow2_6 rfl (lv_at hl 0 rfl) ?_
  refine lv_if_gt (tgt := 20) S.1 S.2.1 d_AL_grow2_7 rfl (fun h7 => ?_) (fun h7 => ?_)
  · obtain ⟨h2, -, hc1, hc2⟩ : σ ed = some (tr, aR ca 6 cap f) ∧ n ≤ cap ∧ 1 ≤ cap ∧ cap ≤ 64 := by
      rcases M.2 with ⟨h1, h2, h3⟩ | h
      · first
          | exact absurd h7 (by rw [h3]; decide)
          | exact absurd (congrArg some h1) h17
      · exact h
    refine lv_iload_n S.1 S.2.1 d_AL_grow2_20 rfl (lv_at hl 0 rfl) ?_
    refine lv_iload_n S.1 S.2.1 d_AL_grow2_21 rfl (lv_at hl 2 rfl) ?_
    refine lv_iload_n S.1 S.2.1 d_AL_grow2_22 rfl (lv_at hl 0 rfl) ?_
    refine lv_isub S.1 S.2.1 d_AL_grow2_23 ?_
    refine lv_iload_n S.1 S.2.1 d_AL_grow2_24 rfl (lv_at hl 0 rfl) ?_
    refine lv_iconst (v := 1) S.1 S.2.1 d_AL_grow2_25 (by decide) ?_
    refine lv_ishr S.1 S.2.1 d_AL_grow2_26 ?_
    have e2 : n + 1 - cap = 1 := by omega
    have e3 : nI cap >>> (1 &&& 31) = nI (cap / 2) := (show ∀ o, o < 64 → nI o >>> (1 &&& 31) = nI (o / 2) by decide +kernel) cap (by omega)
    rw [nI_sb (show cap ≤ n + 1 by omega), e2, e3]
    refine so_callR (cs_AL_73 S hB E P hS (c_As_newLength l hB cap (cap / 2) (by omega) (by omega)) rfl (by decide) (Nat.zero_le _) (Nat.zero_le _) hl.1 rfl (Nat.le_of_ble_eq_true rfl) d_AL_grow2_27) (fun v hv => ?_)
    subst hv
    refine lv_istore_n S.1 S.2.1 d_AL_grow2_30 rfl hl (by decide) rfl (fun ls hl => ?_)
    refine lv_aload_n S.1 S.2.1 d_AL_grow2_31 rfl (lv_at hl 2 rfl) ?_
    refine lv_aload_n S.1 S.2.1 d_AL_grow2_32 rfl (lv_at hl 2 rfl) ?_
    refine gf_AL_9_AL S K P M.1 rfl d_AL_grow2_33 ?_
    refine lv_iload_n S.1 S.2.1 d_AL_grow2_36 rfl (lv_at hl 0 rfl) ?_
    refine so_call (cs_AL_66 S hB E P hS (c_Ar_copyOf l hB J h2 (fun i y hi hy => hE i y (by omega) hy) (cap + max 1 (cap / 2)) (by omega) (by omega)) rfl (by decide) (Nat.le_refl _) (Nat.le_refl _) hl.1 rfl (Nat.le_of_ble_eq_true rfl) d_AL_grow2_37) hS (fun v σ1 H locs hv P hS => ?_)
    obtain ⟨q, f1, rfl, hq, rfl, hf⟩ := hv
    have hqa : al ≠ q := fun z => by rw [← z, M.1] at hq; cases hq
    have g1 : so_up σ q (tr, aR ca 6 (cap + max 1 (cap / 2)) f1) al = some (tg, oAL md ed (nI n)) := by rw [so_un hqa]; exact M.1
    refine lv_dup_x1 S.1 S.2.1 d_AL_grow2_40 rfl rfl ?_
    refine pf_AL_9_AL S K P hS g1 (Nat.le_of_ble_eq_true rfl) rfl rfl d_AL_grow2_41 (fun H locs P hS => ?_)
    have Fr : fT (tL tg tr) σ (so_up (so_up σ q (tr, aR ca 6 (cap + max 1 (cap / 2)) f1)) al (tg, oAL md q (nI n))) := (fT.rf.nw hq).up g1 (Or.inl rfl)
    exact so_aret (v := some q) S hr (Or.inr ⟨_, rfl⟩) hlk P hS (Nat.le_refl _) (Nat.le_refl _) ⟨q, (cap + max 1 (cap / 2)), f1, rfl, so_us, by rw [so_un (Ne.symm hqa)]; exact so_us, by omega, by omega, fun i hi => hf i (by omega), Fr⟩ d_AL_grow2_44
  · refine lv_aload_n S.1 S.2.1 d_AL_grow2_10 rfl (lv_at hl 1 rfl) ?_
    refine gf_AL_9_AL S K P M.1 rfl d_AL_grow2_11 ?_
    refine va_gets S.1 S.2.1 (J.z E) hS S.2.2.2.1 (S.2.2.2.2 _ wd_84) (fun _ h => h) d_AL_grow2_14 ?_
    refine lv_acmp_eq (tgt := 45) (rx := some ed) (ry := some DE) S.1 S.2.1 d_AL_grow2_17 rfl (fun h17 => ?_) (fun h17 => ?_)
    · refine lv_aload_n S.1 S.2.1 d_AL_grow2_45 rfl (lv_at hl 1 rfl) ?_
      refine lv_bipush (v := 10) S.1 S.2.1 d_AL_grow2_46 (by decide) ?_
      refine lv_iload_n S.1 S.2.1 d_AL_grow2_48 rfl (lv_at hl 2 rfl) ?_
      have hn0 : n = 0 := by
        rcases M.2 with ⟨_, h, _⟩ | ⟨_, _, h3, _⟩
        · exact h
        · exact absurd (show nI 0 < nI cap from nI_lt (by omega) (by omega)) h7
      refine va_mmax (x := 10) (y := nI (n + 1)) S.1 S.2.1 (by rw [S.2.2.1, hl.1]) S.2.2.2.1 (S.2.2.2.2 _ wd_596) (S.2.2.2.2 _ wd_557) (S.2.2.2.2 _ wd_24) (S.2.2.2.2 _ wd_558) (by show 1 ≤ 3; omega) (Nat.le_of_ble_eq_true rfl) (by show 0 ≤ 1; omega) (by show 0 ≤ 64; omega) d_AL_grow2_49 ?_
      have e10 : (if (10 : Int32) < nI (n + 1) then nI (n + 1) else 10) = 10 := by rw [hn0]; decide
      rw [e10]
      refine so_newq tr S K P hS E.2.1 (S.2.2.2.2 _ wd_597) (S.2.2.2.2 _ wd_588) 6 rfl (n := 10) (N' := 10) (by decide) (by decide) (by decide) (by show 0 + 1 ≤ 1; omega) (by show 0 + 10 ≤ 64; omega) d_AL_grow2_52 (fun q H hq P hS => ?_)
      have hqa : al ≠ q := fun z => by rw [← z, M.1] at hq; cases hq
      have g1 : so_up σ q (tr, aR ca 6 10 (fun _ => none)) al = some (tg, oAL md ed (nI n)) := by rw [so_un hqa]; exact M.1
      refine lv_dup_x1 S.1 S.2.1 d_AL_grow2_55 rfl rfl ?_
      refine pf_AL_9_AL S K P hS g1 (Nat.le_of_ble_eq_true rfl) rfl rfl d_AL_grow2_56 (fun H locs P hS => ?_)
      have Fr : fT (tL tg tr) σ (so_up (so_up σ q (tr, aR ca 6 10 (fun _ => none))) al (tg, oAL md q (nI n))) := (fT.rf.nw hq).up g1 (Or.inl rfl)
      exact so_aret (v := some q) S hr (Or.inr ⟨_, rfl⟩) hlk P hS (by show 0 + 1 ≤ 1; omega) (by show 0 + 10 ≤ 64; omega) ⟨q, 10, (fun _ => none), rfl, so_us, by rw [so_un (Ne.symm hqa)]; exact so_us, by omega, by omega, fun i hi => absurd hi (by omega), Fr⟩ d_AL_grow2_59
    · obtain ⟨h2, -, hc1, hc2⟩ : σ ed = some (tr, aR ca 6 cap f) ∧ n ≤ cap ∧ 1 ≤ cap ∧ cap ≤ 64 := by
        rcases M.2 with ⟨h1, h2, h3⟩ | h
        · first
            | exact absurd h7 (by rw [h3]; decide)
            | exact absurd (congrArg some h1) h17
        · exact h
      refine lv_iload_n S.1 S.2.1 d_AL_grow2_20 rfl (lv_at hl 0 rfl) ?_
      refine lv_iload_n S.1 S.2.1 d_AL_grow2_21 rfl (lv_at hl 2 rfl) ?_
      refine lv_iload_n S.1 S.2.1 d_AL_grow2_22 rfl (lv_at hl 0 rfl) ?_
      refine lv_isub S.1 S.2.1 d_AL_grow2_23 ?_
      refine lv_iload_n S.1 S.2.1 d_AL_grow2_24 rfl (lv_at hl 0 rfl) ?_
      refine lv_iconst (v := 1) S.1 S.2.1 d_AL_grow2_25 (by decide) ?_
      refine lv_ishr S.1 S.2.1 d_AL_grow2_26 ?_
      have e2 : n + 1 - cap = 1 := by omega
      have e3 : nI cap >>> (1 &&& 31) = nI (cap / 2) := (show ∀ o, o < 64 → nI o >>> (1 &&& 31) = nI (o / 2) by decide +kernel) cap (by omega)
      rw [nI_sb (show cap ≤ n + 1 by omega), e2, e3]
      refine so_callR (cs_AL_73 S hB E P hS (c_As_newLength l hB cap (cap / 2) (by omega) (by omega)) rfl (by decide) (Nat.zero_le _) (Nat.zero_le _) hl.1 rfl (Nat.le_of_ble_eq_true rfl) d_AL_grow2_27) (fun v hv => ?_)
      subst hv
      refine lv_istore_n S.1 S.2.1 d_AL_grow2_30 rfl hl (by decide) rfl (fun ls hl => ?_)
      refine lv_aload_n S.1 S.2.1 d_AL_grow2_31 rfl (lv_at hl 2 rfl) ?_
      refine lv_aload_n S.1 S.2.1 d_AL_grow2_32 rfl (lv_at hl 2 rfl) ?_
      refine gf_AL_9_AL S K P M.1 rfl d_AL_grow2_33 ?_
      refine lv_iload_n S.1 S.2.1 d_AL_grow2_36 rfl (lv_at hl 0 rfl) ?_
      refine so_call (cs_AL_66 S hB E P hS (c_Ar_copyOf l hB J h2 (fun i y hi hy => hE i y (by omega) hy) (cap + max 1 (cap / 2)) (by omega) (by omega)) rfl (by decide) (Nat.le_refl _) (Nat.le_refl _) hl.1 rfl (Nat.le_of_ble_eq_true rfl) d_AL_grow2_37) hS (fun v σ1 H locs hv P hS => ?_)
      obtain ⟨q, f1, rfl, hq, rfl, hf⟩ := hv
      have hqa : al ≠ q := fun z => by rw [← z, M.1] at hq; cases hq
      have g1 : so_up σ q (tr, aR ca 6 (cap + max 1 (cap / 2)) f1) al = some (tg, oAL md ed (nI n)) := by rw [so_un hqa]; exact M.1
      refine lv_dup_x1 S.1 S.2.1 d_AL_grow2_40 rfl rfl ?_
      refine pf_AL_9_AL S K P hS g1 (Nat.le_of_ble_eq_true rfl) rfl rfl d_AL_grow2_41 (fun H locs P hS => ?_)
      have Fr : fT (tL tg tr) σ (so_up (so_up σ q (tr, aR ca 6 (cap + max 1 (cap / 2)) f1)) al (tg, oAL md q (nI n))) := (fT.rf.nw hq).up g1 (Or.inl rfl)
      exact so_aret (v := some q) S hr (Or.inr ⟨_, rfl⟩) hlk P hS (Nat.le_refl _) (Nat.le_refl _) ⟨q, (cap + max 1 (cap / 2)), f1, rfl, so_us, by rw [so_un (Ne.symm hqa)]; exact so_us, by omega, by omega, fun i hi => hf i (by omega), Fr⟩ d_AL_grow2_44
set_option maxHeartbeats 400000 in
set_option maxRecDepth 100000 in
theorem c_AL_grow (l : Launch) {s0 : State} {D : va_G} {ca : Nat → ClassId} (hB : so_B tbl s0 D vcl (tyl ca)) {σ : so_S} {DE mi : Nat} (J : jX s0 D ca DE mi) {al tg ed tr : Nat} {md : Int32} {n cap : Nat} {f : Nat → Option Nat} (htg : tg ≠ tr) (M : ALQ ca DE σ al tg tr md ed n cap f) (hnc : n = cap) (hn : n < 40) (hE : ∀ i y, i < n → f i = some y → isE σ y) : so_C l s0 D vcl y_AL_grow b_AL_grow 1 (some (.array (.object "java/lang/Object"))) 4 1 64 [.ref al] σ (fun v σ1 => ∃ q cap1 f1, v = some (.ref q) ∧ σ1 al = some (tg, oAL md q (nI n)) ∧ σ1 q = some (tr, aR ca 6 cap1 f1) ∧ n < cap1 ∧ cap1 ≤ 64 ∧ (∀ i, i < n → f1 i = f i) ∧ fT (tL tg tr) σ σ1) := by
  refine so_of hB (by decide) (Nat.le_of_ble_eq_true rfl) ?_
  intro p e s m below meth c ls S K E hr hlk hnm P hS hl
  have hl : lv_has ls 1 [(0, .ref al)] := hl
  refine lv_aload_n S.1 S.2.1 d_AL_grow_0 rfl (lv_at hl 0 rfl) ?_
  refine lv_aload_n S.1 S.2.1 d_AL_grow_1 rfl (lv_at hl 0 rfl) ?_
  refine gf_AL_48_AL S K P M.1 rfl d_AL_grow_2 ?_
  refine lv_iconst (v := 1) S.1 S.2.1 d_AL_grow_5 (by decide) ?_
  refine lv_iadd S.1 S.2.1 d_AL_grow_6 ?_
  rw [nI_1]
  refine so_call (cv_AL_69_AL S hB K E P hS M.1 (c_AL_grow2 l hB J htg M hnc hn hE) rfl (by decide) (Nat.le_refl _) (Nat.le_refl _) hl.1 rfl (Nat.le_of_ble_eq_true rfl) d_AL_grow_7) hS (fun v σ1 H locs hv P hS => ?_)
  obtain ⟨q, cap1, f1, rfl, h⟩ := hv
  exact so_aret (v := some q) S hr (Or.inr ⟨_, rfl⟩) hlk P hS (Nat.le_refl _) (Nat.le_refl _) ⟨q, cap1, f1, rfl, h⟩ d_AL_grow_10

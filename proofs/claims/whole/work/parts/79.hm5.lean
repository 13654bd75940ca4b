/-! HoldMaps: make, refer, root. -/
/-- a thing comes -/
def Hx.w1 (X : Hx) (i : Nat) (a : Nat × Nat) (x : Int32) (f : Nat → Int32) : Hx := (va_up X.ad i (some a), va_up X.va i x, va_up X.rt i false, va_up X.hd i false, va_up X.rr i f, X.g, X.hc, X.cd)
theorem Hx.w1_f {X : Hx} {i : Nat} {a : Nat × Nat} {x : Int32} {f : Nat → Int32} : (X.w1 i a x f).f = va_up X.f i (some a.1) := by
  funext j
  show (va_up X.ad i (some a) j).map Prod.fst = _
  unfold va_up Hx.f
  split <;> rfl
theorem lo99 {x : Int32} (h0 : ¬ x < 0) (h1 : x ≤ 99) : ∃ va, va < 100 ∧ x = nI va := by
  obtain ⟨j, hj, e1⟩ := nI_of2 (M := 99) (n := 99) (by decide) h0 h1
  exact ⟨j, by omega, e1⟩
theorem lt12 {x : Int32} : x < 2 ↔ ¬ (1 : Int32) < x := by
  rw [Int32.lt_iff_toInt_lt, Int32.lt_iff_toInt_lt]
  have e1 : (1 : Int32).toInt = 1 := by decide
  have e2 : (2 : Int32).toInt = 2 := by decide
  rw [e1, e2]
  omega
set_option maxHeartbeats 400000 in
set_option maxRecDepth 100000 in
theorem c_HM_make (l : Launch) {s0 : State} {D : va_G} {ca : Nat → ClassId} (hB : so_B tbl s0 D vcl (tyl ca)) {σ : so_S} (hX : exX l s0) {DE hm : Nat} {B : Bx} {X : Hx} {k : Wks} {bk tm : Nat} {L : Nat → List En} {sl : Nat → Option En} {o : Obs} (M : HMR ca DE σ hm B X k bk tm L sl) (so1 : simO X o) (x : Int32) : so_T l s0 D vcl y_HM_make b_HM_make 3 (some .int) 9 2 6 [.ref hm, .int x] σ (fun v σ1 => (∃ va i X1, va < 100 ∧ x = nI va ∧ isFr o.1 i ∧ v = some (.int (nI i)) ∧ HMR ca DE σ1 hm B X1 k bk tm L sl ∧ X1.cd = X.cd ∧ simO X1 (va_up o.1 i true, va_up o.2.1 i va, va_up o.2.2.1 i false, va_up o.2.2.2 i (fun _ => none))) ∧ fT tC σ σ1) (fun C => (C = xA ∧ (x < 0 ∨ 99 < x)) ∨ (C = xS ∧ ¬ x < 0 ∧ ¬ 99 < x ∧ ∀ j, j < 32 → o.1 j = true)) := by
  refine so_ofT hB (by decide) (Nat.le_of_ble_eq_true rfl) ?_
  intro p e s m below meth c ls S K E hr hlk hex P hS hl
  have hl : lv_has ls 3 [(0, .ref hm), (1, .int x)] := hl
  refine lv_iload_n S.1 S.2.1 d_HM_make_0 rfl (lv_at hl 1 rfl) ?_
  refine lv_if_lt (tgt := 10) S.1 S.2.1 d_HM_make_1 rfl (fun h1 => ?_) (fun h1 => ?_)
  · exact thr_A S E hX hex hlk hl.1 P (tx := "the value is not 0 .. 99") (by decide +kernel) (Or.inl ⟨rfl, Or.inl h1⟩) (by decide) (by decide) (by decide) (Nat.le_of_ble_eq_true rfl) d_HM_make_10 d_HM_make_13 d_HM_make_14 d_HM_make_16 d_HM_make_19
  · refine lv_iload_n S.1 S.2.1 d_HM_make_4 rfl (lv_at hl 1 rfl) ?_
    refine lv_bipush (v := 99) S.1 S.2.1 d_HM_make_5 (by decide) ?_
    refine lv_icmp_le (tgt := 20) S.1 S.2.1 d_HM_make_7 rfl (fun h7 => ?_) (fun h7 => ?_)
    · refine lv_aload_n S.1 S.2.1 d_HM_make_20 rfl (lv_at hl 0 rfl) ?_
      refine gf_HM_10_HM S K P M.1 rfl d_HM_make_21 ?_
      refine so_callR (cv_HM_52_He S hB K E P hS M.2.2.1.1 (c_He_lowestFree l hB M.2.2.1) rfl (by decide) (Nat.zero_le _) (Nat.zero_le _) hl.1 rfl (Nat.le_of_ble_eq_true rfl) d_HM_make_24) (fun v hv => ?_)
      have hxA : ¬ (99 : Int32) < x := Int32.not_lt.mpr h7
      rcases hv with ⟨hall, rfl⟩ | ⟨i, hfr, rfl⟩
      · refine lv_istore_n S.1 S.2.1 d_HM_make_27 rfl hl (by decide) rfl (fun ls hl => ?_)
        refine lv_iload_n S.1 S.2.1 d_HM_make_28 rfl (lv_at hl 0 rfl) ?_
        refine lv_iconst (v := (-1)) S.1 S.2.1 d_HM_make_29 (by decide) ?_
        refine lv_icmp_ne (tgt := 43) S.1 S.2.1 d_HM_make_30 rfl (fun h30 => absurd rfl h30) (fun h30 => ?_)
        exact thr_S S E hX hex hlk hl.1 P (tx := "there are 32 objects") (by decide +kernel) (Or.inr ⟨rfl, h1, hxA, fun j hj => by rw [← (so1 j hj).1]; exact hall j hj⟩) (by decide) (by decide) (by decide) (Nat.le_of_ble_eq_true rfl) d_HM_make_33 d_HM_make_36 d_HM_make_37 d_HM_make_39 d_HM_make_42
      · have hi32 : i < 32 := hfr.1
        have hfr2 : isFr o.1 i := ⟨hi32, by rw [← (so1 i hi32).1]; exact hfr.2.1, fun j hj => by rw [← (so1 j (by omega)).1]; exact hfr.2.2 j hj⟩
        refine lv_istore_n S.1 S.2.1 d_HM_make_27 rfl hl (by decide) rfl (fun ls hl => ?_)
        refine lv_iload_n S.1 S.2.1 d_HM_make_28 rfl (lv_at hl 0 rfl) ?_
        refine lv_iconst (v := (-1)) S.1 S.2.1 d_HM_make_29 (by decide) ?_
        refine lv_icmp_ne (tgt := 43) S.1 S.2.1 d_HM_make_30 rfl (fun h30 => ?_) (fun h30 => absurd (show nI i < 0 by rw [h30]; decide) (nI_pos (by omega)))
        refine lv_aload_n S.1 S.2.1 d_HM_make_43 rfl (lv_at hl 1 rfl) ?_
        refine gf_HM_10_HM S K P M.1 rfl d_HM_make_44 ?_
        refine gf_HM_61_He S K P M.2.2.1.1 rfl d_HM_make_47 ?_
        refine lv_iload_n S.1 S.2.1 d_HM_make_50 rfl (lv_at hl 0 rfl) ?_
        refine so_new (ci := 2) (100 + i) S K P hS E.2.1 i_Th t_Th t_Th_ok (S.2.2.2.2 _ wd_342) (S.2.2.2.2 _ wd_343) (S.2.2.2.2 _ wd_19) rfl (fs := [.int 0, .null, .int 0, .int 0]) (fun j hj => by rcases j with _ | _ | _ | _ | j <;> first | rfl | omega) (by show _ ≤ _; decide) (by show _ ≤ _; decide) d_HM_make_51 (fun t H ht P hS => ?_)
        refine lv_dup S.1 S.2.1 d_HM_make_54 rfl ?_
        refine lv_iload_n S.1 S.2.1 d_HM_make_55 rfl (lv_at hl 2 rfl) ?_
        refine so_call (ci_HM_67 S hB E P hS (c_Th_init l hB so_us i x) rfl (by decide) (Nat.le_of_ble_eq_true rfl) (Nat.le_of_ble_eq_true rfl) hl.1 rfl (Nat.le_of_ble_eq_true rfl) d_HM_make_56) hS (fun v σ1 H locs hv P hS => ?_)
        obtain ⟨rfl, q, f, hq0, hf0, hf1, k1, k2, k3⟩ := hv
        have hqt : q ≠ t := fun z => by rw [z, so_us] at hq0; cases hq0
        have hq : σ q = none := by rw [so_un hqt] at hq0; exact hq0
        have keep : ∀ r y, σ r = some y → σ1 r = some y := fun r y h => by
          have hrt : r ≠ t := fun z => by rw [z, ht] at h; cases h
          have hrq : r ≠ q := fun z => by rw [z, hq] at h; cases h
          rw [k3 r hrt hrq, so_un hrt]
          exact h
        have hth := keep _ _ M.2.2.1.2.1
        refine so_aastN S K P hS hth 3 rfl (r := some t) (fun v h => by cases h; exact ⟨_, 2, _, _, k1, rfl, cast_self (K.1 2 _ rfl).2.1⟩) hi32 (by decide) d_HM_make_59 (fun H locs P hS => ?_)
        refine lv_iload_n S.1 S.2.1 d_HM_make_60 rfl (lv_at hl 0 rfl) ?_
        refine W_imp (fun t h => MQ.toT h) (so_iret S hr hlk P hS (Nat.le_of_ble_eq_true rfl) (Nat.le_of_ble_eq_true rfl) ?_ d_HM_make_61)
        have hne : ∀ {r : Nat} {y : so_E}, σ1 r = some y → y.1 ≠ 2 → so_up σ1 B.th (2, aR ca 3 32 (va_up X.f i (some t))) r = some y := fun h h2 => by rw [so_un (so_ne h hth h2)]; exact h
        obtain ⟨va, hva, rfl⟩ := lo99 h1 h7
        refine ⟨⟨va, i, X.w1 i (t, q) (nI va) f, hva, rfl, hfr2, rfl, ⟨hne (keep _ _ M.1) (show 0 ≠ 2 by decide), ?_, ⟨hne (keep _ _ M.2.2.1.1) (show 1 ≠ 2 by decide), ?_, hne (keep _ _ M.2.2.1.2.2.1) (show 3 ≠ 2 by decide), ?_⟩, ?_⟩, rfl, ?_⟩, ?_⟩
        · obtain ⟨f5, h5, h6⟩ := M.2.1
          exact ⟨f5, hne (keep _ _ h5) (show 5 ≠ 2 by decide), h6⟩
        · rw [so_us, Hx.w1_f]
        · intro j a hj ha
          have ha : va_up X.ad i (some (t, q)) j = some a := ha
          by_cases e1 : j = i
          · subst e1
            rw [va_up_self] at ha
            cases ha
            refine ⟨?_, ?_⟩
            · rw [hne k1 (by show 100 + j ≠ 2; omega)]
              show some (100 + j, oTh (nI va) q 0 0) = some (100 + j, oTh (va_up X.va j (nI va) j) q (bI (va_up X.rt j false j)) (bI (va_up X.hd j false j)))
              rw [va_up_self, va_up_self, va_up_self]
              rfl
            · rw [hne k2 (by show 200 + j ≠ 2; omega)]
              show some (200 + j, aI ca 2 f) = some (200 + j, aI ca 2 (va_up X.rr j f j))
              rw [va_up_self]
          · rw [va_up_ne _ _ e1] at ha
            obtain ⟨h7, h8⟩ := M.2.2.1.2.2.2 j a hj ha
            refine ⟨?_, ?_⟩
            · rw [hne (keep _ _ h7) (by show 100 + j ≠ 2; omega)]
              show some (100 + j, oTh (X.va j) a.2 (bI (X.rt j)) (bI (X.hd j))) = some (100 + j, oTh (va_up X.va i (nI va) j) a.2 (bI (va_up X.rt i false j)) (bI (va_up X.hd i false j)))
              rw [va_up_ne _ _ e1, va_up_ne _ _ e1, va_up_ne _ _ e1]
            · rw [hne (keep _ _ h8) (by show 200 + j ≠ 2; omega)]
              show some (200 + j, aI ca 2 (X.rr j)) = some (200 + j, aI ca 2 (va_up X.rr i f j))
              rw [va_up_ne _ _ e1]
        · exact M.2.2.2.ag (fun r y h hy => by
            obtain ⟨z, hz, hz2⟩ := hy
            exact hne (keep r y h) (fun e2 => by unfold tM at hz2; omega))
        · intro j hj
          show (va_up X.ad i (some (t, q)) j).isSome = va_up o.1 i true j ∧ (va_up o.1 i true j = true → va_up X.va i (nI va) j = nI (va_up o.2.1 i va j) ∧ va_up X.rt i false j = va_up o.2.2.1 i false j ∧ ∀ w, w < 2 → va_up X.rr i f j w = rI (va_up o.2.2.2 i (fun _ => none) j w))
          by_cases e1 : j = i
          · subst e1
            rw [va_up_self, va_up_self, va_up_self, va_up_self, va_up_self, va_up_self, va_up_self, va_up_self]
            refine ⟨rfl, fun _ => ⟨rfl, rfl, fun w hw => ?_⟩⟩
            rcases Nat.lt_or_ge w 1 with h5 | h5
            · rw [show w = 0 by omega]; exact hf0
            · rw [show w = 1 by omega]; exact hf1
          · rw [va_up_ne _ _ e1, va_up_ne _ _ e1, va_up_ne _ _ e1, va_up_ne _ _ e1, va_up_ne _ _ e1, va_up_ne _ _ e1, va_up_ne _ _ e1, va_up_ne _ _ e1]
            exact so1 j hj
        · intro r y h hy
          exact hne (keep r y h) (fun e2 => hy (Or.inr (Or.inr (Or.inl (Or.inr (Or.inl e2))))))
    · exact thr_A S E hX hex hlk hl.1 P (tx := "the value is not 0 .. 99") (by decide +kernel) (Or.inl ⟨rfl, Or.inr (Int32.not_le.mp h7)⟩) (by decide) (by decide) (by decide) (Nat.le_of_ble_eq_true rfl) d_HM_make_10 d_HM_make_13 d_HM_make_14 d_HM_make_16 d_HM_make_19
set_option maxHeartbeats 400000 in
set_option maxRecDepth 100000 in
theorem c_HM_refer (l : Launch) {s0 : State} {D : va_G} {ca : Nat → ClassId} (hB : so_B tbl s0 D vcl (tyl ca)) {σ : so_S} (hX : exX l s0) {DE hm : Nat} {B : Bx} {X : Hx} {k : Wks} {bk tm : Nat} {L : Nat → List En} {sl : Nat → Option En} {o : Obs} (M : HMR ca DE σ hm B X k bk tm L sl) (so1 : simO X o) (x w t : Int32) : so_T l s0 D vcl y_HM_refer b_HM_refer 6 (some .int) 9 1 6 [.ref hm, .int x, .int w, .int t] σ (fun v σ1 => (∃ j wh X1, j < 32 ∧ wh < 2 ∧ rf_ok o x w t = true ∧ x = nI j ∧ w = nI wh ∧ v = some (.int (rI (o.2.2.2 j wh))) ∧ HMR ca DE σ1 hm B X1 k bk tm L sl ∧ X1.cd = X.cd ∧ simO X1 (o.1, o.2.1, o.2.2.1, va_up o.2.2.2 j (va_up (o.2.2.2 j) wh (tI t)))) ∧ fT tC σ σ1) (fun C => C = xA ∧ rf_ok o x w t = false) := by
  refine so_ofT hB (by decide) (Nat.le_of_ble_eq_true rfl) ?_
  intro p e s m below meth c ls S K E hr hlk hex P hS hl
  have hl : lv_has ls 6 [(0, .ref hm), (1, .int x), (2, .int w), (3, .int t)] := hl
  refine lv_aload_n S.1 S.2.1 d_HM_refer_0 rfl (lv_at hl 0 rfl) ?_
  refine gf_HM_10_HM S K P M.1 rfl d_HM_refer_1 ?_
  refine lv_iload_n S.1 S.2.1 d_HM_refer_4 rfl (lv_at hl 1 rfl) ?_
  refine so_callR (cv_HM_70_He S hB K E P hS M.2.2.1.1 (c_He_has l hB M.2.2.1.1 M.2.2.1.2.1 x) rfl (by decide) (Nat.zero_le _) (Nat.zero_le _) hl.1 rfl (Nat.le_of_ble_eq_true rfl) d_HM_refer_5) (fun v hv => ?_)
  subst hv
  rw [has_al so1]
  refine lv_if_eq (tgt := 20) S.1 S.2.1 d_HM_refer_8 rfl (fun h8 => ?_) (fun h8 => ?_)
  · exact thr_A S E hX hex hlk hl.1 P (tx := "no such object or reference") (by decide +kernel) (⟨rfl, by unfold rf_ok; rw [(bI_0 _).mp h8, Bool.false_and]⟩) (by decide) (by decide) (by decide) (Nat.le_of_ble_eq_true rfl) d_HM_refer_20 d_HM_refer_23 d_HM_refer_24 d_HM_refer_26 d_HM_refer_29
  · have hA : al_O o x = true := by
      cases hq : al_O o x with
      | true => rfl
      | false => rw [hq] at h8; exact absurd rfl h8
    refine lv_iload_n S.1 S.2.1 d_HM_refer_11 rfl (lv_at hl 2 rfl) ?_
    refine lv_if_lt (tgt := 20) S.1 S.2.1 d_HM_refer_12 rfl (fun h12 => ?_) (fun h12 => ?_)
    · exact thr_A S E hX hex hlk hl.1 P (tx := "no such object or reference") (by decide +kernel) (⟨rfl, by unfold rf_ok; rw [decide_eq_false (show ¬ ¬ w < 0 from fun z => z h12), Bool.false_and, Bool.and_false]⟩) (by decide) (by decide) (by decide) (Nat.le_of_ble_eq_true rfl) d_HM_refer_20 d_HM_refer_23 d_HM_refer_24 d_HM_refer_26 d_HM_refer_29
    · refine lv_iload_n S.1 S.2.1 d_HM_refer_15 rfl (lv_at hl 2 rfl) ?_
      refine lv_iconst (v := 2) S.1 S.2.1 d_HM_refer_16 (by decide) ?_
      refine lv_icmp_lt (tgt := 30) S.1 S.2.1 d_HM_refer_17 rfl (fun h17 => ?_) (fun h17 => ?_)
      · refine lv_iload_n S.1 S.2.1 d_HM_refer_30 rfl (lv_at hl 3 rfl) ?_
        refine lv_iconst (v := (-1)) S.1 S.2.1 d_HM_refer_31 (by decide) ?_
        refine lv_icmp_eq (tgt := 56) S.1 S.2.1 d_HM_refer_32 rfl (fun h32 => ?_) (fun h32 => ?_)
        · have htv : t = rI (tI t) := by
            unfold tI
            rw [if_pos h32]
            exact h32
          have hor : (decide (t = -1) || al_O o t) = true := by rw [decide_eq_true h32, Bool.true_or]
          have hok : rf_ok o x w t = true := by
            unfold rf_ok
            rw [hA, decide_eq_true h12, decide_eq_true (lt12.mp h17), hor]
            rfl
          obtain ⟨wh, hwh, rfl⟩ : ∃ wh, wh < 2 ∧ w = nI wh := by
            obtain ⟨z, hz, e1⟩ := nI_of2 (M := 1) (n := 1) (by decide) h12 (Int32.not_lt.mp (lt12.mp h17))
            exact ⟨z, by omega, e1⟩
          obtain ⟨j, hj, rfl, hal⟩ := al_cases hA
          obtain ⟨a, ad, af, a1, a2⟩ := so1.thing M.2.2.1 hj hal
          refine lv_aload_n S.1 S.2.1 d_HM_refer_56 rfl (lv_at hl 0 rfl) ?_
          refine gf_HM_10_HM S K P M.1 rfl d_HM_refer_57 ?_
          refine gf_HM_61_He S K P M.2.2.1.1 rfl d_HM_refer_60 ?_
          refine lv_iload_n S.1 S.2.1 d_HM_refer_63 rfl (lv_at hl 1 rfl) ?_
          refine so_aaldN S K P M.2.2.1.2.1 3 rfl hj (by decide) d_HM_refer_64 ?_
          rw [af]
          show W p l e _ s m _ below meth c _ _ _ _ _ (F0 m _ ls (.ref a.1 :: _))
          refine gf_HM_78_Th S K P a1 rfl d_HM_refer_65 ?_
          refine lv_astore S.1 S.2.1 d_HM_refer_68 hl (by decide) rfl (fun ls hl => ?_)
          refine lv_aload S.1 S.2.1 d_HM_refer_70 (lv_at hl 0 rfl) ?_
          refine lv_iload_n S.1 S.2.1 d_HM_refer_72 rfl (lv_at hl 3 rfl) ?_
          refine so_ialdN S K P a2 0 rfl hwh (by decide) d_HM_refer_73 ?_
          rw [((so1 j hj).2 hal).2.2 wh hwh]
          refine lv_istore S.1 S.2.1 d_HM_refer_74 hl (by decide) rfl (fun ls hl => ?_)
          refine lv_aload S.1 S.2.1 d_HM_refer_76 (lv_at hl 1 rfl) ?_
          refine lv_iload_n S.1 S.2.1 d_HM_refer_78 rfl (lv_at hl 4 rfl) ?_
          refine lv_iload_n S.1 S.2.1 d_HM_refer_79 rfl (lv_at hl 5 rfl) ?_
          refine so_iastN S K P hS a2 0 rfl hwh (by decide) d_HM_refer_80 (fun H locs P hS => ?_)
          refine lv_iload S.1 S.2.1 d_HM_refer_81 (lv_at hl 0 rfl) ?_
          refine W_imp (fun t h => MQ.toT h) (so_iret S hr hlk P hS (Nat.zero_le _) (Nat.zero_le _) ?_ d_HM_refer_83)
          have M1 := M.2.2.1.up_r hj ad (upd (X.rr j) wh t)
          have Fr : fT tH σ (so_up σ a.2 (200 + j, aI ca 2 (upd (X.rr j) wh t))) := fT.rf.up a2 (Or.inr (Or.inr (Or.inr (Or.inr ⟨by show 200 ≤ 200 + j; omega, by show 200 + j < 232; omega⟩))))
          refine ⟨⟨j, wh, X.wr j (upd (X.rr j) wh t), hj, hwh, hok, rfl, rfl, rfl, M.agH Fr M1, rfl, ?_⟩, Fr.mono tC_H⟩
          intro i hi
          obtain ⟨b1, b2⟩ := so1 i hi
          refine ⟨b1, fun hali => ?_⟩
          obtain ⟨b3, b4, b5⟩ := b2 hali
          refine ⟨b3, b4, fun z hz => ?_⟩
          show va_up X.rr j (upd (X.rr j) wh t) i z = rI (va_up o.2.2.2 j (va_up (o.2.2.2 j) wh (tI t)) i z)
          by_cases e1 : i = j
          · subst e1
            rw [va_up_self, va_up_self]
            by_cases e2 : z = wh
            · subst e2
              rw [va_up_self]
              unfold upd
              rw [if_pos rfl]
              exact htv
            · rw [va_up_ne _ _ e2]
              unfold upd
              rw [if_neg e2]
              exact b5 z hz
          · rw [va_up_ne _ _ e1, va_up_ne _ _ e1]
            exact b5 z hz
        · refine lv_aload_n S.1 S.2.1 d_HM_refer_35 rfl (lv_at hl 0 rfl) ?_
          refine gf_HM_10_HM S K P M.1 rfl d_HM_refer_36 ?_
          refine lv_iload_n S.1 S.2.1 d_HM_refer_39 rfl (lv_at hl 3 rfl) ?_
          refine so_callR (cv_HM_70_He S hB K E P hS M.2.2.1.1 (c_He_has l hB M.2.2.1.1 M.2.2.1.2.1 t) rfl (by decide) (Nat.zero_le _) (Nat.zero_le _) hl.1 rfl (Nat.le_of_ble_eq_true rfl) d_HM_refer_40) (fun v hv => ?_)
          subst hv
          rw [has_al so1]
          refine lv_if_ne (tgt := 56) S.1 S.2.1 d_HM_refer_43 rfl (fun h43 => ?_) (fun h43 => ?_)
          · have hA2 : al_O o t = true := by
              cases hq : al_O o t with
              | true => rfl
              | false => rw [hq] at h43; exact absurd rfl h43
            have htv : t = rI (tI t) := by
              unfold tI
              rw [if_neg h32]
              obtain ⟨jt, hjt, rfl, -⟩ := al_cases hA2
              rw [nI_clamp (by omega)]
              rfl
            have hor : (decide (t = -1) || al_O o t) = true := by rw [hA2, Bool.or_true]
            have hok : rf_ok o x w t = true := by
              unfold rf_ok
              rw [hA, decide_eq_true h12, decide_eq_true (lt12.mp h17), hor]
              rfl
            obtain ⟨wh, hwh, rfl⟩ : ∃ wh, wh < 2 ∧ w = nI wh := by
              obtain ⟨z, hz, e1⟩ := nI_of2 (M := 1) (n := 1) (by decide) h12 (Int32.not_lt.mp (lt12.mp h17))
              exact ⟨z, by omega, e1⟩
            obtain ⟨j, hj, rfl, hal⟩ := al_cases hA
            obtain ⟨a, ad, af, a1, a2⟩ := so1.thing M.2.2.1 hj hal
            refine lv_aload_n S.1 S.2.1 d_HM_refer_56 rfl (lv_at hl 0 rfl) ?_
            refine gf_HM_10_HM S K P M.1 rfl d_HM_refer_57 ?_
            refine gf_HM_61_He S K P M.2.2.1.1 rfl d_HM_refer_60 ?_
            refine lv_iload_n S.1 S.2.1 d_HM_refer_63 rfl (lv_at hl 1 rfl) ?_
            refine so_aaldN S K P M.2.2.1.2.1 3 rfl hj (by decide) d_HM_refer_64 ?_
            rw [af]
            show W p l e _ s m _ below meth c _ _ _ _ _ (F0 m _ ls (.ref a.1 :: _))
            refine gf_HM_78_Th S K P a1 rfl d_HM_refer_65 ?_
            refine lv_astore S.1 S.2.1 d_HM_refer_68 hl (by decide) rfl (fun ls hl => ?_)
            refine lv_aload S.1 S.2.1 d_HM_refer_70 (lv_at hl 0 rfl) ?_
            refine lv_iload_n S.1 S.2.1 d_HM_refer_72 rfl (lv_at hl 3 rfl) ?_
            refine so_ialdN S K P a2 0 rfl hwh (by decide) d_HM_refer_73 ?_
            rw [((so1 j hj).2 hal).2.2 wh hwh]
            refine lv_istore S.1 S.2.1 d_HM_refer_74 hl (by decide) rfl (fun ls hl => ?_)
            refine lv_aload S.1 S.2.1 d_HM_refer_76 (lv_at hl 1 rfl) ?_
            refine lv_iload_n S.1 S.2.1 d_HM_refer_78 rfl (lv_at hl 4 rfl) ?_
            refine lv_iload_n S.1 S.2.1 d_HM_refer_79 rfl (lv_at hl 5 rfl) ?_
            refine so_iastN S K P hS a2 0 rfl hwh (by decide) d_HM_refer_80 (fun H locs P hS => ?_)
            refine lv_iload S.1 S.2.1 d_HM_refer_81 (lv_at hl 0 rfl) ?_
            refine W_imp (fun t h => MQ.toT h) (so_iret S hr hlk P hS (Nat.zero_le _) (Nat.zero_le _) ?_ d_HM_refer_83)
            have M1 := M.2.2.1.up_r hj ad (upd (X.rr j) wh t)
            have Fr : fT tH σ (so_up σ a.2 (200 + j, aI ca 2 (upd (X.rr j) wh t))) := fT.rf.up a2 (Or.inr (Or.inr (Or.inr (Or.inr ⟨by show 200 ≤ 200 + j; omega, by show 200 + j < 232; omega⟩))))
            refine ⟨⟨j, wh, X.wr j (upd (X.rr j) wh t), hj, hwh, hok, rfl, rfl, rfl, M.agH Fr M1, rfl, ?_⟩, Fr.mono tC_H⟩
            intro i hi
            obtain ⟨b1, b2⟩ := so1 i hi
            refine ⟨b1, fun hali => ?_⟩
            obtain ⟨b3, b4, b5⟩ := b2 hali
            refine ⟨b3, b4, fun z hz => ?_⟩
            show va_up X.rr j (upd (X.rr j) wh t) i z = rI (va_up o.2.2.2 j (va_up (o.2.2.2 j) wh (tI t)) i z)
            by_cases e1 : i = j
            · subst e1
              rw [va_up_self, va_up_self]
              by_cases e2 : z = wh
              · subst e2
                rw [va_up_self]
                unfold upd
                rw [if_pos rfl]
                exact htv
              · rw [va_up_ne _ _ e2]
                unfold upd
                rw [if_neg e2]
                exact b5 z hz
            · rw [va_up_ne _ _ e1, va_up_ne _ _ e1]
              exact b5 z hz
          · have hA2 : al_O o t = false := (bI_0 _).mp h43
            exact thr_A S E hX hex hlk hl.1 P (tx := "no such object to refer to") (by decide +kernel) (⟨rfl, by unfold rf_ok; rw [decide_eq_false (show ¬ t = -1 from h32), hA2, Bool.false_or, Bool.and_false, Bool.and_false, Bool.and_false]⟩) (by decide) (by decide) (by decide) (Nat.le_of_ble_eq_true rfl) d_HM_refer_46 d_HM_refer_49 d_HM_refer_50 d_HM_refer_52 d_HM_refer_55
      · exact thr_A S E hX hex hlk hl.1 P (tx := "no such object or reference") (by decide +kernel) (⟨rfl, by unfold rf_ok; rw [decide_eq_false (show ¬ ¬ (1 : Int32) < w from fun z => h17 (lt12.mpr z)), Bool.false_and, Bool.and_false, Bool.and_false]⟩) (by decide) (by decide) (by decide) (Nat.le_of_ble_eq_true rfl) d_HM_refer_20 d_HM_refer_23 d_HM_refer_24 d_HM_refer_26 d_HM_refer_29
set_option maxHeartbeats 400000 in
set_option maxRecDepth 100000 in
theorem c_HM_root (l : Launch) {s0 : State} {D : va_G} {ca : Nat → ClassId} (hB : so_B tbl s0 D vcl (tyl ca)) {σ : so_S} (hX : exX l s0) {DE hm : Nat} {B : Bx} {X : Hx} {k : Wks} {bk tm : Nat} {L : Nat → List En} {sl : Nat → Option En} {o : Obs} (M : HMR ca DE σ hm B X k bk tm L sl) (so1 : simO X o) (x : Int32) (b : Bool) : so_T l s0 D vcl y_HM_root b_HM_root 5 (some .boolean) 9 1 6 [.ref hm, .int x, .int (bI b)] σ (fun v σ1 => (∃ j X1, j < 32 ∧ x = nI j ∧ o.1 j = true ∧ v = some (.int (bI (o.2.2.1 j))) ∧ HMR ca DE σ1 hm B X1 k bk tm L sl ∧ X1.cd = X.cd ∧ simO X1 (o.1, o.2.1, va_up o.2.2.1 j b, o.2.2.2)) ∧ fT tC σ σ1) (fun C => C = xA ∧ al_O o x = false) := by
  refine so_ofT hB (by decide) (Nat.le_of_ble_eq_true rfl) ?_
  intro p e s m below meth c ls S K E hr hlk hex P hS hl
  have hl : lv_has ls 5 [(0, .ref hm), (1, .int x), (2, .int (bI b))] := hl
  refine lv_aload_n S.1 S.2.1 d_HM_root_0 rfl (lv_at hl 0 rfl) ?_
  refine gf_HM_10_HM S K P M.1 rfl d_HM_root_1 ?_
  refine lv_iload_n S.1 S.2.1 d_HM_root_4 rfl (lv_at hl 1 rfl) ?_
  refine so_callR (cv_HM_70_He S hB K E P hS M.2.2.1.1 (c_He_has l hB M.2.2.1.1 M.2.2.1.2.1 x) rfl (by decide) (Nat.zero_le _) (Nat.zero_le _) hl.1 rfl (Nat.le_of_ble_eq_true rfl) d_HM_root_5) (fun v hv => ?_)
  subst hv
  rw [has_al so1]
  refine lv_if_ne (tgt := 21) S.1 S.2.1 d_HM_root_8 rfl (fun h8 => ?_) (fun h8 => ?_)
  · have hA : al_O o x = true := by
      cases hq : al_O o x with
      | true => rfl
      | false => rw [hq] at h8; exact absurd rfl h8
    obtain ⟨j, hj, rfl, hal⟩ := al_cases hA
    obtain ⟨a, ad, af, a1, a2⟩ := so1.thing M.2.2.1 hj hal
    refine lv_aload_n S.1 S.2.1 d_HM_root_21 rfl (lv_at hl 0 rfl) ?_
    refine gf_HM_10_HM S K P M.1 rfl d_HM_root_22 ?_
    refine gf_HM_61_He S K P M.2.2.1.1 rfl d_HM_root_25 ?_
    refine lv_iload_n S.1 S.2.1 d_HM_root_28 rfl (lv_at hl 1 rfl) ?_
    refine so_aaldN S K P M.2.2.1.2.1 3 rfl hj (by decide) d_HM_root_29 ?_
    rw [af]
    show W p l e _ s m _ below meth c _ _ _ _ _ (F0 m _ ls (.ref a.1 :: _))
    refine lv_astore_n S.1 S.2.1 d_HM_root_30 rfl hl (by decide) rfl (fun ls hl => ?_)
    refine lv_aload_n S.1 S.2.1 d_HM_root_31 rfl (lv_at hl 0 rfl) ?_
    refine gf_HM_84_Th S K P a1 rfl d_HM_root_32 ?_
    refine lv_istore S.1 S.2.1 d_HM_root_35 hl (by decide) rfl (fun ls hl => ?_)
    refine lv_aload_n S.1 S.2.1 d_HM_root_37 rfl (lv_at hl 1 rfl) ?_
    refine lv_iload_n S.1 S.2.1 d_HM_root_38 rfl (lv_at hl 4 rfl) ?_
    refine pf_HM_84_Th S K P hS a1 (Nat.le_of_ble_eq_true rfl) (bI_nar b) (bI_fit b) d_HM_root_39 (fun H locs P hS => ?_)
    refine lv_iload S.1 S.2.1 d_HM_root_42 (lv_at hl 0 rfl) ?_
    refine W_imp (fun t h => MQ.toT h) (so_zret S hr (bI_nar _) hlk P hS (Nat.zero_le _) (Nat.zero_le _) ?_ d_HM_root_44)
    have M1 := M.2.2.1.up_t hj ad b (X.hd j)
    rw [((so1 j hj).2 hal).1] at M1
    have Fr : fT tH σ (so_up σ a.1 (100 + j, oTh (nI (o.2.1 j)) a.2 (bI b) (bI (X.hd j)))) := fT.rf.up a1 (Or.inr (Or.inr (Or.inr (Or.inl ⟨by show 100 ≤ 100 + j; omega, by show 100 + j < 132; omega⟩))))
    refine ⟨⟨j, X.wt j b (X.hd j), hj, rfl, hal, rfl, M.agH Fr M1, rfl, ?_⟩, Fr.mono tC_H⟩
    intro i hi
    obtain ⟨b1, b2⟩ := so1 i hi
    refine ⟨b1, fun hali => ?_⟩
    obtain ⟨b3, b4, b5⟩ := b2 hali
    refine ⟨b3, ?_, b5⟩
    show va_up X.rt j b i = va_up o.2.2.1 j b i
    by_cases e1 : i = j
    · rw [e1, va_up_self, va_up_self]
    · rw [va_up_ne _ _ e1, va_up_ne _ _ e1]
      exact b4
  · exact thr_A S E hX hex hlk hl.1 P (tx := "no such object") (by decide +kernel) (⟨rfl, (bI_0 _).mp h8⟩) (by decide) (by decide) (by decide) (Nat.le_of_ble_eq_true rfl) d_HM_root_11 d_HM_root_14 d_HM_root_15 d_HM_root_17 d_HM_root_20

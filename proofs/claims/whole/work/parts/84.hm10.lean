/-! HoldMaps: dropWeakEntries, collect. -/
set_option maxHeartbeats 400000 in
set_option maxRecDepth 100000 in
theorem c_HM_dropWeakEntries (l : Launch) {s0 : State} {D : va_G} {ca : Nat → ClassId} (hB : so_B tbl s0 D vcl (tyl ca)) {σ : so_S} {DE hm : Nat} {B : Bx} {X : Hx} {k : Wks} {bk tm : Nat} {L : Nat → List En} {sl : Nat → Option En} {o : Obs} (M : HMR ca DE σ hm B X k bk tm L sl) (so1 : simO X o) (hLn : ∀ i, (L i).length ≤ 32) {Sf : Nat → Bool} (hh : hdR X o Sf) (hky : ∀ x ∈ L 0, x.2.1 < 32 ∧ o.1 x.2.1 = true) : so_C l s0 D vcl y_HM_dropWeakEntries b_HM_dropWeakEntries 2 none 5 0 0 [.ref hm] σ (fun v σ1 => v = none ∧ HMR ca DE σ1 hm B X (k.1, va_up k.2.1 0 (k.2.1 0 || (L 0).any (fun x => !Sf x.2.1)), k.2.2) bk tm (va_up L 0 ((L 0).filter (fun x => Sf x.2.1))) sl ∧ fT tC σ σ1) := by
  refine so_of hB (by decide) (Nat.le_of_ble_eq_true rfl) ?_
  intro p e s m below meth c ls S K E hr hlk hnm P hS hl
  have hl : lv_has ls 2 [(0, .ref hm)] := hl
  obtain ⟨Lw, hLw⟩ : ∃ q, q = L 0 := ⟨_, rfl⟩
  have hn32 := hLn 0
  rw [← hLw] at hky hn32
  have hup : va_up L 0 (wf (L 0) (fun x : En => Sf x.2.1) (L 0).length) = L := by
    rw [(wf_all (l := L 0)).1]
    funext z
    unfold va_up
    split
    · rename_i e1; rw [e1]
    · rfl
  have hupk : (k.1, va_up k.2.1 0 (k.2.1 0 || wb (L 0) (fun x : En => Sf x.2.1) (L 0).length), k.2.2) = k := by
    have e1 : va_up k.2.1 0 (k.2.1 0 || wb (L 0) (fun x : En => Sf x.2.1) (L 0).length) = k.2.1 := by
      rw [(wf_all (l := L 0)).2, Bool.or_false]
      funext z
      unfold va_up
      split
      · rename_i e1; rw [e1]
      · rfl
    rw [e1]
  refine lv_aload_n S.1 S.2.1 d_HM_dropWeakEntries_0 rfl (lv_at hl 0 rfl) ?_
  refine gf_HM_19_HM S K P M.1 rfl d_HM_dropWeakEntries_1 ?_
  refine so_callR (cv_HM_229_We S hB K E P hS M.2.2.2.1.1 (c_Ro_length_We l hB M.2.2.2.1.1 M.2.2.2.1.2.1) rfl (by decide) (Nat.zero_le _) (Nat.zero_le _) hl.1 rfl (Nat.le_of_ble_eq_true rfl) d_HM_dropWeakEntries_4) (fun v hv => ?_)
  subst hv
  refine lv_iconst (v := 1) S.1 S.2.1 d_HM_dropWeakEntries_7 (by decide) ?_
  refine lv_isub S.1 S.2.1 d_HM_dropWeakEntries_8 ?_
  refine lv_istore_n S.1 S.2.1 d_HM_dropWeakEntries_9 rfl hl (by decide) rfl (fun ls hl => ?_)
  refine so_lp (Wf := fun ls H locs σ3 (_ : Nat) => W p l e _ s m _ below meth c H locs _ _ _ (F0 m 10 ls [])) (fun n1 ls H locs σ3 i => n1 = i ∧ i ≤ (L 0).length ∧ lv_has ls 2 [(1, .int (nI i - 1)), (0, .ref hm)] ∧ so_P D vcl s0.heap.size σ3 H ∧ va_S (so_A s0.heap.size) s.heap H locs ∧ HMR ca DE σ3 hm B X (k.1, va_up k.2.1 0 (k.2.1 0 || wb (L 0) (fun x : En => Sf x.2.1) i), k.2.2) bk tm (va_up L 0 (wf (L 0) (fun x : En => Sf x.2.1) i)) sl ∧ fT tC σ σ3) ?_ _ ls _ _ σ (L 0).length ⟨rfl, Nat.le_refl _, hl, P, hS, by rw [hup, hupk]; exact M, fT.rf⟩
  clear hl P hS M hup hupk
  rintro n1 ls H locs σ3 i ⟨hn1, hi1, hl, P, hS, M, Fr⟩ ih
  rw [← hLw] at hi1 M ih ⊢
  refine lv_iload_n S.1 S.2.1 d_HM_dropWeakEntries_10 rfl (lv_at hl 0 rfl) ?_
  cases i with
  | zero =>
    refine lv_if_lt (tgt := 46) S.1 S.2.1 d_HM_dropWeakEntries_11 rfl (fun h11 => ?_) (fun h11 => absurd (by decide) h11)
    exact so_vret S hr hlk P hS (Nat.le_refl _) (Nat.le_refl _) ⟨rfl, M, Fr⟩ d_HM_dropWeakEntries_46
  | succ j =>
    rw [nI_pred] at hl ⊢
    refine lv_if_lt (tgt := 46) S.1 S.2.1 d_HM_dropWeakEntries_11 rfl (fun h11 => absurd h11 (nI_pos (by omega))) (fun h11 => ?_)
    obtain ⟨en, hen⟩ : ∃ en, Lw[j]? = some en := ⟨_, List.getElem?_eq_getElem (show j < Lw.length by omega)⟩
    obtain ⟨hk1, hk2⟩ := hky en (List.mem_of_getElem? hen)
    obtain ⟨Lc, hLc⟩ : ∃ q, q = wf Lw (fun x : En => Sf x.2.1) (j + 1) := ⟨_, rfl⟩
    obtain ⟨br, hbr⟩ : ∃ q, q = (k.2.1 0 || wb Lw (fun x : En => Sf x.2.1) (j + 1)) := ⟨_, rfl⟩
    have hat : Lc[j]? = some en := by rw [hLc]; exact wf_at hen
    have hLl : Lc.length ≤ 32 := by
      rw [hLc]
      unfold wf
      rw [List.length_append, List.length_take]
      have h5 := List.length_filter_le (fun x : En => Sf x.2.1) (Lw.drop (j + 1))
      rw [List.length_drop] at h5
      omega
    have hjl := (List.getElem?_eq_some_iff.mp hat).1
    rw [← hLc, ← hbr] at M
    have Mw : σ3 (B.A.1 0) = some (10, oWe (bI (k.1 0)) (bI br) (nI (k.2.2 0)) (B.A.2.1 0) B.A.2.2 (nI bk)) := M.2.2.2.1.1
    have Mr : RwR ca DE σ3 0 (B.A.2.1 0) Lc := M.2.2.2.1.2.1
    refine lv_aload_n S.1 S.2.1 d_HM_dropWeakEntries_14 rfl (lv_at hl 1 rfl) ?_
    refine gf_HM_10_HM S K P M.1 rfl d_HM_dropWeakEntries_15 ?_
    refine lv_aload_n S.1 S.2.1 d_HM_dropWeakEntries_18 rfl (lv_at hl 1 rfl) ?_
    refine gf_HM_19_HM S K P M.1 rfl d_HM_dropWeakEntries_19 ?_
    refine lv_iload_n S.1 S.2.1 d_HM_dropWeakEntries_22 rfl (lv_at hl 0 rfl) ?_
    refine so_callR (cv_HM_230_We S hB K E P hS Mw (c_Ta_keyAt_We l hB Mw Mr (by omega) (nI j)) rfl (by decide) (Nat.zero_le _) (Nat.zero_le _) hl.1 rfl (Nat.le_of_ble_eq_true rfl) d_HM_dropWeakEntries_23) (fun v hv => ?_)
    subst hv
    rw [atI_o (by omega) (by omega), hat]
    refine so_callR (cv_HM_225_He S hB K E P hS M.2.2.1.1 (c_He_isHeld l hB M.2.2.1 (nI en.2.1)) rfl (by decide) (Nat.zero_le _) (Nat.zero_le _) hl.1 rfl (Nat.le_of_ble_eq_true rfl) d_HM_dropWeakEntries_26) (fun v hv => ?_)
    subst hv
    rw [hI_hd so1 hh hk1 hk2]
    refine lv_if_ne (tgt := 40) S.1 S.2.1 d_HM_dropWeakEntries_29 rfl (fun h29 => ?_) (fun h29 => ?_)
    · have hp : Sf en.2.1 = true := by
        cases hq : Sf en.2.1 with
        | true => rfl
        | false => rw [hq] at h29; exact absurd rfl h29
      obtain ⟨e1, e2⟩ := wf_keep (P := fun x : En => Sf x.2.1) hen hp
      refine lv_iinc (k := 0) S.1 S.2.1 d_HM_dropWeakEntries_40 hl rfl rfl (by decide) rfl (fun ls hl => ?_)
      refine lv_goto (tgt := 10) S.1 S.2.1 d_HM_dropWeakEntries_43 rfl ?_
      rw [nI_dd] at hl
      refine ih j ls H locs σ3 j (by omega) ⟨rfl, by omega, hl, P, hS, ?_, Fr⟩
      rw [e1, e2, ← hLc, ← hbr]
      exact M
    · have hp : Sf en.2.1 = false := (bI_0 _).mp h29
      obtain ⟨e1, e2⟩ := wf_drop (P := fun x : En => Sf x.2.1) hen hp
      refine lv_aload_n S.1 S.2.1 d_HM_dropWeakEntries_32 rfl (lv_at hl 1 rfl) ?_
      refine gf_HM_19_HM S K P M.1 rfl d_HM_dropWeakEntries_33 ?_
      refine lv_iload_n S.1 S.2.1 d_HM_dropWeakEntries_36 rfl (lv_at hl 0 rfl) ?_
      refine so_call (cv_HM_231_We S hB K E P hS Mw (c_Ro_dropAt_We l hB Mw Mr (by omega) j hjl) rfl (by decide) (Nat.le_refl _) (Nat.le_refl _) hl.1 rfl (Nat.le_of_ble_eq_true rfl) d_HM_dropWeakEntries_37) hS (fun v σ4 H locs hv P hS => ?_)
      obtain ⟨rfl, g0, g1, F4'⟩ := hv
      have F4 := F4'.mono (tR_M (k := 0))
      refine lv_iinc (k := 0) S.1 S.2.1 d_HM_dropWeakEntries_40 hl rfl rfl (by decide) rfl (fun ls hl => ?_)
      refine lv_goto (tgt := 10) S.1 S.2.1 d_HM_dropWeakEntries_43 rfl ?_
      rw [nI_dd] at hl
      refine ih j ls H locs σ4 j (by omega) ⟨rfl, by omega, hl, P, hS, ?_, Fr.tr (F4.mono (tC_M (by decide)))⟩
      rw [e1, e2, ← hLc, Bool.or_true]
      exact M.agT (by decide) F4 ⟨⟨g0, g1, M.2.2.2.1.2.2.imp (fun Lm z => z.fr (F4'.ag (fun t h z => by rcases h with h | h <;> rcases z with z | z | z <;> omega)))⟩, M.2.2.2.2.1.ag (F4.ag (fun t h => tM_ne (by decide) (by decide) (by decide) h)), M.2.2.2.2.2.1.ag (F4.ag (fun t h => tM_ne (by decide) (by decide) (by decide) h)), M.2.2.2.2.2.2.1.ag (F4.ag (fun t h => tM_ne (by decide) (by decide) (by decide) h)), M.2.2.2.2.2.2.2.ag (F4.ag (fun t h => tM_ne (by decide) (by decide) (by decide) h))⟩
set_option maxHeartbeats 400000 in
set_option maxRecDepth 100000 in
theorem c_HM_collect (l : Launch) {s0 : State} {D : va_G} {ca : Nat → ClassId} (hB : so_B tbl s0 D vcl (tyl ca)) {σ : so_S} (hX : exX l s0) {DE hm : Nat} {B : Bx} {X : Hx} {k : Wks} {bk tm : Nat} {L : Nat → List En} {sl : Nat → Option En} {o : Obs} (M : HMR ca DE σ hm B X k bk tm L sl) (so1 : simO X o) (hO : okO o) (hLn : ∀ i, (L i).length ≤ 32) (hbd : ∀ mp x, mp < 5 → x ∈ lsE L sl mp → x.2.1 < 2 ^ 31 ∧ x.2.2.2.1 < 2 ^ 31) (hus : ∀ x ∈ L 1, x.2.2.2.2 ≤ tm) (htm : tm < 2 ^ 29) (hvl : ∀ x ∈ L 1, x.2.2.2.1 < 32 ∧ o.1 x.2.2.2.1 = true) (hky : ∀ x ∈ L 0, x.2.1 < 32 ∧ o.1 x.2.1 = true) {Sb : Nat → Bool} (hSb : ∀ j, j < 32 → (Sb j = true ↔ (o.1 j = true ∧ (((((((o.2.2.1 j = true ∨ kyS (lsE L sl 2) j) ∨ vlS (lsE L sl 2) j) ∨ kyS (lsE L sl 4) j) ∨ vlS (lsE L sl 4) j) ∨ vlS (lsE L sl 3) j) ∨ vlS (lsE L sl 0) j) ∨ kyS (lsE L sl 1) j)))) (x : Int32) : so_T l s0 D vcl y_HM_collect b_HM_collect 2 (some .int) 9 1 6 [.ref hm, .int x] σ (fun v σ1 => (∃ pr L1 st X5, pr ≤ 3 ∧ x = nI pr ∧ st = sfM o.2.2.2 tm (12 - 4 * pr) (L 1).length 1 ((L 1).map (fun x => (x.2.1, x.2.2.2.1)), (L 1).map (fun x => x.2.2.2.2), clF o.2.2.2 Sb, k.2.1 1) ∧ v = some (.int (nI (cb (fun x => o.1 x && !st.2.2.1 x) 32))) ∧ HMR ca DE σ1 hm B X5 (k.1, va_up (va_up k.2.1 1 st.2.2.2) 0 (k.2.1 0 || (L 0).any (fun x => !st.2.2.1 x.2.1)), k.2.2) bk tm (va_up (va_up L 1 L1) 0 ((L 0).filter (fun x => st.2.2.1 x.2.1))) sl ∧ L1.map (fun x => (x.2.1, x.2.2.2.1)) = st.1 ∧ L1.map (fun x => x.2.2.2.2) = st.2.1 ∧ (∀ x ∈ L1, x ∈ L 1) ∧ L1.length ≤ 32 ∧ simO X5 (st.2.2.1, o.2.1, o.2.2.1, o.2.2.2) ∧ X5.cd = X.cd + nI (cb (fun x => o.1 x && !st.2.2.1 x) 32) ∧ ∀ j, j < 32 → st.2.2.1 j = true → o.1 j = true) ∧ fT tC σ σ1) (fun C => C = xA ∧ (x < 0 ∨ 3 < x)) := by
  refine so_ofT hB (by decide) (Nat.le_of_ble_eq_true rfl) ?_
  intro p e s m below meth c ls S K E hr hlk hex P hS hl
  have hl : lv_has ls 2 [(0, .ref hm), (1, .int x)] := hl
  refine lv_iload_n S.1 S.2.1 d_HM_collect_0 rfl (lv_at hl 1 rfl) ?_
  refine lv_if_lt (tgt := 9) S.1 S.2.1 d_HM_collect_1 rfl (fun h1 => ?_) (fun h1 => ?_)
  · exact thr_A S E hX hex hlk hl.1 P (tx := "the pressure is not 0 .. 3") (by decide +kernel) (⟨rfl, Or.inl h1⟩) (by decide) (by decide) (by decide) (Nat.le_of_ble_eq_true rfl) d_HM_collect_9 d_HM_collect_12 d_HM_collect_13 d_HM_collect_15 d_HM_collect_18
  · refine lv_iload_n S.1 S.2.1 d_HM_collect_4 rfl (lv_at hl 1 rfl) ?_
    refine lv_iconst (v := 3) S.1 S.2.1 d_HM_collect_5 (by decide) ?_
    refine lv_icmp_le (tgt := 19) S.1 S.2.1 d_HM_collect_6 rfl (fun h6 => ?_) (fun h6 => ?_)
    · obtain ⟨pr, hpr, rfl⟩ := nI_of2 (M := 3) (n := 3) (by decide) h1 h6
      have Fr : fT tC σ σ := fT.rf
      refine lv_aload_n S.1 S.2.1 d_HM_collect_19 rfl (lv_at hl 0 rfl) ?_
      refine gf_HM_10_HM S K P M.1 rfl d_HM_collect_20 ?_
      refine so_call (cv_HM_178_He S hB K E P hS M.2.2.1.1 (c_He_holdRootsOnly l hB M.2.2.1) rfl (by decide) (Nat.zero_le _) (Nat.zero_le _) hl.1 rfl (Nat.le_of_ble_eq_true rfl) d_HM_collect_23) hS (fun v σ1 H locs hv P hS => ?_)
      obtain ⟨X1, ⟨rfl, G1, hro⟩, Mh, F1⟩ := hv
      have M1 := M.agH F1 Mh
      have Fr := Fr.tr ((show fT tH σ σ1 from F1).mono tC_H)
      have hC1 : csS X (fun j => o.2.2.1 j = true) X1 G1 := (show csS X (fun j => X.rt j = true) X1 G1 from ⟨hro.1, hro.2.1, hro.2.2.1, fun j hj ha hs => hro.2.2.2.1 j hj ha hs, fun T hT hs => hro.2.2.2.2 T hT hs⟩).sub (fun j hj ha => by rw [((so1 j hj).2 (by rw [← (so1 j hj).1]; exact ha)).2.1])
      refine lv_aload_n S.1 S.2.1 d_HM_collect_26 rfl (lv_at hl 0 rfl) ?_
      refine so_call (cv_HM_181_HM S hB K E P hS M1.1 (c_HM_holdWhatMapsHold l hB M1 hLn hbd hC1) rfl (by decide) (Nat.zero_le _) (Nat.zero_le _) hl.1 rfl (Nat.le_of_ble_eq_true rfl) d_HM_collect_27) hS (fun v σ2 H locs hv P hS => ?_)
      obtain ⟨rfl, ⟨X2, G2, hC2, M2⟩, F2⟩ := hv
      have Fr := Fr.tr (F2.mono tC_H)
      have hh2 := hC2.toF so1 hO hSb
      have so2 := so1.sb hC2.2.1
      refine lv_aload_n S.1 S.2.1 d_HM_collect_30 rfl (lv_at hl 0 rfl) ?_
      refine lv_bipush (v := 12) S.1 S.2.1 d_HM_collect_31 (by decide) ?_
      refine lv_iconst (v := 4) S.1 S.2.1 d_HM_collect_33 (by decide) ?_
      refine lv_iload_n S.1 S.2.1 d_HM_collect_34 rfl (lv_at hl 1 rfl) ?_
      refine lv_imul S.1 S.2.1 d_HM_collect_35 ?_
      refine lv_isub S.1 S.2.1 d_HM_collect_36 ?_
      rw [show (12 : Int32) - 4 * nI pr = nI (12 - 4 * pr) by rw [show (4 : Int32) * nI pr = nI (4 * pr) from nI_mul 4 pr]; exact nI_sb (show 4 * pr ≤ 12 by omega)]
      refine so_call (cv_HM_184_HM S hB K E P hS M2.1 (c_HM_dropSoftEntries l hB M2 so2 hO hLn hh2 hC2.1 hC2.cl hus htm hvl (12 - 4 * pr) (by omega)) rfl (by decide) (Nat.zero_le _) (Nat.zero_le _) hl.1 rfl (Nat.le_of_ble_eq_true rfl) d_HM_collect_37) hS (fun v σ3 H locs hv P hS => ?_)
      obtain ⟨rfl, ⟨X3, L1, st, hst, M3, e1, e2, hh3, hsb3, hL1, hsub⟩, F3⟩ := hv
      have Fr := Fr.tr F3
      have so3 := so2.sb hsb3
      refine lv_aload_n S.1 S.2.1 d_HM_collect_40 rfl (lv_at hl 0 rfl) ?_
      refine so_call (cv_HM_187_HM S hB K E P hS M3.1 (c_HM_dropWeakEntries l hB M3 so3 (fun i => by unfold va_up; split; exact hL1; exact hLn i) hh3 hky) rfl (by decide) (Nat.zero_le _) (Nat.zero_le _) hl.1 rfl (Nat.le_of_ble_eq_true rfl) d_HM_collect_41) hS (fun v σ4 H locs hv P hS => ?_)
      obtain ⟨rfl, M4, F4⟩ := hv
      have Fr := Fr.tr F4
      refine lv_aload_n S.1 S.2.1 d_HM_collect_44 rfl (lv_at hl 0 rfl) ?_
      refine gf_HM_10_HM S K P M4.1 rfl d_HM_collect_45 ?_
      refine so_call (cv_HM_190_He S hB K E P hS M4.2.2.1.1 (c_He_sweep l hB M4.2.2.1) rfl (by decide) (Nat.zero_le _) (Nat.zero_le _) hl.1 rfl (Nat.le_of_ble_eq_true rfl) d_HM_collect_48) hS (fun v σ5 H locs hv P hS => ?_)
      obtain ⟨X5, ⟨rfl, hX5⟩, Mh5, F5⟩ := hv
      have M5 := M4.agH F5 Mh5
      have Fr := Fr.tr ((show fT tH σ4 σ5 from F5).mono tC_H)
      have hcb : cb (fun j => X3.al j && !X3.hd j) 32 = cb (fun x => o.1 x && !st.2.2.1 x) 32 := cb_cong (fun j hj => by
        have h7 := (so3 j hj).1
        rw [h7]
        cases hj2 : o.1 j with
        | false => rfl
        | true => rw [hh3.1 j hj hj2])
      rw [hcb] at hX5 ⊢
      refine W_imp (fun t h => MQ.toT h) (so_iret S hr hlk P hS (Nat.zero_le _) (Nat.zero_le _) ?_ d_HM_collect_51)
      refine ⟨⟨pr, L1, st, X5, hpr, rfl, hst, rfl, M5, e1, e2, hsub, hL1, ?_, ?_, hh3.2⟩, Fr⟩
      · intro j hj
        rw [hX5]
        show (if j < 32 ∧ X3.hd j = false then none else X3.ad j).isSome = st.2.2.1 j ∧ (st.2.2.1 j = true → X3.va j = nI (o.2.1 j) ∧ X3.rt j = o.2.2.1 j ∧ ∀ w, w < 2 → X3.rr j w = rI (o.2.2.2 j w))
        obtain ⟨h7, h8⟩ := so3 j hj
        refine ⟨?_, fun hs => h8 (hh3.2 j hj hs)⟩
        cases ho : o.1 j with
        | true =>
          rw [← hh3.1 j hj ho]
          rw [ho] at h7
          cases hd : X3.hd j with
          | true => rw [if_neg (fun z => by cases z.2)]; exact h7
          | false => rw [if_pos ⟨hj, rfl⟩]; rfl
        | false =>
          have hs : st.2.2.1 j = false := by
            cases hq : st.2.2.1 j with
            | false => rfl
            | true => rw [hh3.2 j hj hq] at ho; cases ho
          rw [hs]
          rw [ho] at h7
          have h9 : X3.ad j = none := by
            unfold Hx.al at h7
            cases hq : X3.ad j with
            | none => rfl
            | some z => rw [hq] at h7; cases h7
          rw [h9]
          split <;> rfl
      · rw [hX5]
        show X3.cd + _ = X.cd + _
        rw [hsb3.2.2.2.2, hC2.2.1.2.2.2.2]
    · exact thr_A S E hX hex hlk hl.1 P (tx := "the pressure is not 0 .. 3") (by decide +kernel) (⟨rfl, Or.inr (Int32.not_le.mp h6)⟩) (by decide) (by decide) (by decide) (Nat.le_of_ble_eq_true rfl) d_HM_collect_9 d_HM_collect_12 d_HM_collect_13 d_HM_collect_15 d_HM_collect_18

/-! The reference's weak row: where a new entry goes, and the doubling of the buckets. -/
def bko (R : Rf) (k : Nat) : Int32 := bk_O (R.1 12) (R.2.1 1 k)
def tw {α : Type} (P : α → Bool) : List α → Nat
  | [] => 0
  | e :: l => if P e = true then tw P l + 1 else 0
theorem tw_le {α : Type} (P : α → Bool) (l : List α) : tw P l ≤ l.length := by
  induction l with
  | nil => exact Nat.le_refl _
  | cons e l ih =>
    unfold tw
    rw [List.length_cons]
    split <;> omega
theorem tw_is {α : Type} {P : α → Bool} : ∀ {l : List α} {i : Nat}, i ≤ l.length → (∀ (j : Nat) (e : α), j < i → l[j]? = some e → P e = true) → (∀ e : α, l[i]? = some e → P e = false) → tw P l = i
  | [], i, h, _, _ => by
    have : i = 0 := by simpa using h
    rw [this]
    rfl
  | e :: l, 0, _, _, h2 => by
    unfold tw
    rw [h2 e rfl]
    rfl
  | e :: l, i + 1, h, h1, h2 => by
    unfold tw
    rw [h1 0 e (by omega) rfl, if_pos rfl, tw_is (i := i) (by simpa using h) (fun j x hj hx => h1 (j + 1) x (by omega) hx) (fun x hx => h2 x hx)]
def ins_R (R : Rf) (w : List (Nat × Nat)) (key val : Nat) : List (Nat × Nat) := w.insertIdx (tw (fun e => decide (bko R e.1 < bko R key)) w) (key, val)
set_option maxHeartbeats 4000000 in
set_option maxRecDepth 100000 in
theorem c_Mo_putWeak (l : Launch) {s0 : State} {D : va_G} {ca : Nat → ClassId} (hB : so_B tbl s0 D vcl (tyl ca)) {σ : so_S} {mo : Nat} {ar : Nat → Nat} {R : Rf} (M : MoR ca σ mo ar R) {w : List (Nat × Nat)} (key val : Nat) (hrow : rowR R 0 w) (hlen : w.length < 32) (hks : ∀ x ∈ w, x.1 < 32) (hkey : key < 32) : mo_C l s0 D ca mo ar σ y_Mo_putWeak b_Mo_putWeak 5 none 2 [.int (nI key), .int (nI val)] (fun v R1 => v = none ∧ eqo 0 R R1 ∧ rowR R1 0 (ins_R R w key val)) := by
  refine so_of hB (by decide) (Nat.le_of_ble_eq_true rfl) ?_
  intro p e s m below meth c ls S K E hr hlk hnm P hS hl
  have hl : lv_has ls 5 [(0, .ref mo), (1, .int (nI key)), (2, .int (nI val))] := hl
  have F : fM σ σ := fM.rf
  refine lv_aload_n S.1 S.2.1 d_Mo_putWeak_0 rfl (lv_at hl 0 rfl) ?_
  refine lv_iload_n S.1 S.2.1 d_Mo_putWeak_1 rfl (lv_at hl 1 rfl) ?_
  refine so_callR (cv_Mo_79_Mo S hB K E P hS M.1 (c_Mo_bucketOf l hB M key hkey) rfl (by decide) (Nat.le_refl _) (Nat.le_refl _) hl.1 rfl (Nat.le_of_ble_eq_true rfl) d_Mo_putWeak_2) (fun v hv => ?_)
  subst hv
  refine lv_istore_n S.1 S.2.1 d_Mo_putWeak_5 rfl hl (by decide) rfl (fun ls hl => ?_)
  refine lv_iconst (v := 0) S.1 S.2.1 d_Mo_putWeak_6 (by decide) ?_
  refine lv_istore S.1 S.2.1 d_Mo_putWeak_7 hl (by decide) rfl (fun ls hl => ?_)
  refine so_lpR (Wf := fun ls (_ : Nat) => W p l e _ s m _ below meth c _ _ _ _ _ (F0 m 9 ls [])) (fun n1 ls i => n1 = w.length - i ∧ i ≤ w.length ∧ (∀ (j : Nat) (x : Nat × Nat), j < i → w[j]? = some x → decide (bko R x.1 < bko R key) = true) ∧ lv_has ls 5 [(4, .int (nI i)), (3, .int (bko R key)), (0, .ref mo), (1, .int (nI key)), (2, .int (nI val))]) ?_ _ ls 0 ⟨rfl, Nat.zero_le _, fun j x hj => absurd hj (Nat.not_lt_zero _), hl⟩
  clear hl
  intro n1 ls i ⟨hn1, hi1, hall, hl⟩ ih
  refine lv_iload S.1 S.2.1 d_Mo_putWeak_9 (lv_at hl 0 rfl) ?_
  refine lv_aload_n S.1 S.2.1 d_Mo_putWeak_11 rfl (lv_at hl 2 rfl) ?_
  refine gf_Mo_38_Mo S K P M.1 rfl d_Mo_putWeak_12 ?_
  refine lv_iconst (v := 0) S.1 S.2.1 d_Mo_putWeak_15 (by decide) ?_
  refine mo_iald S K P M 11 rfl 0 rfl (by show _ < 5; omega) d_Mo_putWeak_16 ?_
  refine lv_icmp_ge (tgt := 41) S.1 S.2.1 d_Mo_putWeak_17 rfl (fun h17 => ?_) (fun h17 => ?_)
  · have htw : tw (fun e : Nat × Nat => decide (bko R e.1 < bko R key)) w = i := by
      refine tw_is hi1 hall (fun x2 hx2 => ?_)
      first
        | (cases hw.symm.trans hx2; exact decide_eq_false (i_le_nlt h32); done)
        | (rw [hrow.1] at h17; have h9 := (nI_leI (by omega) (by omega)).mp h17; have h8 := (List.getElem?_eq_some_iff.mp hx2).1; omega)
    refine lv_aload_n S.1 S.2.1 d_Mo_putWeak_41 rfl (lv_at hl 2 rfl) ?_
    refine lv_iconst (v := 0) S.1 S.2.1 d_Mo_putWeak_42 (by decide) ?_
    refine lv_iload S.1 S.2.1 d_Mo_putWeak_43 (lv_at hl 0 rfl) ?_
    refine lv_iload_n S.1 S.2.1 d_Mo_putWeak_45 rfl (lv_at hl 3 rfl) ?_
    refine lv_iload_n S.1 S.2.1 d_Mo_putWeak_46 rfl (lv_at hl 4 rfl) ?_
    refine mo_after F (cv_Mo_82_Mo S hB K E P hS M.1 (c_Mo_openn l hB M 0 i w.length (by decide) (by decide) (by decide) hrow.1 hlen (by omega) (by omega) (nI key) (nI val)) rfl (by decide) (Nat.le_refl _) (Nat.le_refl _) hl.1 rfl (Nat.le_of_ble_eq_true rfl) d_Mo_putWeak_47) hS (fun v R1 σ H locs hp P hS M F => ?_)
    obtain ⟨rfl, rfl⟩ := hp
    refine so_vret S hr hlk P hS (Nat.le_refl _) (Nat.le_refl _) ⟨_, ?_, M, F⟩ d_Mo_putWeak_50
    refine ⟨rfl, eqo.op (by omega) (by omega) hlen, ?_⟩
    have h9 := hrow.op (j := i) (a := key) (b := val) hlen hi1
    rw [Nat.mul_zero, Nat.zero_add] at h9
    unfold ins_R
    rw [htw]
    exact h9
  · have hlt : i < w.length := Nat.not_le.mp fun q => h17 (by rw [hrow.1]; exact nI_le q (by omega))
    obtain ⟨x, hw⟩ : ∃ x, w[i]? = some x := ⟨w[i], List.getElem?_eq_getElem hlt⟩
    have hx8 : R.2.1 8 i = nI x.1 := by
      have := (hrow.2.2 i x hw).1
      rwa [Nat.mul_zero, Nat.zero_add] at this
    refine lv_aload_n S.1 S.2.1 d_Mo_putWeak_20 rfl (lv_at hl 2 rfl) ?_
    refine lv_aload_n S.1 S.2.1 d_Mo_putWeak_21 rfl (lv_at hl 2 rfl) ?_
    refine gf_Mo_29_Mo S K P M.1 rfl d_Mo_putWeak_22 ?_
    refine lv_iload S.1 S.2.1 d_Mo_putWeak_25 (lv_at hl 0 rfl) ?_
    refine mo_iald S K P M 8 rfl i rfl (by show i < 160; omega) d_Mo_putWeak_27 ?_
    rw [hx8]
    refine so_callR (cv_Mo_79_Mo S hB K E P hS M.1 (c_Mo_bucketOf l hB M x.1 (hks x (List.mem_of_getElem? hw))) rfl (by decide) (Nat.le_refl _) (Nat.le_refl _) hl.1 rfl (Nat.le_of_ble_eq_true rfl) d_Mo_putWeak_28) (fun v hv => ?_)
    subst hv
    refine lv_iload_n S.1 S.2.1 d_Mo_putWeak_31 rfl (lv_at hl 1 rfl) ?_
    refine lv_icmp_ge (tgt := 41) S.1 S.2.1 d_Mo_putWeak_32 rfl (fun h32 => ?_) (fun h32 => ?_)
    · have htw : tw (fun e : Nat × Nat => decide (bko R e.1 < bko R key)) w = i := by
        refine tw_is hi1 hall (fun x2 hx2 => ?_)
        first
          | (cases hw.symm.trans hx2; exact decide_eq_false (i_le_nlt h32); done)
          | (rw [hrow.1] at h17; have h9 := (nI_leI (by omega) (by omega)).mp h17; have h8 := (List.getElem?_eq_some_iff.mp hx2).1; omega)
      refine lv_aload_n S.1 S.2.1 d_Mo_putWeak_41 rfl (lv_at hl 2 rfl) ?_
      refine lv_iconst (v := 0) S.1 S.2.1 d_Mo_putWeak_42 (by decide) ?_
      refine lv_iload S.1 S.2.1 d_Mo_putWeak_43 (lv_at hl 0 rfl) ?_
      refine lv_iload_n S.1 S.2.1 d_Mo_putWeak_45 rfl (lv_at hl 3 rfl) ?_
      refine lv_iload_n S.1 S.2.1 d_Mo_putWeak_46 rfl (lv_at hl 4 rfl) ?_
      refine mo_after F (cv_Mo_82_Mo S hB K E P hS M.1 (c_Mo_openn l hB M 0 i w.length (by decide) (by decide) (by decide) hrow.1 hlen (by omega) (by omega) (nI key) (nI val)) rfl (by decide) (Nat.le_refl _) (Nat.le_refl _) hl.1 rfl (Nat.le_of_ble_eq_true rfl) d_Mo_putWeak_47) hS (fun v R1 σ H locs hp P hS M F => ?_)
      obtain ⟨rfl, rfl⟩ := hp
      refine so_vret S hr hlk P hS (Nat.le_refl _) (Nat.le_refl _) ⟨_, ?_, M, F⟩ d_Mo_putWeak_50
      refine ⟨rfl, eqo.op (by omega) (by omega) hlen, ?_⟩
      have h9 := hrow.op (j := i) (a := key) (b := val) hlen hi1
      rw [Nat.mul_zero, Nat.zero_add] at h9
      unfold ins_R
      rw [htw]
      exact h9
    · refine lv_iinc (k := 0) S.1 S.2.1 d_Mo_putWeak_35 hl rfl rfl (by decide) rfl (fun ls hl => ?_)
      refine lv_goto (tgt := 9) S.1 S.2.1 d_Mo_putWeak_38 rfl ?_
      rw [nI_a] at hl
      refine ih (w.length - (i + 1)) ls (i + 1) (by omega) ⟨rfl, by omega, fun j x hj hx => ?_, hl⟩
      rcases Nat.lt_succ_iff_lt_or_eq.mp hj with h | h
      · exact hall j x h hx
      · subst h
        cases hw.symm.trans hx
        exact decide_eq_true (i_nle h32)

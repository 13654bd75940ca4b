/-! The reference's doubling of the buckets. -/
def ins_B (b : Nat → Int32) (w : List (Nat × Nat)) (e : Nat × Nat) : List (Nat × Nat) := w.insertIdx (tw (fun x => decide (b x.1 < b e.1)) w) e
def re_B (b : Nat → Int32) (w : List (Nat × Nat)) : List (Nat × Nat) := w.foldl (ins_B b) []
theorem ins_len (b : Nat → Int32) (w : List (Nat × Nat)) (e : Nat × Nat) : (ins_B b w e).length = w.length + 1 := List.length_insertIdx_of_le_length (tw_le _ _) _
theorem ins_mem {b : Nat → Int32} {w : List (Nat × Nat)} {e x : Nat × Nat} : x ∈ ins_B b w e ↔ x = e ∨ x ∈ w := List.mem_insertIdx (tw_le _ _)
theorem fold_len (b : Nat → Int32) : ∀ (w acc : List (Nat × Nat)), (w.foldl (ins_B b) acc).length = w.length + acc.length
  | [], acc => by simp
  | e :: w, acc => by
    rw [List.foldl_cons, fold_len b w, ins_len, List.length_cons]
    omega
theorem fold_mem {b : Nat → Int32} {x : Nat × Nat} : ∀ {w acc : List (Nat × Nat)}, x ∈ w.foldl (ins_B b) acc ↔ x ∈ w ∨ x ∈ acc
  | [], acc => by simp
  | e :: w, acc => by
    rw [List.foldl_cons, fold_mem, ins_mem, List.mem_cons]
    constructor
    · rintro (h | h | h)
      · exact Or.inl (Or.inr h)
      · exact Or.inl (Or.inl h)
      · exact Or.inr h
    · rintro ((h | h) | h)
      · exact Or.inr (Or.inl h)
      · exact Or.inl h
      · exact Or.inr (Or.inr h)
def eqw (R R1 : Rf) : Prop := R1.1 = va_up R.1 12 (2 * R.1 12) ∧ R1.2.2 = R.2.2 ∧ (∀ j, j ≠ 8 → j ≠ 9 → j ≠ 10 → j ≠ 11 → j ≠ 13 → R1.2.1 j = R.2.1 j) ∧ (∀ i, 32 ≤ i → R1.2.1 8 i = R.2.1 8 i ∧ R1.2.1 9 i = R.2.1 9 i ∧ R1.2.1 10 i = R.2.1 10 i) ∧ ∀ i, i ≠ 0 → R1.2.1 11 i = R.2.1 11 i
set_option maxHeartbeats 4000000 in
set_option maxRecDepth 100000 in
theorem c_Mo_doubleBuckets (l : Launch) {s0 : State} {D : va_G} {ca : Nat → ClassId} (hB : so_B tbl s0 D vcl (tyl ca)) {σ : so_S} {mo : Nat} {ar : Nat → Nat} {R : Rf} (M : MoR ca σ mo ar R) {w : List (Nat × Nat)} (hrow : rowR R 0 w) (hks : ∀ x ∈ w, x.1 < 32) : mo_C l s0 D ca mo ar σ y_Mo_doubleBuckets b_Mo_doubleBuckets 3 none 3 [] (fun v R1 => v = none ∧ eqw R R1 ∧ rowR R1 0 (re_B (fun q => bk_O (2 * R.1 12) (R.2.1 1 q)) w)) := by
  refine so_of hB (by decide) (Nat.le_of_ble_eq_true rfl) ?_
  intro p e s m below meth c ls S K E hr hlk hnm P hS hl
  have hl : lv_has ls 3 [(0, .ref mo)] := hl
  have F : fM σ σ := fM.rf
  obtain ⟨σ0, hσ0⟩ : ∃ q, q = σ := ⟨σ, rfl⟩
  rw [← hσ0]
  replace F : fM σ0 σ := by rw [hσ0]; exact fM.rf
  have hwl : w.length ≤ 32 := hrow.2.1
  refine lv_aload_n S.1 S.2.1 d_Mo_doubleBuckets_0 rfl (lv_at hl 0 rfl) ?_
  refine gf_Mo_38_Mo S K P M.1 rfl d_Mo_doubleBuckets_1 ?_
  refine lv_iconst (v := 0) S.1 S.2.1 d_Mo_doubleBuckets_4 (by decide) ?_
  refine mo_iald S K P M 11 rfl 0 rfl (by show _ < 5; omega) d_Mo_doubleBuckets_5 ?_
  refine lv_istore_n S.1 S.2.1 d_Mo_doubleBuckets_6 rfl hl (by decide) rfl (fun ls hl => ?_)
  refine lv_aload_n S.1 S.2.1 d_Mo_doubleBuckets_7 rfl (lv_at hl 1 rfl) ?_
  refine lv_iconst (v := 2) S.1 S.2.1 d_Mo_doubleBuckets_8 (by decide) ?_
  refine lv_aload_n S.1 S.2.1 d_Mo_doubleBuckets_9 rfl (lv_at hl 1 rfl) ?_
  refine gf_Mo_41_Mo S K P M.1 rfl d_Mo_doubleBuckets_10 ?_
  refine lv_imul S.1 S.2.1 d_Mo_doubleBuckets_13 ?_
  refine mo_pz_41 S K P hS M F d_Mo_doubleBuckets_14 (fun σ H locs P hS M F => ?_)
  refine lv_iconst (v := 0) S.1 S.2.1 d_Mo_doubleBuckets_17 (by decide) ?_
  refine lv_istore_n S.1 S.2.1 d_Mo_doubleBuckets_18 rfl hl (by decide) rfl (fun ls hl => ?_)
  rw [hrow.1] at hl
  refine so_lp (Wf := fun ls H locs σ1 (_ : Nat × Rf) => W p l e _ s m _ below meth c H locs _ _ _ (F0 m 19 ls [])) (fun n1 ls H locs σ1 a => n1 = w.length - a.1 ∧ a.1 ≤ w.length ∧ a.2.1 = va_up R.1 12 (2 * R.1 12) ∧ a.2.2.2 = R.2.2 ∧ (∀ j, j ≠ 13 → a.2.2.1 j = R.2.1 j) ∧ (∀ j, j < a.1 → a.2.2.1 13 j = R.2.1 8 j ∧ a.2.2.1 13 (32 + j) = R.2.1 9 j) ∧ mo_I ca D s0 s mo ar σ0 ls 3 [(2, .int (nI a.1)), (1, .int (nI w.length)), (0, .ref mo)] H locs σ1 a.2) ?_ _ ls H locs σ (0, sz R 12 (2 * R.1 12)) ⟨rfl, Nat.zero_le _, rfl, rfl, fun _ _ => rfl, fun j hj => absurd hj (Nat.not_lt_zero _), hl, P, hS, M, F⟩
  clear hl P hS M F
  rintro n1 ls H locs σ ⟨i, Ra⟩ ⟨hn1, hi1, hz, hb, ho, hold, hl, P, hS, M, F⟩ ih
  simp only at hn1 hi1 hz hb ho hold hl M ih
  refine lv_iload_n S.1 S.2.1 d_Mo_doubleBuckets_19 rfl (lv_at hl 0 rfl) ?_
  refine lv_iload_n S.1 S.2.1 d_Mo_doubleBuckets_20 rfl (lv_at hl 1 rfl) ?_
  refine lv_icmp_ge (tgt := 57) S.1 S.2.1 d_Mo_doubleBuckets_21 rfl (fun h21 => ?_) (fun h21 => ?_)
  · have hiw : i = w.length := by
      have := (nI_leI (by omega) (by omega)).mp h21
      omega
    subst hiw
    refine lv_aload_n S.1 S.2.1 d_Mo_doubleBuckets_57 rfl (lv_at hl 2 rfl) ?_
    refine gf_Mo_38_Mo S K P M.1 rfl d_Mo_doubleBuckets_58 ?_
    refine lv_iconst (v := 0) S.1 S.2.1 d_Mo_doubleBuckets_61 (by decide) ?_
    refine lv_iconst (v := 0) S.1 S.2.1 d_Mo_doubleBuckets_62 (by decide) ?_
    refine mo_iast S K P hS M F 11 rfl 0 rfl (by show _ < 5; omega) d_Mo_doubleBuckets_63 (fun σ H locs P hS M F => ?_)
    refine lv_iconst (v := 0) S.1 S.2.1 d_Mo_doubleBuckets_64 (by decide) ?_
    refine lv_istore_n S.1 S.2.1 d_Mo_doubleBuckets_65 rfl hl (by decide) rfl (fun ls hl => ?_)
    have ez : Ra.2.1 11 = R.2.1 11 := ho 11 (by decide)
    have hrow0 : rowR (sa Ra 11 0 0) 0 [] := ⟨by show va_up Ra.2.1 11 (upd (Ra.2.1 11) 0 0) 11 0 = _; rw [va_up_self]; rfl, by decide, fun j e h => by simp at h⟩
    have hbk : ∀ q, bko (sa Ra 11 0 0) q = bk_O (2 * R.1 12) (R.2.1 1 q) := fun q => by
      show bk_O (Ra.1 12) (Ra.2.1 1 q) = _
      rw [hz, ho 1 (by decide), va_up_self]
    generalize hRb : sa Ra 11 0 0 = Rb at M hrow0 hbk
    have hob : ∀ j, j < w.length → Rb.2.1 13 j = R.2.1 8 j ∧ Rb.2.1 13 (32 + j) = R.2.1 9 j := fun j hj => by
      rw [← hRb]
      exact hold j (by omega)
    refine so_lp (Wf := fun ls H locs σ1 (_ : Nat × Rf) => W p l e _ s m _ below meth c H locs _ _ _ (F0 m 66 ls [])) (fun n1 ls H locs σ1 a => n1 = w.length - a.1 ∧ a.1 ≤ w.length ∧ eqo 0 Rb a.2 ∧ rowR a.2 0 ((w.take a.1).foldl (ins_B (fun q => bk_O (2 * R.1 12) (R.2.1 1 q))) []) ∧ mo_I ca D s0 s mo ar σ0 ls 3 [(2, .int (nI a.1)), (1, .int (nI w.length)), (0, .ref mo)] H locs σ1 a.2) ?_ _ ls H locs σ (0, Rb) ⟨rfl, Nat.zero_le _, eqo.rf, hrow0, hl, P, hS, M, F⟩
    clear hl P hS M F ih hn1 hi1
    rintro n1 ls H locs σ ⟨i2, Rc⟩ ⟨hn1, hi1, heq, hrc, hl, P, hS, M, F⟩ ih
    simp only at hn1 hi1 heq hrc hl M ih
    refine lv_iload_n S.1 S.2.1 d_Mo_doubleBuckets_66 rfl (lv_at hl 0 rfl) ?_
    refine lv_iload_n S.1 S.2.1 d_Mo_doubleBuckets_67 rfl (lv_at hl 1 rfl) ?_
    refine lv_icmp_ge (tgt := 96) S.1 S.2.1 d_Mo_doubleBuckets_68 rfl (fun h68 => ?_) (fun h68 => ?_)
    · refine so_vret S hr hlk P hS (Nat.le_refl _) (Nat.le_refl _) ⟨_, ?_, M, F⟩ d_Mo_doubleBuckets_96
      have hi2 : i2 = w.length := by
        have := (nI_leI (by omega) (by omega)).mp h68
        omega
      subst hi2
      rw [List.take_length] at hrc
      refine ⟨rfl, ⟨?_, ?_, fun j a b c d f => ?_, fun i hi => ?_, fun i hi => ?_⟩, hrc⟩
      · rw [heq.1, ← hRb]; exact hz
      · rw [heq.2.1, ← hRb]; exact hb
      · rw [heq.2.2.1 j a b c d, ← hRb]
        show va_up Ra.2.1 11 _ j = _
        rw [va_up_ne _ _ d]
        exact ho j f
      · have h9 := heq.2.2.2.1 i (Or.inr (by omega))
        rw [h9.1, h9.2.1, h9.2.2, ← hRb]
        refine ⟨?_, ?_, ?_⟩
        · show Ra.2.1 8 i = _; rw [ho 8 (by decide)]
        · show Ra.2.1 9 i = _; rw [ho 9 (by decide)]
        · show Ra.2.1 10 i = _; rw [ho 10 (by decide)]
      · rw [heq.2.2.2.2 i hi, ← hRb]
        show upd (Ra.2.1 11) 0 0 i = _
        unfold upd
        rw [if_neg hi, ez]
    · have hlt : i2 < w.length := Nat.not_le.mp fun q => h68 (nI_le q (by omega))
      obtain ⟨x, hw⟩ : ∃ x, w[i2]? = some x := ⟨w[i2], List.getElem?_eq_getElem hlt⟩
      have hkx : x.1 < 32 := hks x (List.mem_of_getElem? hw)
      have hrx := hrow.2.2 i2 x hw
      rw [Nat.mul_zero, Nat.zero_add] at hrx
      have h13 : Rc.2.1 13 = Rb.2.1 13 := heq.2.2.1 13 (by decide) (by decide) (by decide) (by decide)
      have hx8 : Rc.2.1 13 i2 = nI x.1 := by rw [h13, (hob i2 hlt).1]; exact hrx.1
      have hx9 : Rc.2.1 13 (32 + i2) = nI x.2 := by rw [h13, (hob i2 hlt).2]; exact hrx.2
      have hlen2 : ((w.take i2).foldl (ins_B (fun q => bk_O (2 * R.1 12) (R.2.1 1 q))) []).length < 32 := by
        rw [fold_len, List.length_take]
        simp only [List.length_nil]
        omega
      have hks2 : ∀ y ∈ (w.take i2).foldl (ins_B (fun q => bk_O (2 * R.1 12) (R.2.1 1 q))) [], y.1 < 32 := fun y hy => by
        rcases fold_mem.mp hy with h | h
        · exact hks y (List.mem_of_mem_take h)
        · cases h
      refine lv_aload_n S.1 S.2.1 d_Mo_doubleBuckets_71 rfl (lv_at hl 2 rfl) ?_
      refine lv_aload_n S.1 S.2.1 d_Mo_doubleBuckets_72 rfl (lv_at hl 2 rfl) ?_
      refine gf_Mo_45_Mo S K P M.1 rfl d_Mo_doubleBuckets_73 ?_
      refine lv_iload_n S.1 S.2.1 d_Mo_doubleBuckets_76 rfl (lv_at hl 0 rfl) ?_
      refine mo_iald S K P M 13 rfl i2 rfl (by show i2 < 64; omega) d_Mo_doubleBuckets_77 ?_
      rw [hx8]
      refine lv_aload_n S.1 S.2.1 d_Mo_doubleBuckets_78 rfl (lv_at hl 2 rfl) ?_
      refine gf_Mo_45_Mo S K P M.1 rfl d_Mo_doubleBuckets_79 ?_
      refine lv_bipush (v := 32) S.1 S.2.1 d_Mo_doubleBuckets_82 (by decide) ?_
      refine lv_iload_n S.1 S.2.1 d_Mo_doubleBuckets_84 rfl (lv_at hl 0 rfl) ?_
      refine lv_iadd S.1 S.2.1 d_Mo_doubleBuckets_85 ?_
      refine mo_iald S K P M 13 rfl (32 + i2) (nI_add 32 i2) (by show 32 + i2 < 64; omega) d_Mo_doubleBuckets_86 ?_
      rw [hx9]
      refine mo_after F (cv_Mo_86_Mo S hB K E P hS M.1 (c_Mo_putWeak l hB M x.1 x.2 hrc hlen2 hks2 hkx) rfl (by decide) (Nat.le_refl _) (Nat.le_refl _) hl.1 rfl (Nat.le_of_ble_eq_true rfl) d_Mo_doubleBuckets_87) hS (fun v R1 σ H locs hp P hS M F => ?_)
      obtain ⟨rfl, hq, hrow1⟩ := hp
      refine lv_iinc (k := 0) S.1 S.2.1 d_Mo_doubleBuckets_90 hl rfl rfl (by decide) rfl (fun ls hl => ?_)
      refine lv_goto (tgt := 66) S.1 S.2.1 d_Mo_doubleBuckets_93 rfl ?_
      rw [nI_a] at hl
      refine ih (w.length - (i2 + 1)) ls H locs σ (i2 + 1, R1) (by omega) ⟨rfl, by show i2 + 1 ≤ _; omega, heq.tr hq, ?_, hl, P, hS, M, F⟩
      show rowR R1 0 ((w.take (i2 + 1)).foldl _ [])
      rw [List.take_succ, hw, List.foldl_append]
      have hbc : ∀ q, bko Rc q = bk_O (2 * R.1 12) (R.2.1 1 q) := fun q => by
        rw [← hbk q]
        unfold bko
        rw [heq.1, heq.2.2.1 1 (by decide) (by decide) (by decide) (by decide)]
      have hfun : bko Rc = (fun q => bk_O (2 * R.1 12) (R.2.1 1 q)) := funext hbc
      unfold ins_R at hrow1
      rw [hfun] at hrow1
      exact hrow1
  · have hlt : i < w.length := Nat.not_le.mp fun q => h21 (nI_le q (by omega))
    refine lv_aload_n S.1 S.2.1 d_Mo_doubleBuckets_24 rfl (lv_at hl 2 rfl) ?_
    refine gf_Mo_45_Mo S K P M.1 rfl d_Mo_doubleBuckets_25 ?_
    refine lv_iload_n S.1 S.2.1 d_Mo_doubleBuckets_28 rfl (lv_at hl 0 rfl) ?_
    refine lv_aload_n S.1 S.2.1 d_Mo_doubleBuckets_29 rfl (lv_at hl 2 rfl) ?_
    refine gf_Mo_29_Mo S K P M.1 rfl d_Mo_doubleBuckets_30 ?_
    refine lv_iload_n S.1 S.2.1 d_Mo_doubleBuckets_33 rfl (lv_at hl 0 rfl) ?_
    refine mo_iald S K P M 8 rfl i rfl (by show i < 160; omega) d_Mo_doubleBuckets_34 ?_
    refine mo_iast S K P hS M F 13 rfl i rfl (by show i < 64; omega) d_Mo_doubleBuckets_35 (fun σ H locs P hS M F => ?_)
    refine lv_aload_n S.1 S.2.1 d_Mo_doubleBuckets_36 rfl (lv_at hl 2 rfl) ?_
    refine gf_Mo_45_Mo S K P M.1 rfl d_Mo_doubleBuckets_37 ?_
    refine lv_bipush (v := 32) S.1 S.2.1 d_Mo_doubleBuckets_40 (by decide) ?_
    refine lv_iload_n S.1 S.2.1 d_Mo_doubleBuckets_42 rfl (lv_at hl 0 rfl) ?_
    refine lv_iadd S.1 S.2.1 d_Mo_doubleBuckets_43 ?_
    refine lv_aload_n S.1 S.2.1 d_Mo_doubleBuckets_44 rfl (lv_at hl 2 rfl) ?_
    refine gf_Mo_32_Mo S K P M.1 rfl d_Mo_doubleBuckets_45 ?_
    refine lv_iload_n S.1 S.2.1 d_Mo_doubleBuckets_48 rfl (lv_at hl 0 rfl) ?_
    refine mo_iald S K P M 9 rfl i rfl (by show i < 160; omega) d_Mo_doubleBuckets_49 ?_
    refine mo_iast S K P hS M F 13 rfl (32 + i) (nI_add 32 i) (by show 32 + i < 64; omega) d_Mo_doubleBuckets_50 (fun σ H locs P hS M F => ?_)
    refine lv_iinc (k := 0) S.1 S.2.1 d_Mo_doubleBuckets_51 hl rfl rfl (by decide) rfl (fun ls hl => ?_)
    refine lv_goto (tgt := 19) S.1 S.2.1 d_Mo_doubleBuckets_54 rfl ?_
    rw [nI_a] at hl
    refine ih (w.length - (i + 1)) ls H locs σ (i + 1, sa (sa Ra 13 i (Ra.2.1 8 i)) 13 (32 + i) (Ra.2.1 9 i)) (by omega) ⟨rfl, by show i + 1 ≤ _; omega, hz, hb, fun j hj => ?_, fun j hj => ?_, hl, P, hS, M, F⟩
    · show va_up (va_up Ra.2.1 13 (upd (Ra.2.1 13) i (Ra.2.1 8 i))) 13 (upd (va_up Ra.2.1 13 (upd (Ra.2.1 13) i (Ra.2.1 8 i)) 13) (32 + i) (Ra.2.1 9 i)) j = R.2.1 j
      rw [va_up_ne _ _ hj, va_up_ne _ _ hj]
      exact ho j hj
    · have hj : j < i + 1 := hj
      have g : ∀ q, (sa (sa Ra 13 i (Ra.2.1 8 i)) 13 (32 + i) (Ra.2.1 9 i)).2.1 13 q = upd (upd (Ra.2.1 13) i (Ra.2.1 8 i)) (32 + i) (Ra.2.1 9 i) q := fun q => by
        show va_up (va_up Ra.2.1 13 (upd (Ra.2.1 13) i (Ra.2.1 8 i))) 13 (upd (va_up Ra.2.1 13 (upd (Ra.2.1 13) i (Ra.2.1 8 i)) 13) (32 + i) (Ra.2.1 9 i)) 13 q = _
        rw [va_up_self, va_up_self]
      show (sa (sa Ra 13 i (Ra.2.1 8 i)) 13 (32 + i) (Ra.2.1 9 i)).2.1 13 j = _ ∧ (sa (sa Ra 13 i (Ra.2.1 8 i)) 13 (32 + i) (Ra.2.1 9 i)).2.1 13 (32 + j) = _
      rw [g, g]
      unfold upd
      by_cases e1 : j = i
      · subst e1
        rw [if_neg (by omega), if_pos rfl, if_pos rfl, ho 8 (by decide), ho 9 (by decide)]
        exact ⟨rfl, rfl⟩
      · rw [if_neg (by omega), if_neg e1, if_neg (by omega), if_neg (by omega)]
        exact hold j (by omega)

/-! The reference's small methods. -/
def is_O (R : Rf) (x : Int32) : Bool := if x < 0 then false else if 32 ≤ x then false else R.2.2 4 x.toNatClampNeg
theorem is_neg {R : Rf} {x : Int32} (h : x < 0) : is_O R x = false := if_pos h
theorem is_big {R : Rf} {x : Int32} (h : 32 ≤ x) : is_O R x = false := by
  unfold is_O
  rw [if_pos h]
  split <;> rfl
theorem is_nI {R : Rf} {j : Nat} (h : j < 32) : is_O R (nI j) = R.2.2 4 j := by
  unfold is_O
  rw [if_neg (nI_pos (by omega)), if_neg (show ¬ (32 : Int32) ≤ nI j from nI_ge (b := 32) h (by decide)), nI_clamp (by omega)]
theorem is_cases {R : Rf} {x : Int32} (h : is_O R x = true) : ∃ j : Nat, j < 32 ∧ x = nI j ∧ R.2.2 4 j = true := by
  rcases pk_ix x (n := 32) (by decide) with h1 | h1 | ⟨j, h1, h2⟩
  · rw [is_neg h1] at h
    cases h
  · rw [is_big h1] at h
    cases h
  · subst h2
    rw [is_nI h1] at h
    exact ⟨j, h1, rfl, h⟩
def is_M (x : Int32) : Bool := if x < 0 then false else if 4 < x then false else true
theorem is_M_cases {x : Int32} (h : is_M x = true) : ∃ j : Nat, j < 5 ∧ x = nI j := by
  unfold is_M at h
  split at h
  · cases h
  · rename_i h0
    split at h
    · cases h
    · rename_i h1
      refine ix_in (n := 5) (M := 5) (by decide) rfl h0 (fun q => h1 ?_)
      rw [Int32.le_iff_toInt_le] at q
      rw [Int32.lt_iff_toInt_lt]
      have e5 : (5 : Int32).toInt = 5 := by decide
      have e4 : (4 : Int32).toInt = 4 := by decide
      omega
theorem bI_1 {b : Bool} (h : ¬ bI b = 0) : b = true := by
  cases b
  · exact absurd rfl h
  · rfl
set_option maxHeartbeats 4000000 in
set_option maxRecDepth 100000 in
theorem c_Mo_thrown (l : Launch) {s0 : State} {D : va_G} {ca : Nat → ClassId} (hB : so_B tbl s0 D vcl (tyl ca)) {σ : so_S} {mo : Nat} {ar : Nat → Nat} {R : Rf} (M : MoR ca σ mo ar R)  : mo_D l s0 D mo σ y_Mo_thrown b_Mo_thrown 1 (some .int) 0 [] (fun v => v = some (.int (R.1 0))) := by
  refine so_ofR hB (by decide) (Nat.le_of_ble_eq_true rfl) ?_
  intro p e s m below meth c ls S K E hr hlk P hS hl
  have hl : lv_has ls 1 [(0, .ref mo)] := hl
  refine lv_aload_n S.1 S.2.1 d_Mo_thrown_0 rfl (lv_at hl 0 rfl) ?_
  refine gf_Mo_57_Mo S K P M.1 rfl d_Mo_thrown_1 ?_
  refine so_iretR S hr hlk ?_ d_Mo_thrown_4
  rfl
set_option maxHeartbeats 4000000 in
set_option maxRecDepth 100000 in
theorem c_Mo_refuse (l : Launch) {s0 : State} {D : va_G} {ca : Nat → ClassId} (hB : so_B tbl s0 D vcl (tyl ca)) {σ : so_S} {mo : Nat} {ar : Nat → Nat} {R : Rf} (M : MoR ca σ mo ar R) (x : Int32) : mo_C l s0 D ca mo ar σ y_Mo_refuse b_Mo_refuse 2 (some .int) 0 [.int x] (fun v R1 => v = some (.int 0) ∧ R1 = sz R 0 x) := by
  refine so_of hB (by decide) (Nat.le_of_ble_eq_true rfl) ?_
  intro p e s m below meth c ls S K E hr hlk hnm P hS hl
  have hl : lv_has ls 2 [(0, .ref mo), (1, .int x)] := hl
  have F : fM σ σ := fM.rf
  refine lv_aload_n S.1 S.2.1 d_Mo_refuse_0 rfl (lv_at hl 0 rfl) ?_
  refine lv_iload_n S.1 S.2.1 d_Mo_refuse_1 rfl (lv_at hl 1 rfl) ?_
  refine mo_pz_57 S K P hS M F d_Mo_refuse_2 (fun σ H locs P hS M F => ?_)
  refine lv_iconst (v := 0) S.1 S.2.1 d_Mo_refuse_5 (by decide) ?_
  refine so_iret S hr hlk P hS (Nat.le_refl _) (Nat.le_refl _) ⟨_, ?_, M, F⟩ d_Mo_refuse_6
  exact ⟨rfl, rfl⟩
set_option maxHeartbeats 4000000 in
set_option maxRecDepth 100000 in
theorem c_Mo_isObject (l : Launch) {s0 : State} {D : va_G} {ca : Nat → ClassId} (hB : so_B tbl s0 D vcl (tyl ca)) {σ : so_S} {mo : Nat} {ar : Nat → Nat} {R : Rf} (M : MoR ca σ mo ar R) (x : Int32) : mo_D l s0 D mo σ y_Mo_isObject b_Mo_isObject 2 (some .boolean) 0 [.int x] (fun v => v = some (.int (bI (is_O R x)))) := by
  refine so_ofR hB (by decide) (Nat.le_of_ble_eq_true rfl) ?_
  intro p e s m below meth c ls S K E hr hlk P hS hl
  have hl : lv_has ls 2 [(0, .ref mo), (1, .int x)] := hl
  refine lv_iload_n S.1 S.2.1 d_Mo_isObject_0 rfl (lv_at hl 1 rfl) ?_
  refine lv_if_lt (tgt := 23) S.1 S.2.1 d_Mo_isObject_1 rfl (fun h1 => ?_) (fun h1 => ?_)
  · refine lv_iconst (v := 0) S.1 S.2.1 d_Mo_isObject_23 (by decide) ?_
    refine so_zretR S hr rfl hlk ?_ d_Mo_isObject_24
    first | rw [is_neg h1]; rfl | rw [is_big h7]; rfl | rw [is_nI hj, (bI_0 _).mp h16]; rfl | rw [is_nI hj, bI_1 h16]; rfl
  · refine lv_iload_n S.1 S.2.1 d_Mo_isObject_4 rfl (lv_at hl 1 rfl) ?_
    refine lv_bipush (v := 32) S.1 S.2.1 d_Mo_isObject_5 (by decide) ?_
    refine lv_icmp_ge (tgt := 23) S.1 S.2.1 d_Mo_isObject_7 rfl (fun h7 => ?_) (fun h7 => ?_)
    · refine lv_iconst (v := 0) S.1 S.2.1 d_Mo_isObject_23 (by decide) ?_
      refine so_zretR S hr rfl hlk ?_ d_Mo_isObject_24
      first | rw [is_neg h1]; rfl | rw [is_big h7]; rfl | rw [is_nI hj, (bI_0 _).mp h16]; rfl | rw [is_nI hj, bI_1 h16]; rfl
    · refine lv_aload_n S.1 S.2.1 d_Mo_isObject_10 rfl (lv_at hl 0 rfl) ?_
      refine gf_Mo_19_Mo S K P M.1 rfl d_Mo_isObject_11 ?_
      refine lv_iload_n S.1 S.2.1 d_Mo_isObject_14 rfl (lv_at hl 1 rfl) ?_
      obtain ⟨j, hj, rfl⟩ := ix_in (n := 32) (by decide) rfl h1 h7
      refine mo_zald S K P M 4 rfl j rfl (by show _ < 32; omega) d_Mo_isObject_15 ?_
      refine lv_if_eq (tgt := 23) S.1 S.2.1 d_Mo_isObject_16 rfl (fun h16 => ?_) (fun h16 => ?_)
      · refine lv_iconst (v := 0) S.1 S.2.1 d_Mo_isObject_23 (by decide) ?_
        refine so_zretR S hr rfl hlk ?_ d_Mo_isObject_24
        first | rw [is_neg h1]; rfl | rw [is_big h7]; rfl | rw [is_nI hj, (bI_0 _).mp h16]; rfl | rw [is_nI hj, bI_1 h16]; rfl
      · refine lv_iconst (v := 1) S.1 S.2.1 d_Mo_isObject_19 (by decide) ?_
        refine lv_goto (tgt := 24) S.1 S.2.1 d_Mo_isObject_20 rfl ?_
        refine so_zretR S hr rfl hlk ?_ d_Mo_isObject_24
        first | rw [is_neg h1]; rfl | rw [is_big h7]; rfl | rw [is_nI hj, (bI_0 _).mp h16]; rfl | rw [is_nI hj, bI_1 h16]; rfl
set_option maxHeartbeats 4000000 in
set_option maxRecDepth 100000 in
theorem c_Mo_change (l : Launch) {s0 : State} {D : va_G} {ca : Nat → ClassId} (hB : so_B tbl s0 D vcl (tyl ca)) {σ : so_S} {mo : Nat} {ar : Nat → Nat} {R : Rf} (M : MoR ca σ mo ar R) (mp : Nat) (hm : mp < 5) : mo_C l s0 D ca mo ar σ y_Mo_change b_Mo_change 2 none 0 [.int (nI mp)] (fun v R1 => v = none ∧ R1 = sbb R 16 mp true) := by
  refine so_of hB (by decide) (Nat.le_of_ble_eq_true rfl) ?_
  intro p e s m below meth c ls S K E hr hlk hnm P hS hl
  have hl : lv_has ls 2 [(0, .ref mo), (1, .int (nI mp))] := hl
  have F : fM σ σ := fM.rf
  refine lv_aload_n S.1 S.2.1 d_Mo_change_0 rfl (lv_at hl 0 rfl) ?_
  refine gf_Mo_51_Mo S K P M.1 rfl d_Mo_change_1 ?_
  refine lv_iload_n S.1 S.2.1 d_Mo_change_4 rfl (lv_at hl 1 rfl) ?_
  refine lv_iconst (v := 1) S.1 S.2.1 d_Mo_change_5 (by decide) ?_
  refine mo_zast S K P hS M F 16 rfl mp true rfl rfl (by show _ < 5; omega) d_Mo_change_6 (fun σ H locs P hS M F => ?_)
  refine so_vret S hr hlk P hS (Nat.le_refl _) (Nat.le_refl _) ⟨_, ?_, M, F⟩ d_Mo_change_7
  exact ⟨rfl, rfl⟩
def en_O (mp n : Nat) : Nat := 32 * mp + if mp = 2 then 16 else if mp = 3 then 8 else n
set_option maxHeartbeats 4000000 in
set_option maxRecDepth 100000 in
theorem c_Mo_endd (l : Launch) {s0 : State} {D : va_G} {ca : Nat → ClassId} (hB : so_B tbl s0 D vcl (tyl ca)) {σ : so_S} {mo : Nat} {ar : Nat → Nat} {R : Rf} (M : MoR ca σ mo ar R) (mp n : Nat) (hm : mp < 5) (hz : R.2.1 11 mp = nI n) : mo_D l s0 D mo σ y_Mo_endd b_Mo_endd 2 (some .int) 0 [.int (nI mp)] (fun v => v = some (.int (nI (en_O mp n)))) := by
  refine so_ofR hB (by decide) (Nat.le_of_ble_eq_true rfl) ?_
  intro p e s m below meth c ls S K E hr hlk P hS hl
  have hl : lv_has ls 2 [(0, .ref mo), (1, .int (nI mp))] := hl
  refine lv_bipush (v := 32) S.1 S.2.1 d_Mo_endd_0 (by decide) ?_
  refine lv_iload_n S.1 S.2.1 d_Mo_endd_2 rfl (lv_at hl 1 rfl) ?_
  refine lv_imul S.1 S.2.1 d_Mo_endd_3 ?_
  refine lv_iload_n S.1 S.2.1 d_Mo_endd_4 rfl (lv_at hl 1 rfl) ?_
  refine lv_iconst (v := 2) S.1 S.2.1 d_Mo_endd_5 (by decide) ?_
  refine lv_icmp_ne (tgt := 14) S.1 S.2.1 d_Mo_endd_6 rfl (fun h6 => ?_) (fun h6 => ?_)
  · refine lv_iload_n S.1 S.2.1 d_Mo_endd_14 rfl (lv_at hl 1 rfl) ?_
    refine lv_iconst (v := 3) S.1 S.2.1 d_Mo_endd_15 (by decide) ?_
    refine lv_icmp_ne (tgt := 24) S.1 S.2.1 d_Mo_endd_16 rfl (fun h16 => ?_) (fun h16 => ?_)
    · refine lv_aload_n S.1 S.2.1 d_Mo_endd_24 rfl (lv_at hl 0 rfl) ?_
      refine gf_Mo_38_Mo S K P M.1 rfl d_Mo_endd_25 ?_
      refine lv_iload_n S.1 S.2.1 d_Mo_endd_28 rfl (lv_at hl 1 rfl) ?_
      refine mo_iald S K P M 11 rfl mp rfl (by show _ < 5; omega) d_Mo_endd_29 ?_
      refine lv_iadd S.1 S.2.1 d_Mo_endd_30 ?_
      refine so_iretR S hr hlk ?_ d_Mo_endd_31
      have k2 : nI mp = 2 ↔ mp = 2 := nI_eq (b := 2) (by omega) (by decide)
      have k3 : nI mp = 3 ↔ mp = 3 := nI_eq (b := 3) (by omega) (by decide)
      have e0 : (32 : Int32) * nI mp = nI (32 * mp) := pk_mul 32 mp
      congr 2
      unfold en_O
      rw [e0]
      first
        | (have q : mp = 2 := by first | exact k2.mp h6 | exact k2.mp (Classical.not_not.mp h6)); rw [if_pos q]; exact nI_add _ 16
        | (have q2 : ¬ mp = 2 := fun z => h6 (k2.mpr z)); (have q : mp = 3 := by first | exact k3.mp h16 | exact k3.mp (Classical.not_not.mp h16)); rw [if_neg q2, if_pos q]; exact nI_add _ 8
        | (have q2 : ¬ mp = 2 := fun z => h6 (k2.mpr z)); (have q : ¬ mp = 3 := fun z => h16 (k3.mpr z)); rw [if_neg q2, if_neg q, hz]; exact nI_add _ n
    · refine lv_bipush (v := 8) S.1 S.2.1 d_Mo_endd_19 (by decide) ?_
      refine lv_goto (tgt := 30) S.1 S.2.1 d_Mo_endd_21 rfl ?_
      refine lv_iadd S.1 S.2.1 d_Mo_endd_30 ?_
      refine so_iretR S hr hlk ?_ d_Mo_endd_31
      have k2 : nI mp = 2 ↔ mp = 2 := nI_eq (b := 2) (by omega) (by decide)
      have k3 : nI mp = 3 ↔ mp = 3 := nI_eq (b := 3) (by omega) (by decide)
      have e0 : (32 : Int32) * nI mp = nI (32 * mp) := pk_mul 32 mp
      congr 2
      unfold en_O
      rw [e0]
      first
        | (have q : mp = 2 := by first | exact k2.mp h6 | exact k2.mp (Classical.not_not.mp h6)); rw [if_pos q]; exact nI_add _ 16
        | (have q2 : ¬ mp = 2 := fun z => h6 (k2.mpr z)); (have q : mp = 3 := by first | exact k3.mp h16 | exact k3.mp (Classical.not_not.mp h16)); rw [if_neg q2, if_pos q]; exact nI_add _ 8
        | (have q2 : ¬ mp = 2 := fun z => h6 (k2.mpr z)); (have q : ¬ mp = 3 := fun z => h16 (k3.mpr z)); rw [if_neg q2, if_neg q, hz]; exact nI_add _ n
  · refine lv_bipush (v := 16) S.1 S.2.1 d_Mo_endd_9 (by decide) ?_
    refine lv_goto (tgt := 30) S.1 S.2.1 d_Mo_endd_11 rfl ?_
    refine lv_iadd S.1 S.2.1 d_Mo_endd_30 ?_
    refine so_iretR S hr hlk ?_ d_Mo_endd_31
    have k2 : nI mp = 2 ↔ mp = 2 := nI_eq (b := 2) (by omega) (by decide)
    have k3 : nI mp = 3 ↔ mp = 3 := nI_eq (b := 3) (by omega) (by decide)
    have e0 : (32 : Int32) * nI mp = nI (32 * mp) := pk_mul 32 mp
    congr 2
    unfold en_O
    rw [e0]
    first
      | (have q : mp = 2 := by first | exact k2.mp h6 | exact k2.mp (Classical.not_not.mp h6)); rw [if_pos q]; exact nI_add _ 16
      | (have q2 : ¬ mp = 2 := fun z => h6 (k2.mpr z)); (have q : mp = 3 := by first | exact k3.mp h16 | exact k3.mp (Classical.not_not.mp h16)); rw [if_neg q2, if_pos q]; exact nI_add _ 8
      | (have q2 : ¬ mp = 2 := fun z => h6 (k2.mpr z)); (have q : ¬ mp = 3 := fun z => h16 (k3.mpr z)); rw [if_neg q2, if_neg q, hz]; exact nI_add _ n
set_option maxHeartbeats 4000000 in
set_option maxRecDepth 100000 in
theorem c_Mo_set (l : Launch) {s0 : State} {D : va_G} {ca : Nat → ClassId} (hB : so_B tbl s0 D vcl (tyl ca)) {σ : so_S} {mo : Nat} {ar : Nat → Nat} {R : Rf} (M : MoR ca σ mo ar R) (k : Nat) (hk : k < 160) (x y : Int32) : mo_C l s0 D ca mo ar σ y_Mo_set b_Mo_set 4 none 0 [.int (nI k), .int x, .int y] (fun v R1 => v = none ∧ R1 = sa (sa R 8 k x) 9 k y) := by
  refine so_of hB (by decide) (Nat.le_of_ble_eq_true rfl) ?_
  intro p e s m below meth c ls S K E hr hlk hnm P hS hl
  have hl : lv_has ls 4 [(0, .ref mo), (1, .int (nI k)), (2, .int x), (3, .int y)] := hl
  have F : fM σ σ := fM.rf
  refine lv_aload_n S.1 S.2.1 d_Mo_set_0 rfl (lv_at hl 0 rfl) ?_
  refine gf_Mo_29_Mo S K P M.1 rfl d_Mo_set_1 ?_
  refine lv_iload_n S.1 S.2.1 d_Mo_set_4 rfl (lv_at hl 1 rfl) ?_
  refine lv_iload_n S.1 S.2.1 d_Mo_set_5 rfl (lv_at hl 2 rfl) ?_
  refine mo_iast S K P hS M F 8 rfl k rfl (by show _ < 160; omega) d_Mo_set_6 (fun σ H locs P hS M F => ?_)
  refine lv_aload_n S.1 S.2.1 d_Mo_set_7 rfl (lv_at hl 0 rfl) ?_
  refine gf_Mo_32_Mo S K P M.1 rfl d_Mo_set_8 ?_
  refine lv_iload_n S.1 S.2.1 d_Mo_set_11 rfl (lv_at hl 1 rfl) ?_
  refine lv_iload_n S.1 S.2.1 d_Mo_set_12 rfl (lv_at hl 3 rfl) ?_
  refine mo_iast S K P hS M F 9 rfl k rfl (by show _ < 160; omega) d_Mo_set_13 (fun σ H locs P hS M F => ?_)
  refine so_vret S hr hlk P hS (Nat.le_refl _) (Nat.le_refl _) ⟨_, ?_, M, F⟩ d_Mo_set_14
  exact ⟨rfl, rfl⟩
def bk_O (b v : Int32) : Int32 := (v ^^^ (v >>> (4 &&& 31))) &&& (b - 1)
set_option maxHeartbeats 4000000 in
set_option maxRecDepth 100000 in
theorem c_Mo_bucketOf (l : Launch) {s0 : State} {D : va_G} {ca : Nat → ClassId} (hB : so_B tbl s0 D vcl (tyl ca)) {σ : so_S} {mo : Nat} {ar : Nat → Nat} {R : Rf} (M : MoR ca σ mo ar R) (k : Nat) (hk : k < 32) : mo_D l s0 D mo σ y_Mo_bucketOf b_Mo_bucketOf 2 (some .int) 0 [.int (nI k)] (fun v => v = some (.int (bk_O (R.1 12) (R.2.1 1 k)))) := by
  refine so_ofR hB (by decide) (Nat.le_of_ble_eq_true rfl) ?_
  intro p e s m below meth c ls S K E hr hlk P hS hl
  have hl : lv_has ls 2 [(0, .ref mo), (1, .int (nI k))] := hl
  refine lv_aload_n S.1 S.2.1 d_Mo_bucketOf_0 rfl (lv_at hl 0 rfl) ?_
  refine gf_Mo_7_Mo S K P M.1 rfl d_Mo_bucketOf_1 ?_
  refine lv_iload_n S.1 S.2.1 d_Mo_bucketOf_4 rfl (lv_at hl 1 rfl) ?_
  refine mo_iald S K P M 1 rfl k rfl (by show _ < 32; omega) d_Mo_bucketOf_5 ?_
  refine lv_aload_n S.1 S.2.1 d_Mo_bucketOf_6 rfl (lv_at hl 0 rfl) ?_
  refine gf_Mo_7_Mo S K P M.1 rfl d_Mo_bucketOf_7 ?_
  refine lv_iload_n S.1 S.2.1 d_Mo_bucketOf_10 rfl (lv_at hl 1 rfl) ?_
  refine mo_iald S K P M 1 rfl k rfl (by show _ < 32; omega) d_Mo_bucketOf_11 ?_
  refine lv_iconst (v := 4) S.1 S.2.1 d_Mo_bucketOf_12 (by decide) ?_
  refine lv_ishr S.1 S.2.1 d_Mo_bucketOf_13 ?_
  refine lv_ixor S.1 S.2.1 d_Mo_bucketOf_14 ?_
  refine lv_aload_n S.1 S.2.1 d_Mo_bucketOf_15 rfl (lv_at hl 0 rfl) ?_
  refine gf_Mo_41_Mo S K P M.1 rfl d_Mo_bucketOf_16 ?_
  refine lv_iconst (v := 1) S.1 S.2.1 d_Mo_bucketOf_19 (by decide) ?_
  refine lv_isub S.1 S.2.1 d_Mo_bucketOf_20 ?_
  refine lv_iand S.1 S.2.1 d_Mo_bucketOf_21 ?_
  refine so_iretR S hr hlk ?_ d_Mo_bucketOf_22
  rfl
set_option maxHeartbeats 4000000 in
set_option maxRecDepth 100000 in
theorem c_Mo_slotOf (l : Launch) {s0 : State} {D : va_G} {ca : Nat → ClassId} (hB : so_B tbl s0 D vcl (tyl ca)) {σ : so_S} (k : Nat) (hk : k < 32) : so_D l s0 D vcl y_Mo_slotOf b_Mo_slotOf 1 (some .int) 0 [.int (nI k)] σ (fun v => v = some (.int (nI (7 * k % 16)))) := by
  refine so_ofR hB (by decide) (Nat.le_of_ble_eq_true rfl) ?_
  intro p e s m below meth c ls S K E hr hlk P hS hl
  have hl : lv_has ls 1 [(0, .int (nI k))] := hl
  refine lv_bipush (v := 7) S.1 S.2.1 d_Mo_slotOf_0 (by decide) ?_
  refine lv_iload_n S.1 S.2.1 d_Mo_slotOf_2 rfl (lv_at hl 0 rfl) ?_
  refine lv_imul S.1 S.2.1 d_Mo_slotOf_3 ?_
  refine lv_bipush (v := 16) S.1 S.2.1 d_Mo_slotOf_4 (by decide) ?_
  refine lv_irem S.1 S.2.1 d_Mo_slotOf_6 (by decide) ?_
  refine so_iretR S hr hlk ?_ d_Mo_slotOf_7
  have e1 : (7 : Int32) * nI k = nI (7 * k) := pk_mul 7 k
  rw [e1]
  exact congrArg (fun z => some (Value.int z)) (pk_rem (a := 7 * k) (d := 16) (by omega) (by decide) (by decide))
set_option maxHeartbeats 4000000 in
set_option maxRecDepth 100000 in
theorem c_Mo_isMap (l : Launch) {s0 : State} {D : va_G} {ca : Nat → ClassId} (hB : so_B tbl s0 D vcl (tyl ca)) {σ : so_S} {mo : Nat} {ar : Nat → Nat} {R : Rf} (M : MoR ca σ mo ar R) (x : Int32) : mo_D l s0 D mo σ y_Mo_isMap b_Mo_isMap 2 (some .boolean) 0 [.int x] (fun v => v = some (.int (bI (is_M x)))) := by
  refine so_ofR hB (by decide) (Nat.le_of_ble_eq_true rfl) ?_
  intro p e s m below meth c ls S K E hr hlk P hS hl
  have hl : lv_has ls 2 [(0, .ref mo), (1, .int x)] := hl
  refine lv_iload_n S.1 S.2.1 d_Mo_isMap_0 rfl (lv_at hl 1 rfl) ?_
  refine lv_if_lt (tgt := 13) S.1 S.2.1 d_Mo_isMap_1 rfl (fun h1 => ?_) (fun h1 => ?_)
  · refine lv_iconst (v := 0) S.1 S.2.1 d_Mo_isMap_13 (by decide) ?_
    refine so_zretR S hr rfl hlk ?_ d_Mo_isMap_14
    unfold is_M; first | rw [if_pos h1]; rfl | rw [if_neg h1, if_pos h6]; rfl | rw [if_neg h1, if_neg h6]; rfl
  · refine lv_iload_n S.1 S.2.1 d_Mo_isMap_4 rfl (lv_at hl 1 rfl) ?_
    refine lv_iconst (v := 4) S.1 S.2.1 d_Mo_isMap_5 (by decide) ?_
    refine lv_icmp_gt (tgt := 13) S.1 S.2.1 d_Mo_isMap_6 rfl (fun h6 => ?_) (fun h6 => ?_)
    · refine lv_iconst (v := 0) S.1 S.2.1 d_Mo_isMap_13 (by decide) ?_
      refine so_zretR S hr rfl hlk ?_ d_Mo_isMap_14
      unfold is_M; first | rw [if_pos h1]; rfl | rw [if_neg h1, if_pos h6]; rfl | rw [if_neg h1, if_neg h6]; rfl
    · refine lv_iconst (v := 1) S.1 S.2.1 d_Mo_isMap_9 (by decide) ?_
      refine lv_goto (tgt := 14) S.1 S.2.1 d_Mo_isMap_10 rfl ?_
      refine so_zretR S hr rfl hlk ?_ d_Mo_isMap_14
      unfold is_M; first | rw [if_pos h1]; rfl | rw [if_neg h1, if_pos h6]; rfl | rw [if_neg h1, if_neg h6]; rfl
set_option maxHeartbeats 4000000 in
set_option maxRecDepth 100000 in
theorem c_Mo_hold (l : Launch) {s0 : State} {D : va_G} {ca : Nat → ClassId} (hB : so_B tbl s0 D vcl (tyl ca)) {σ : so_S} {mo : Nat} {ar : Nat → Nat} {R : Rf} (M : MoR ca σ mo ar R) (x : Int32) (hx : x < 0 ∨ ∃ j : Nat, j < 32 ∧ x = nI j) : mo_C l s0 D ca mo ar σ y_Mo_hold b_Mo_hold 2 none 0 [.int x] (fun v R1 => v = none ∧ ((x < 0 ∧ R1 = R) ∨ ∃ j : Nat, j < 32 ∧ x = nI j ∧ R1 = sbb R 6 j true)) := by
  refine so_of hB (by decide) (Nat.le_of_ble_eq_true rfl) ?_
  intro p e s m below meth c ls S K E hr hlk hnm P hS hl
  have hl : lv_has ls 2 [(0, .ref mo), (1, .int x)] := hl
  have F : fM σ σ := fM.rf
  refine lv_iload_n S.1 S.2.1 d_Mo_hold_0 rfl (lv_at hl 1 rfl) ?_
  refine lv_if_lt (tgt := 11) S.1 S.2.1 d_Mo_hold_1 rfl (fun h1 => ?_) (fun h1 => ?_)
  · refine so_vret S hr hlk P hS (Nat.le_refl _) (Nat.le_refl _) ⟨_, ?_, M, F⟩ d_Mo_hold_11
    first | exact ⟨rfl, Or.inr ⟨j, hj, rfl, rfl⟩⟩ | exact ⟨rfl, Or.inl ⟨h1, rfl⟩⟩
  · obtain ⟨j, hj, rfl⟩ := hx.resolve_left h1
    refine lv_aload_n S.1 S.2.1 d_Mo_hold_4 rfl (lv_at hl 0 rfl) ?_
    refine gf_Mo_26_Mo S K P M.1 rfl d_Mo_hold_5 ?_
    refine lv_iload_n S.1 S.2.1 d_Mo_hold_8 rfl (lv_at hl 1 rfl) ?_
    refine lv_iconst (v := 1) S.1 S.2.1 d_Mo_hold_9 (by decide) ?_
    refine mo_zast S K P hS M F 6 rfl j true rfl rfl (by show _ < 32; omega) d_Mo_hold_10 (fun σ H locs P hS M F => ?_)
    refine so_vret S hr hlk P hS (Nat.le_refl _) (Nat.le_refl _) ⟨_, ?_, M, F⟩ d_Mo_hold_11
    first | exact ⟨rfl, Or.inr ⟨j, hj, rfl, rfl⟩⟩ | exact ⟨rfl, Or.inl ⟨h1, rfl⟩⟩

/-! Heap. -/
def has_O (f : Nat → Option Nat) (x : Int32) : Bool := if x < 0 then false else if 32 ≤ x then false else (f x.toNatClampNeg).isSome
theorem has_neg {f : Nat → Option Nat} {x : Int32} (h : x < 0) : has_O f x = false := if_pos h
theorem has_big {f : Nat → Option Nat} {x : Int32} (h : 32 ≤ x) : has_O f x = false := by
  unfold has_O
  rw [if_pos h]
  split <;> rfl
theorem has_nI {f : Nat → Option Nat} {j : Nat} (h : j < 32) : has_O f (nI j) = (f j).isSome := by
  unfold has_O
  rw [if_neg (nI_pos (by omega)), if_neg (show ¬ (32 : Int32) ≤ nI j from nI_ge (b := 32) h (by decide)), nI_clamp (by omega)]
theorem i_nlt {x y : Int32} (h : ¬ x < y) : y ≤ x := by rw [Int32.lt_iff_toInt_lt] at h; rw [Int32.le_iff_toInt_le]; omega
theorem i_nle {x y : Int32} (h : ¬ x ≤ y) : y < x := by rw [Int32.le_iff_toInt_le] at h; rw [Int32.lt_iff_toInt_lt]; omega
theorem i_lt_nle {x y : Int32} (h : x < y) : ¬ y ≤ x := by rw [Int32.lt_iff_toInt_lt] at h; rw [Int32.le_iff_toInt_le]; omega
theorem i_le_nlt {x y : Int32} (h : x ≤ y) : ¬ y < x := by rw [Int32.le_iff_toInt_le] at h; rw [Int32.lt_iff_toInt_lt]; omega
set_option maxHeartbeats 4000000 in
set_option maxRecDepth 100000 in
theorem c_He_has (l : Launch) {s0 : State} {D : va_G} {ca : Nat → ClassId} (hB : so_B tbl s0 D vcl (tyl ca)) {σ : so_S} {o th ho t1 t2 : Nat} {n cn : Int32} {f : Nat → Option Nat} (h1a : σ o = some (t1, oHe th ho n cn)) (h2 : σ th = some (t2, aR ca 3 32 f)) (x : Int32) : so_D l s0 D vcl y_He_has b_He_has 2 (some .boolean) 0 [.ref o, .int x] σ (fun v => v = some (.int (bI (has_O f x)))) := by
  refine so_ofR hB (by decide) (Nat.le_of_ble_eq_true rfl) ?_
  intro p e s m below meth c ls S K E hr hlk P hS hl
  have hl : lv_has ls 2 [(0, .ref o), (1, .int x)] := hl
  refine lv_iload_n S.1 S.2.1 d_He_has_0 rfl (lv_at hl 1 rfl) ?_
  refine lv_if_lt (tgt := 23) S.1 S.2.1 d_He_has_1 rfl (fun h1 => ?_) (fun h1 => ?_)
  · refine lv_iconst (v := 0) S.1 S.2.1 d_He_has_23 (by decide) ?_
    refine so_zretR S hr rfl hlk ?_ d_He_has_24
    first | rw [has_neg h1]; rfl | rw [has_big h7]; rfl | rw [has_nI hj, h16]; rfl
  · refine lv_iload_n S.1 S.2.1 d_He_has_4 rfl (lv_at hl 1 rfl) ?_
    refine lv_bipush (v := 32) S.1 S.2.1 d_He_has_5 (by decide) ?_
    refine lv_icmp_ge (tgt := 23) S.1 S.2.1 d_He_has_7 rfl (fun h7 => ?_) (fun h7 => ?_)
    · refine lv_iconst (v := 0) S.1 S.2.1 d_He_has_23 (by decide) ?_
      refine so_zretR S hr rfl hlk ?_ d_He_has_24
      first | rw [has_neg h1]; rfl | rw [has_big h7]; rfl | rw [has_nI hj, h16]; rfl
    · refine lv_aload_n S.1 S.2.1 d_He_has_10 rfl (lv_at hl 0 rfl) ?_
      refine gf_He_11_He S K P (by assumption) rfl d_He_has_11 ?_
      refine lv_iload_n S.1 S.2.1 d_He_has_14 rfl (lv_at hl 1 rfl) ?_
      obtain ⟨j, hj, rfl⟩ := ix_in (n := 32) (by decide) rfl h1 h7
      refine so_aaldN S K P h2 3 rfl hj (by decide) d_He_has_15 ?_
      refine lv_ifnullQ (tgt := 23) S.1 S.2.1 d_He_has_16 rfl (fun h16 => ?_) (fun q h16 => ?_)
      · refine lv_iconst (v := 0) S.1 S.2.1 d_He_has_23 (by decide) ?_
        refine so_zretR S hr rfl hlk ?_ d_He_has_24
        first | rw [has_neg h1]; rfl | rw [has_big h7]; rfl | rw [has_nI hj, h16]; rfl
      · refine lv_iconst (v := 1) S.1 S.2.1 d_He_has_19 (by decide) ?_
        refine lv_goto (tgt := 24) S.1 S.2.1 d_He_has_20 rfl ?_
        refine so_zretR S hr rfl hlk ?_ d_He_has_24
        first | rw [has_neg h1]; rfl | rw [has_big h7]; rfl | rw [has_nI hj, h16]; rfl

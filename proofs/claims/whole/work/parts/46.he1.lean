/-! Heap: what reads. -/
section HE2
variable {p : Program} {l : Launch} {e : Env} {Ro : Room} {s : State} {m : MethodId} {args : Array Value} {below : List Frame} {meth : Method} {c : Code} {H H0 : Heap} {locs : List Loc} {cells slots : Nat} {Q : State → Prop}
variable {cc : ByteArray} {pc nL N0 : Nat} {ls : Array Slot} {rest : List Value} {D : va_G} {σ σ0 : so_S} {ca : Nat → ClassId} {he th ho : Nat} {X : Hx}
theorem he_after {mc ms : Nat} {s0 : State} {st0 : List Value} {a : Array Value} {post : Option Value → Hx → Prop} (F : fH σ0 σ) (hr : va_Run p l e Ro s m args below meth c H locs cells slots mc ms (F0 m pc ls st0) rest (so_Q s0 D vcl (fun v σ1 => ∃ X1, post v X1 ∧ HeR ca σ1 he th ho X1 ∧ fH σ σ1) a) (so_A s0.heap.size)) (hS : va_S (so_A s0.heap.size) H0 H locs)
    (kk : ∀ (v : Option Value) (X1 : Hx) (σ1 : so_S) (H1 : Heap) (locs1 : List Loc), post v X1 → so_P D vcl s0.heap.size σ1 H1 → va_S (so_A s0.heap.size) H0 H1 locs1 → HeR ca σ1 he th ho X1 → fH σ0 σ1 → W p l e Ro s m args below meth c H1 locs1 (cells + mc) (slots + ms) Q (F0 m (pc + 3) ls (v.toList ++ rest))) : W p l e Ro s m args below meth c H locs cells slots Q (F0 m pc ls st0) :=
  so_call hr hS (fun v σ1 H1 locs1 ⟨X1, h1, h2, h3⟩ P1 hS1 => kk v X1 σ1 H1 locs1 h1 P1 hS1 h2 (F.tr h3))
end HE2
abbrev he_C (l : Launch) (s0 : State) (D : va_G) (ca : Nat → ClassId) (he th ho : Nat) (σ : so_S) (y : MethodName) (b : ByteArray) (n : Nat) (r : Option FieldType) (k : Nat) (av : List Value) (post : Option Value → Hx → Prop) : Prop :=
  so_C l s0 D vcl y b n r k 0 0 (.ref he :: av) σ (fun v σ1 => ∃ X1, post v X1 ∧ HeR ca σ1 he th ho X1 ∧ fH σ σ1)
def Hx.al (X : Hx) (i : Nat) : Bool := (X.ad i).isSome
theorem Hx.f_al (X : Hx) (i : Nat) : (X.f i).isSome = X.al i := by
  unfold Hx.f Hx.al
  cases X.ad i <;> rfl
theorem Hx.al_f {X : Hx} {i : Nat} (h : X.f i = none) : X.al i = false := by rw [← X.f_al, h]; rfl
theorem Hx.al_t {X : Hx} {i q : Nat} (h : X.f i = some q) : X.al i = true := by rw [← X.f_al, h]; rfl
theorem Hx.al_ad {X : Hx} {i : Nat} (h : X.al i = true) : ∃ a, X.ad i = some a := Option.isSome_iff_exists.mp h
theorem has_c {f : Nat → Option Nat} {x : Int32} (h : has_O f x = true) : ∃ j : Nat, j < 32 ∧ x = nI j ∧ (f j).isSome = true := by
  unfold has_O at h
  split at h
  · cases h
  · rename_i h0
    split at h
    · cases h
    · rename_i h1
      obtain ⟨j, hj, rfl⟩ := ix_in (n := 32) (M := 32) (by decide) rfl h0 h1
      rw [nI_clamp (by omega)] at h
      exact ⟨j, hj, rfl, h⟩
def hI (X : Hx) (x : Int32) : Bool := has_O X.f x && X.hd x.toNatClampNeg
def lf_O (al : Nat → Bool) : Nat → Nat → Int32
  | 0, _ => -1
  | n + 1, i => if al i = true then lf_O al n (i + 1) else nI i
set_option maxHeartbeats 400000 in
set_option maxRecDepth 100000 in
theorem c_He_living (l : Launch) {s0 : State} {D : va_G} {ca : Nat → ClassId} (hB : so_B tbl s0 D vcl (tyl ca)) {σ : so_S} {he th ho : Nat} {X : Hx} (M : HeR ca σ he th ho X)  : so_D l s0 D vcl y_He_living b_He_living 3 (some .int) 0 (.ref he :: []) σ (fun v => v = some (.int (nI (cb X.al 32)))) := by
  refine so_ofR hB (by decide) (Nat.le_of_ble_eq_true rfl) ?_
  intro p e s m below meth c ls S K E hr hlk P hS hl
  have hl : lv_has ls 3 [(0, .ref he)] := hl
  refine lv_iconst (v := 0) S.1 S.2.1 d_He_living_0 (by decide) ?_
  refine lv_istore_n S.1 S.2.1 d_He_living_1 rfl hl (by decide) rfl (fun ls hl => ?_)
  refine lv_iconst (v := 0) S.1 S.2.1 d_He_living_2 (by decide) ?_
  refine lv_istore_n S.1 S.2.1 d_He_living_3 rfl hl (by decide) rfl (fun ls hl => ?_)
  refine so_lpR (Wf := fun ls (_ : Nat) => W p l e _ s m _ below meth c _ _ _ _ _ (F0 m 4 ls [])) (fun n1 ls i => n1 = 32 - i ∧ i ≤ 32 ∧ lv_has ls 3 [(2, .int (nI i)), (1, .int (nI (cb X.al i))), (0, .ref he)]) ?_ _ ls 0 ⟨rfl, Nat.zero_le _, hl⟩
  clear hl
  intro n1 ls i ⟨hn1, hi1, hl⟩ ih
  refine lv_iload_n S.1 S.2.1 d_He_living_4 rfl (lv_at hl 0 rfl) ?_
  refine lv_bipush (v := 32) S.1 S.2.1 d_He_living_5 (by decide) ?_
  refine lv_icmp_ge (tgt := 28) S.1 S.2.1 d_He_living_7 rfl (fun h7 => ?_) (fun h7 => ?_)
  · refine lv_iload_n S.1 S.2.1 d_He_living_28 rfl (lv_at hl 1 rfl) ?_
    refine so_iretR S hr hlk ?_ d_He_living_29
    have hi32 : i = 32 := by
      have := (nI_leI (a := 32) (by decide) (by omega)).mp h7
      omega
    rw [hi32]
  · have hlt : i < 32 := Nat.not_le.mp fun q => h7 (nI_le (a := 32) q (by omega))
    refine lv_aload_n S.1 S.2.1 d_He_living_10 rfl (lv_at hl 2 rfl) ?_
    refine gf_He_11_He S K P M.1 rfl d_He_living_11 ?_
    refine lv_iload_n S.1 S.2.1 d_He_living_14 rfl (lv_at hl 0 rfl) ?_
    refine so_aaldN S K P M.2.1 3 rfl hlt (by decide) d_He_living_15 ?_
    refine lv_ifnullQ (tgt := 22) S.1 S.2.1 d_He_living_16 rfl (fun h16 => ?_) (fun q h16 => ?_)
    · refine lv_iinc (k := 0) S.1 S.2.1 d_He_living_22 hl rfl rfl (by decide) rfl (fun ls hl => ?_)
      refine lv_goto (tgt := 4) S.1 S.2.1 d_He_living_25 rfl ?_
      rw [nI_a] at hl
      have hoi : X.al i = false := Hx.al_f h16
      have e9 : cb X.al (i + 1) = cb X.al i + 0 := by
        rw [show cb X.al (i + 1) = cb X.al i + if X.al i = true then 1 else 0 from rfl, hoi]; rfl
      refine ih (32 - (i + 1)) ls (i + 1) (by omega) ⟨rfl, by omega, ?_⟩
      rw [e9]
      exact lv_sub hl [0, 1, 2] rfl
    · refine lv_iinc (k := 1) S.1 S.2.1 d_He_living_19 hl rfl rfl (by decide) rfl (fun ls hl => ?_)
      refine lv_iinc (k := 1) S.1 S.2.1 d_He_living_22 hl rfl rfl (by decide) rfl (fun ls hl => ?_)
      refine lv_goto (tgt := 4) S.1 S.2.1 d_He_living_25 rfl ?_
      rw [nI_a] at hl
      rw [nI_a] at hl
      have hoi : X.al i = true := Hx.al_t h16
      have e9 : cb X.al (i + 1) = cb X.al i + 1 := by
        rw [show cb X.al (i + 1) = cb X.al i + if X.al i = true then 1 else 0 from rfl, hoi]; rfl
      refine ih (32 - (i + 1)) ls (i + 1) (by omega) ⟨rfl, by omega, ?_⟩
      rw [e9]
      exact lv_sub hl [0, 1, 2] rfl
set_option maxHeartbeats 400000 in
set_option maxRecDepth 100000 in
theorem c_He_lowestFree (l : Launch) {s0 : State} {D : va_G} {ca : Nat → ClassId} (hB : so_B tbl s0 D vcl (tyl ca)) {σ : so_S} {he th ho : Nat} {X : Hx} (M : HeR ca σ he th ho X)  : so_D l s0 D vcl y_He_lowestFree b_He_lowestFree 2 (some .int) 0 (.ref he :: []) σ (fun v => ((∀ j, j < 32 → X.al j = true) ∧ v = some (.int (-1))) ∨ ∃ i, isFr X.al i ∧ v = some (.int (nI i))) := by
  refine so_ofR hB (by decide) (Nat.le_of_ble_eq_true rfl) ?_
  intro p e s m below meth c ls S K E hr hlk P hS hl
  have hl : lv_has ls 2 [(0, .ref he)] := hl
  refine lv_iconst (v := 0) S.1 S.2.1 d_He_lowestFree_0 (by decide) ?_
  refine lv_istore_n S.1 S.2.1 d_He_lowestFree_1 rfl hl (by decide) rfl (fun ls hl => ?_)
  refine so_lpR (Wf := fun ls (_ : Nat) => W p l e _ s m _ below meth c _ _ _ _ _ (F0 m 2 ls [])) (fun n1 ls i => n1 = 32 - i ∧ i ≤ 32 ∧ (∀ j, j < i → X.al j = true) ∧ lv_has ls 2 [(1, .int (nI i)), (0, .ref he)]) ?_ _ ls 0 ⟨rfl, Nat.zero_le _, fun j hj => absurd hj (Nat.not_lt_zero _), hl⟩
  clear hl
  intro n1 ls i ⟨hn1, hi1, hall, hl⟩ ih
  refine lv_iload_n S.1 S.2.1 d_He_lowestFree_2 rfl (lv_at hl 0 rfl) ?_
  refine lv_bipush (v := 32) S.1 S.2.1 d_He_lowestFree_3 (by decide) ?_
  refine lv_icmp_ge (tgt := 25) S.1 S.2.1 d_He_lowestFree_5 rfl (fun h5 => ?_) (fun h5 => ?_)
  · refine lv_iconst (v := (-1)) S.1 S.2.1 d_He_lowestFree_25 (by decide) ?_
    refine so_iretR S hr hlk ?_ d_He_lowestFree_26
    refine Or.inl ⟨fun j hj => hall j ?_, rfl⟩
    have := (nI_leI (a := 32) (by decide) (by omega)).mp h5
    omega
  · have hlt : i < 32 := Nat.not_le.mp fun q => h5 (nI_le (a := 32) q (by omega))
    refine lv_aload_n S.1 S.2.1 d_He_lowestFree_8 rfl (lv_at hl 1 rfl) ?_
    refine gf_He_11_He S K P M.1 rfl d_He_lowestFree_9 ?_
    refine lv_iload_n S.1 S.2.1 d_He_lowestFree_12 rfl (lv_at hl 0 rfl) ?_
    refine so_aaldN S K P M.2.1 3 rfl hlt (by decide) d_He_lowestFree_13 ?_
    refine lv_ifnonnullQ (tgt := 19) S.1 S.2.1 d_He_lowestFree_14 rfl (fun q h14 => ?_) (fun h14 => ?_)
    · refine lv_iinc (k := 0) S.1 S.2.1 d_He_lowestFree_19 hl rfl rfl (by decide) rfl (fun ls hl => ?_)
      refine lv_goto (tgt := 2) S.1 S.2.1 d_He_lowestFree_22 rfl ?_
      rw [nI_a] at hl
      refine ih (32 - (i + 1)) ls (i + 1) (by omega) ⟨rfl, by omega, fun j hj => ?_, hl⟩
      rcases Nat.lt_succ_iff_lt_or_eq.mp hj with h | h
      · exact hall j h
      · rw [h]; exact Hx.al_t h14
    · refine lv_iload_n S.1 S.2.1 d_He_lowestFree_17 rfl (lv_at hl 0 rfl) ?_
      refine so_iretR S hr hlk ?_ d_He_lowestFree_18
      exact Or.inr ⟨i, ⟨hlt, Hx.al_f h14, hall⟩, rfl⟩
set_option maxHeartbeats 400000 in
set_option maxRecDepth 100000 in
theorem c_He_isHeld (l : Launch) {s0 : State} {D : va_G} {ca : Nat → ClassId} (hB : so_B tbl s0 D vcl (tyl ca)) {σ : so_S} {he th ho : Nat} {X : Hx} (M : HeR ca σ he th ho X) (x : Int32) : so_D l s0 D vcl y_He_isHeld b_He_isHeld 2 (some .boolean) 1 (.ref he :: [.int x]) σ (fun v => v = some (.int (bI (hI X x)))) := by
  refine so_ofR hB (by decide) (Nat.le_of_ble_eq_true rfl) ?_
  intro p e s m below meth c ls S K E hr hlk P hS hl
  have hl : lv_has ls 2 [(0, .ref he), (1, .int x)] := hl
  refine lv_aload_n S.1 S.2.1 d_He_isHeld_0 rfl (lv_at hl 0 rfl) ?_
  refine lv_iload_n S.1 S.2.1 d_He_isHeld_1 rfl (lv_at hl 1 rfl) ?_
  refine so_callR (cv_He_21_He S hB K E P hS M.1 (c_He_has l hB M.1 M.2.1 x) rfl (by decide) (Nat.le_refl _) (Nat.le_refl _) hl.1 rfl (Nat.le_of_ble_eq_true rfl) d_He_isHeld_2) (fun v hv => ?_)
  subst hv
  refine lv_if_eq (tgt := 24) S.1 S.2.1 d_He_isHeld_5 rfl (fun h5 => ?_) (fun h5 => ?_)
  · refine lv_iconst (v := 0) S.1 S.2.1 d_He_isHeld_24 (by decide) ?_
    refine so_zretR S hr rfl hlk ?_ d_He_isHeld_25
    unfold hI; rw [(bI_0 _).mp h5]; rfl
  · have hx : has_O X.f x = true := bI_1 h5
    obtain ⟨j, hj, rfl, hsj⟩ := has_c hx
    rw [X.f_al] at hsj
    obtain ⟨a, ha⟩ := Hx.al_ad hsj
    have hta := M.2.2.2 j a hj ha
    refine lv_aload_n S.1 S.2.1 d_He_isHeld_8 rfl (lv_at hl 0 rfl) ?_
    refine gf_He_11_He S K P M.1 rfl d_He_isHeld_9 ?_
    refine lv_iload_n S.1 S.2.1 d_He_isHeld_12 rfl (lv_at hl 1 rfl) ?_
    refine so_aaldN S K P M.2.1 3 rfl hj (by decide) d_He_isHeld_13 ?_
    rw [show X.f j = some a.1 by unfold Hx.f; rw [ha]; rfl]
    refine gf_He_25_Th S K P hta.1 rfl d_He_isHeld_14 ?_
    refine lv_if_eq (tgt := 24) S.1 S.2.1 d_He_isHeld_17 rfl (fun h17 => ?_) (fun h17 => ?_)
    · refine lv_iconst (v := 0) S.1 S.2.1 d_He_isHeld_24 (by decide) ?_
      refine so_zretR S hr rfl hlk ?_ d_He_isHeld_25
      unfold hI; rw [hx, nI_clamp (by omega), show X.hd j = false from (bI_0 _).mp h17]; rfl
    · refine lv_iconst (v := 1) S.1 S.2.1 d_He_isHeld_20 (by decide) ?_
      refine lv_goto (tgt := 25) S.1 S.2.1 d_He_isHeld_21 rfl ?_
      refine so_zretR S hr rfl hlk ?_ d_He_isHeld_25
      unfold hI; rw [hx, nI_clamp (by omega), show X.hd j = true from bI_1 h17]; rfl

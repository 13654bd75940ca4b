/-! ArrayList: add, insert, remove, as a list of addresses. -/
def agT (P : Nat → Prop) (σ σ1 : so_S) : Prop := ∀ (q : Nat) (x : so_E), σ q = some x → P x.1 → σ1 q = some x
theorem fT.ag {P Q : Nat → Prop} {σ σ1 : so_S} (h : fT Q σ σ1) (hd : ∀ t, P t → ¬ Q t) : agT P σ σ1 := fun q x hq hx => h q x hq (hd _ hx)
theorem agT.sub {P Q : Nat → Prop} {σ σ1 : so_S} (h : agT Q σ σ1) (hd : ∀ t, P t → Q t) : agT P σ σ1 := fun q x hq hx => h q x hq (hd _ hx)
/-- the list al holds the addresses L -/
def ALP (ca : Nat → ClassId) (DE : Nat) (σ : so_S) (al tg tr : Nat) (L : List Nat) : Prop := ∃ md ed cap f, ALQ ca DE σ al tg tr md ed L.length cap f ∧ ∀ (j : Nat) (a : Nat), L[j]? = some a → f j = some a
theorem ALQ.fr {ca : Nat → ClassId} {DE : Nat} {σ σ1 : so_S} {al tg tr ed n cap : Nat} {md : Int32} {f : Nat → Option Nat} (h : ALQ ca DE σ al tg tr md ed n cap f) (hg : agT (tL tg tr) σ σ1) : ALQ ca DE σ1 al tg tr md ed n cap f := by
  refine ⟨hg _ _ h.1 (Or.inl rfl), ?_⟩
  rcases h.2 with h2 | ⟨h2, h3⟩
  · exact Or.inl h2
  · exact Or.inr ⟨hg _ _ h2 (Or.inr rfl), h3⟩
theorem ALP.fr {ca : Nat → ClassId} {DE : Nat} {σ σ1 : so_S} {al tg tr : Nat} {L : List Nat} (h : ALP ca DE σ al tg tr L) (hg : agT (tL tg tr) σ σ1) : ALP ca DE σ1 al tg tr L := by
  obtain ⟨md, ed, cap, f, h1, h2⟩ := h
  exact ⟨md, ed, cap, f, h1.fr hg, h2⟩
theorem ALP.row {ca : Nat → ClassId} {DE : Nat} {σ : so_S} {al tg tr : Nat} {L : List Nat} (h : ALP ca DE σ al tg tr L) (h0 : 0 < L.length) : ∃ md ed cap f, σ al = some (tg, oAL md ed (nI L.length)) ∧ σ ed = some (tr, aR ca 6 cap f) ∧ L.length ≤ cap ∧ 1 ≤ cap ∧ cap ≤ 64 ∧ ∀ (j : Nat) (a : Nat), L[j]? = some a → f j = some a := by
  obtain ⟨md, ed, cap, f, h1, h2⟩ := h
  rcases h1.2 with ⟨_, h3, _⟩ | ⟨h3, h4⟩
  · omega
  · exact ⟨md, ed, cap, f, h1.1, h3, h4.1, h4.2.1, h4.2.2, h2⟩
theorem lk_E {σ : so_S} {L : List Nat} {f : Nat → Option Nat} (hf : ∀ (j : Nat) (a : Nat), L[j]? = some a → f j = some a) (hE : ∀ y ∈ L, isE σ y) : ∀ i y, i < L.length → f i = some y → isE σ y := by
  intro i y hi hy
  have h1 := hf i L[i] (List.getElem?_eq_getElem hi)
  rw [hy] at h1
  cases h1
  exact hE _ (List.getElem_mem hi)
set_option maxHeartbeats 400000 in
set_option maxRecDepth 100000 in
theorem c_AL_add2 (l : Launch) {s0 : State} {D : va_G} {ca : Nat → ClassId} (hB : so_B tbl s0 D vcl (tyl ca)) {σ : so_S} {DE mi : Nat} (J : jX s0 D ca DE mi) {al tg ed tr : Nat} {md : Int32} {n cap : Nat} {f : Nat → Option Nat} (htg : tg ≠ tr) (htl : tg < 1000) (htr : tr < 1000) (M : ALQ ca DE σ al tg tr md ed n cap f) (hn : n < 40) (hE : ∀ i y, i < n → f i = some y → isE σ y) (a : Nat) (ha : isE σ a) : so_C l s0 D vcl y_AL_add2 b_AL_add2 4 none 5 1 64 [.ref al, .ref a, .ref ed, .int (nI n)] σ (fun v σ1 => v = none ∧ (∃ ed1 cap1 f1, ALQ ca DE σ1 al tg tr md ed1 (n + 1) cap1 f1 ∧ (∀ i, i < n → f1 i = f i) ∧ f1 n = some a) ∧ fT (tL tg tr) σ σ1) := by
  refine so_of hB (by decide) (Nat.le_of_ble_eq_true rfl) ?_
  intro p e s m below meth c ls S K E hr hlk hnm P hS hl
  have hl : lv_has ls 4 [(0, .ref al), (1, .ref a), (2, .ref ed), (3, .int (nI n))] := hl
  have tail : ∀ (ls : Array Slot) (H : Heap) (locs : List Loc) (σ2 : so_S) (ed2 cap2 : Nat) (f2 : Nat → Option Nat) (cells slots : Nat), lv_has ls 4 [(2, .ref ed2), (0, .ref al), (1, .ref a), (3, .int (nI n))] ∨ lv_has ls 4 [(0, .ref al), (1, .ref a), (2, .ref ed2), (3, .int (nI n))] → cells ≤ 1 → slots ≤ 64 → so_P D vcl s0.heap.size σ2 H → va_S (so_A s0.heap.size) s.heap H locs → σ2 al = some (tg, oAL md ed2 (nI n)) → σ2 ed2 = some (tr, aR ca 6 cap2 f2) → n < cap2 → cap2 ≤ 64 → (∀ i, i < n → f2 i = f i) → fT (tL tg tr) σ σ2 → W p l e (so_rm 5 1 64) s m #[.ref al, .ref a, .ref ed, .int (nI n)] below meth c H locs cells slots (MQ below (so_Q s0 D vcl (fun v σ1 => v = none ∧ (∃ ed1 cap1 f1, ALQ ca DE σ1 al tg tr md ed1 (n + 1) cap1 f1 ∧ (∀ i, i < n → f1 i = f i) ∧ f1 n = some a) ∧ fT (tL tg tr) σ σ1)) #[.ref al, .ref a, .ref ed, .int (nI n)] s 1 64 (so_A s0.heap.size)) (F0 m 11 ls []) := by
    intro ls H locs σ2 ed2 cap2 f2 cells slots hl hcl hsl P hS g1 g2 hc1 hc2 g3 Fr
    have hl2 : ls[0]? = some (.val (.ref al)) ∧ ls[1]? = some (.val (.ref a)) ∧ ls[2]? = some (.val (.ref ed2)) ∧ ls[3]? = some (.val (.int (nI n))) := by
      rcases hl with hl | hl
      · exact ⟨lv_at hl 1 rfl, lv_at hl 2 rfl, lv_at hl 0 rfl, lv_at hl 3 rfl⟩
      · exact ⟨lv_at hl 0 rfl, lv_at hl 1 rfl, lv_at hl 2 rfl, lv_at hl 3 rfl⟩
    have hne : al ≠ ed2 := so_ne g1 g2 htg
    refine lv_aload_n S.1 S.2.1 d_AL_add2_11 rfl hl2.2.2.1 ?_
    refine lv_iload_n S.1 S.2.1 d_AL_add2_12 rfl hl2.2.2.2 ?_
    refine lv_aload_n S.1 S.2.1 d_AL_add2_13 rfl hl2.2.1 ?_
    refine so_aastN S K P hS g2 6 rfl (r := some a) (fun v h => by cases h; exact (ha.fr Fr htl htr).ast (va_Nw.of rfl (S.2.2.2.2 _ wd_1084))) hc1 (by omega) d_AL_add2_14 (fun H locs P hS => ?_)
    have g1' : so_up σ2 ed2 (tr, aR ca 6 cap2 (va_up f2 n (some a))) al = some (tg, oAL md ed2 (nI n)) := by rw [so_un hne]; exact g1
    refine lv_aload_n S.1 S.2.1 d_AL_add2_15 rfl hl2.1 ?_
    refine lv_iload_n S.1 S.2.1 d_AL_add2_16 rfl hl2.2.2.2 ?_
    refine lv_iconst (v := 1) S.1 S.2.1 d_AL_add2_17 (by decide) ?_
    refine lv_iadd S.1 S.2.1 d_AL_add2_18 ?_
    rw [nI_1]
    refine pf_AL_48_AL S K P hS g1' (Nat.le_of_ble_eq_true rfl) rfl rfl d_AL_add2_19 (fun H locs P hS => ?_)
    exact so_vret S hr hlk P hS hcl hsl ⟨rfl, ⟨ed2, cap2, va_up f2 n (some a), ⟨so_us, Or.inr ⟨by rw [so_un (Ne.symm hne)]; exact so_us, by omega, by omega, hc2⟩⟩, fun i hi => by rw [va_up_ne _ _ (by omega)]; exact g3 i hi, va_up_self _ _ _⟩, (Fr.up g2 (Or.inr rfl)).up g1' (Or.inl rfl)⟩ d_AL_add2_22
  refine lv_iload_n S.1 S.2.1 d_AL_add2_0 rfl (lv_at hl 3 rfl) ?_
  refine lv_aload_n S.1 S.2.1 d_AL_add2_1 rfl (lv_at hl 2 rfl) ?_
  refine M.alen J S K E P hS d_AL_add2_2 ?_
  refine lv_icmp_ne (tgt := 11) S.1 S.2.1 d_AL_add2_3 rfl (fun h3 => ?_) (fun h3 => ?_)
  · have hnc : n ≠ cap := fun z => h3 (congrArg nI z)
    rcases M.2 with ⟨_, h4, h5⟩ | ⟨h4, h5, h6, h7⟩
    · omega
    · exact tail ls s.heap [] σ ed cap f 0 0 (Or.inr hl) (by omega) (by omega) P hS M.1 h4 (by omega) h7 (fun _ _ => rfl) fT.rf
  · refine lv_aload_n S.1 S.2.1 d_AL_add2_6 rfl (lv_at hl 0 rfl) ?_
    have hc64 : cap ≤ 64 := by rcases M.2 with ⟨_, _, h5⟩ | ⟨_, _, _, h7⟩ <;> omega
    have hnc : n = cap := by
      exact (nI_eq (by omega) (by omega)).mp h3
    refine so_call (cv_AL_129_AL S hB K E P hS M.1 (c_AL_grow l hB J htg M hnc hn hE) rfl (by decide) (Nat.le_refl _) (Nat.le_refl _) hl.1 rfl (Nat.le_of_ble_eq_true rfl) d_AL_add2_7) hS (fun v σ1 H locs hv P hS => ?_)
    obtain ⟨q, cap1, f1, rfl, k1, k2, k3, k4, k5, k6⟩ := hv
    refine lv_astore_n S.1 S.2.1 d_AL_add2_10 rfl hl (by decide) rfl (fun ls hl => ?_)
    exact tail ls H locs σ1 q cap1 f1 _ _ (Or.inl hl) (Nat.le_refl _) (Nat.le_refl _) P hS k1 k2 k3 k4 k5 k6
set_option maxHeartbeats 400000 in
set_option maxRecDepth 100000 in
theorem c_AL_add (l : Launch) {s0 : State} {D : va_G} {ca : Nat → ClassId} (hB : so_B tbl s0 D vcl (tyl ca)) {σ : so_S} {DE mi : Nat} (J : jX s0 D ca DE mi) {al tg tr : Nat} {L : List Nat} (htg : tg ≠ tr) (htl : tg < 1000) (htr : tr < 1000) (M : ALP ca DE σ al tg tr L) (hn : L.length < 40) (hE : ∀ y ∈ L, isE σ y) (a : Nat) (ha : isE σ a) : so_C l s0 D vcl y_AL_add b_AL_add 2 (some .boolean) 6 1 64 [.ref al, .ref a] σ (fun v σ1 => v = some (.int 1) ∧ ALP ca DE σ1 al tg tr (L ++ [a]) ∧ fT (tL tg tr) σ σ1) := by
  refine so_of hB (by decide) (Nat.le_of_ble_eq_true rfl) ?_
  intro p e s m below meth c ls S K E hr hlk hnm P hS hl
  have hl : lv_has ls 2 [(0, .ref al), (1, .ref a)] := hl
  obtain ⟨md, ed, cap, f, M, hf⟩ := M
  refine lv_aload_n S.1 S.2.1 d_AL_add_0 rfl (lv_at hl 0 rfl) ?_
  refine lv_dup S.1 S.2.1 d_AL_add_1 rfl ?_
  refine gf_AL_63_AL S K P M.1 rfl d_AL_add_2 ?_
  refine lv_iconst (v := 1) S.1 S.2.1 d_AL_add_5 (by decide) ?_
  refine lv_iadd S.1 S.2.1 d_AL_add_6 ?_
  refine pf_AL_63_AL S K P hS M.1 (Nat.le_of_ble_eq_true rfl) rfl rfl d_AL_add_7 (fun H locs P hS => ?_)
  obtain ⟨σ2, hσ2⟩ : ∃ q, q = so_up σ al (tg, oAL (md + 1) ed (nI L.length)) := ⟨_, rfl⟩
  have P : so_P D vcl s0.heap.size σ2 H := by rw [hσ2]; exact P
  have Fr : fT (tL tg tr) σ σ2 := by rw [hσ2]; exact fT.rf.up M.1 (Or.inl rfl)
  have M2 : ALQ ca DE σ2 al tg tr (md + 1) ed L.length cap f := by
    rw [hσ2]
    refine ⟨so_us, ?_⟩
    rcases M.2 with h | ⟨h, h1⟩
    · exact Or.inl h
    · exact Or.inr ⟨by rw [so_un (Ne.symm (so_ne M.1 h htg))]; exact h, h1⟩
  refine lv_aload_n S.1 S.2.1 d_AL_add_10 rfl (lv_at hl 0 rfl) ?_
  refine lv_aload_n S.1 S.2.1 d_AL_add_11 rfl (lv_at hl 1 rfl) ?_
  refine lv_aload_n S.1 S.2.1 d_AL_add_12 rfl (lv_at hl 0 rfl) ?_
  refine gf_AL_9_AL S K P M2.1 rfl d_AL_add_13 ?_
  refine lv_aload_n S.1 S.2.1 d_AL_add_16 rfl (lv_at hl 0 rfl) ?_
  refine gf_AL_48_AL S K P M2.1 rfl d_AL_add_17 ?_
  refine so_call (cv_AL_131_AL S hB K E P hS M2.1 (c_AL_add2 l hB J htg htl htr M2 hn (fun i y hi hy => (lk_E hf hE i y hi hy).fr Fr htl htr) a (ha.fr Fr htl htr)) rfl (by decide) (Nat.le_refl _) (Nat.le_refl _) hl.1 rfl (Nat.le_of_ble_eq_true rfl) d_AL_add_20) hS (fun v σ1 H locs hv P hS => ?_)
  obtain ⟨rfl, ⟨ed1, cap1, f1, M1, e1, e2⟩, Fr1⟩ := hv
  refine lv_iconst (v := 1) S.1 S.2.1 d_AL_add_23 (by decide) ?_
  refine so_zret S hr rfl hlk P hS (Nat.le_refl _) (Nat.le_refl _) ⟨rfl, ⟨md + 1, ed1, cap1, f1, by rw [List.length_append]; exact M1, fun j b hb => ?_⟩, Fr.tr Fr1⟩ d_AL_add_24
  rcases Nat.lt_or_ge j L.length with hj | hj
  · rw [List.getElem?_append_left hj] at hb
    rw [e1 j hj]
    exact hf j b hb
  · rw [List.getElem?_append_right hj] at hb
    have hz : j - L.length = 0 := by
      have := (List.getElem?_eq_some_iff.mp hb).1
      simp at this
      omega
    rw [hz] at hb
    cases hb
    rw [show j = L.length by omega]
    exact e2
set_option maxHeartbeats 400000 in
set_option maxRecDepth 100000 in
theorem c_AL_add3 (l : Launch) {s0 : State} {D : va_G} {ca : Nat → ClassId} (hB : so_B tbl s0 D vcl (tyl ca)) {σ : so_S} {DE mi : Nat} (J : jX s0 D ca DE mi) {al tg tr : Nat} {L : List Nat} (htg : tg ≠ tr) (htl : tg < 1000) (htr : tr < 1000) (M : ALP ca DE σ al tg tr L) (hn : L.length < 40) (hE : ∀ y ∈ L, isE σ y) (a : Nat) (ha : isE σ a) (j : Nat) (hj : j ≤ L.length) : so_C l s0 D vcl y_AL_add3 b_AL_add3 5 none 5 1 64 [.ref al, .int (nI j), .ref a] σ (fun v σ1 => v = none ∧ ALP ca DE σ1 al tg tr (L.insertIdx j a) ∧ fT (tL tg tr) σ σ1) := by
  refine so_of hB (by decide) (Nat.le_of_ble_eq_true rfl) ?_
  intro p e s m below meth c ls S K E hr hlk hnm P hS hl
  have hl : lv_has ls 5 [(0, .ref al), (1, .int (nI j)), (2, .ref a)] := hl
  obtain ⟨md, ed, cap, f, M, hf⟩ := M
  have tail : ∀ (ls : Array Slot) (H : Heap) (locs : List Loc) (σ2 : so_S) (ed2 cap2 : Nat) (f2 : Nat → Option Nat) (cells slots : Nat), lv_has ls 5 [(4, .ref ed2), (3, .int (nI L.length)), (0, .ref al), (1, .int (nI j)), (2, .ref a)] → cells ≤ 1 → slots ≤ 64 → so_P D vcl s0.heap.size σ2 H → va_S (so_A s0.heap.size) s.heap H locs → σ2 al = some (tg, oAL (md + 1) ed2 (nI L.length)) → σ2 ed2 = some (tr, aR ca 6 cap2 f2) → L.length < cap2 → cap2 ≤ 64 → (∀ i, i < L.length → f2 i = f i) → fT (tL tg tr) σ σ2 → W p l e (so_rm 5 1 64) s m #[.ref al, .int (nI j), .ref a] below meth c H locs cells slots (MQ below (so_Q s0 D vcl (fun v σ1 => v = none ∧ ALP ca DE σ1 al tg tr (L.insertIdx j a) ∧ fT (tL tg tr) σ σ1)) #[.ref al, .int (nI j), .ref a] s 1 64 (so_A s0.heap.size)) (F0 m 38 ls []) := by
    intro ls H locs σ2 ed2 cap2 f2 cells slots hl hcl hsl P hS g1 g2 hc1 hc2 g3 Fr
    have hne : al ≠ ed2 := so_ne g1 g2 htg
    refine lv_aload S.1 S.2.1 d_AL_add3_38 (lv_at hl 0 rfl) ?_
    refine lv_iload_n S.1 S.2.1 d_AL_add3_40 rfl (lv_at hl 3 rfl) ?_
    refine lv_aload S.1 S.2.1 d_AL_add3_41 (lv_at hl 0 rfl) ?_
    refine lv_iload_n S.1 S.2.1 d_AL_add3_43 rfl (lv_at hl 3 rfl) ?_
    refine lv_iconst (v := 1) S.1 S.2.1 d_AL_add3_44 (by decide) ?_
    refine lv_iadd S.1 S.2.1 d_AL_add3_45 ?_
    refine lv_iload_n S.1 S.2.1 d_AL_add3_46 rfl (lv_at hl 1 rfl) ?_
    refine lv_iload_n S.1 S.2.1 d_AL_add3_47 rfl (lv_at hl 3 rfl) ?_
    refine lv_isub S.1 S.2.1 d_AL_add3_48 ?_
    rw [nI_1, nI_sb hj]
    refine so_copyq S hl.1 wd_613 wd_595 wd_594 wd_26 K P hS 6 6 (C := "HoldMaps$Entry") g2 g2 rfl rfl (show j + (L.length - j) ≤ cap2 by omega) (show (j + 1) + (L.length - j) ≤ cap2 by omega) (by omega) (by omega) (fun i hi y hy => ((lk_E hf hE (j + i) y (by omega) (by rw [← g3 _ (by omega)]; exact hy)).fr Fr htl htr).el) (va_Nw.of rfl (S.2.2.2.2 _ wd_1084)) (by omega) (by decide) d_AL_add3_49 (fun H locs P hS => ?_)
    have g1' : so_up σ2 ed2 (tr, aR ca 6 cap2 (va_cpy f2 f2 j (j + 1) (L.length - j))) al = some (tg, oAL (md + 1) ed2 (nI L.length)) := by rw [so_un hne]; exact g1
    have Fr1 := Fr.up (y := (tr, aR ca 6 cap2 (va_cpy f2 f2 j (j + 1) (L.length - j)))) g2 (Or.inr rfl)
    have P : so_P D vcl s0.heap.size (so_up σ2 ed2 (tr, aR ca 6 cap2 (va_cpy f2 f2 j (j + 1) (L.length - j)))) H := P
    refine lv_aload S.1 S.2.1 d_AL_add3_52 (lv_at hl 0 rfl) ?_
    refine lv_iload_n S.1 S.2.1 d_AL_add3_54 rfl (lv_at hl 3 rfl) ?_
    refine lv_aload_n S.1 S.2.1 d_AL_add3_55 rfl (lv_at hl 4 rfl) ?_
    refine so_aastN S K P hS so_us 6 rfl (r := some a) (fun v h => by cases h; exact (ha.fr Fr1 htl htr).ast (va_Nw.of rfl (S.2.2.2.2 _ wd_1084))) (show j < cap2 by omega) (by omega) d_AL_add3_56 (fun H locs P hS => ?_)
    obtain ⟨σ3, hσ3⟩ : ∃ q, q = so_up (so_up σ2 ed2 (tr, aR ca 6 cap2 (va_cpy f2 f2 j (j + 1) (L.length - j)))) ed2 (tr, aR ca 6 cap2 (va_up (va_cpy f2 f2 j (j + 1) (L.length - j)) j (some a))) := ⟨_, rfl⟩
    have P : so_P D vcl s0.heap.size σ3 H := by rw [hσ3]; exact P
    have k1 : σ3 al = some (tg, oAL (md + 1) ed2 (nI L.length)) := by rw [hσ3, so_un hne]; exact g1'
    have k2 : σ3 ed2 = some (tr, aR ca 6 cap2 (va_up (va_cpy f2 f2 j (j + 1) (L.length - j)) j (some a))) := by rw [hσ3]; exact so_us
    have Fr2 : fT (tL tg tr) σ σ3 := by rw [hσ3]; exact Fr1.up so_us (Or.inr rfl)
    refine lv_aload_n S.1 S.2.1 d_AL_add3_57 rfl (lv_at hl 2 rfl) ?_
    refine lv_iload_n S.1 S.2.1 d_AL_add3_58 rfl (lv_at hl 1 rfl) ?_
    refine lv_iconst (v := 1) S.1 S.2.1 d_AL_add3_59 (by decide) ?_
    refine lv_iadd S.1 S.2.1 d_AL_add3_60 ?_
    rw [nI_1]
    refine pf_AL_48_AL S K P hS k1 (Nat.le_of_ble_eq_true rfl) rfl rfl d_AL_add3_61 (fun H locs P hS => ?_)
    refine so_vret S hr hlk P hS hcl hsl ⟨rfl, ⟨md + 1, ed2, cap2, va_up (va_cpy f2 f2 j (j + 1) (L.length - j)) j (some a), ⟨by rw [so_us, List.length_insertIdx_of_le_length hj]; rfl, Or.inr ⟨by rw [so_un (Ne.symm hne)]; exact k2, by rw [List.length_insertIdx_of_le_length hj]; omega, by omega, hc2⟩⟩, fun i b hb => ?_⟩, Fr2.up k1 (Or.inl rfl)⟩ d_AL_add3_64
    rw [List.getElem?_insertIdx] at hb
    show (if i = j then some a else if j + 1 ≤ i ∧ i < j + 1 + (L.length - j) then f2 (j + (i - (j + 1))) else f2 i) = some b
    by_cases h1 : i < j
    · rw [if_pos h1] at hb
      rw [if_neg (by omega), if_neg (by omega), g3 i (by omega)]
      exact hf i b hb
    · rw [if_neg h1] at hb
      by_cases h2 : i = j
      · rw [if_pos h2] at hb
        rw [if_pos h2]
        split at hb
        · exact hb
        · cases hb
      · rw [if_neg h2] at hb
        have h3 := (List.getElem?_eq_some_iff.mp hb).1
        rw [if_neg h2, if_pos (by omega), show j + (i - (j + 1)) = i - 1 by omega, g3 (i - 1) (by omega)]
        exact hf (i - 1) b hb
  refine lv_aload_n S.1 S.2.1 d_AL_add3_0 rfl (lv_at hl 0 rfl) ?_
  refine lv_iload_n S.1 S.2.1 d_AL_add3_1 rfl (lv_at hl 1 rfl) ?_
  refine so_callR (cv_AL_135_AL S hB K E P hS M.1 (c_AL_rangeCheckForAdd (ed := ed) (te := 0) (cap := 0) (f := fun _ => none) l hB M.1 j hj (by omega)) rfl (by decide) (Nat.zero_le _) (Nat.zero_le _) hl.1 rfl (Nat.le_of_ble_eq_true rfl) d_AL_add3_2) (fun v hv => ?_)
  subst hv
  refine lv_aload_n S.1 S.2.1 d_AL_add3_5 rfl (lv_at hl 0 rfl) ?_
  refine lv_dup S.1 S.2.1 d_AL_add3_6 rfl ?_
  refine gf_AL_63_AL S K P M.1 rfl d_AL_add3_7 ?_
  refine lv_iconst (v := 1) S.1 S.2.1 d_AL_add3_10 (by decide) ?_
  refine lv_iadd S.1 S.2.1 d_AL_add3_11 ?_
  refine pf_AL_63_AL S K P hS M.1 (Nat.le_of_ble_eq_true rfl) rfl rfl d_AL_add3_12 (fun H locs P hS => ?_)
  obtain ⟨σ2, hσ2⟩ : ∃ q, q = so_up σ al (tg, oAL (md + 1) ed (nI L.length)) := ⟨_, rfl⟩
  have P : so_P D vcl s0.heap.size σ2 H := by rw [hσ2]; exact P
  have Fr : fT (tL tg tr) σ σ2 := by rw [hσ2]; exact fT.rf.up M.1 (Or.inl rfl)
  have M2 : ALQ ca DE σ2 al tg tr (md + 1) ed L.length cap f := by
    rw [hσ2]
    refine ⟨so_us, ?_⟩
    rcases M.2 with h | ⟨h, h1⟩
    · exact Or.inl h
    · exact Or.inr ⟨by rw [so_un (Ne.symm (so_ne M.1 h htg))]; exact h, h1⟩
  refine lv_aload_n S.1 S.2.1 d_AL_add3_15 rfl (lv_at hl 0 rfl) ?_
  refine gf_AL_48_AL S K P M2.1 rfl d_AL_add3_16 ?_
  refine lv_dup S.1 S.2.1 d_AL_add3_19 rfl ?_
  refine lv_istore_n S.1 S.2.1 d_AL_add3_20 rfl hl (by decide) rfl (fun ls hl => ?_)
  refine lv_aload_n S.1 S.2.1 d_AL_add3_21 rfl (lv_at hl 1 rfl) ?_
  refine gf_AL_9_AL S K P M2.1 rfl d_AL_add3_22 ?_
  refine lv_dup S.1 S.2.1 d_AL_add3_25 rfl ?_
  refine lv_astore S.1 S.2.1 d_AL_add3_26 hl (by decide) rfl (fun ls hl => ?_)
  refine M2.alen J S K E P hS d_AL_add3_28 ?_
  refine lv_icmp_ne (tgt := 38) S.1 S.2.1 d_AL_add3_29 rfl (fun h29 => ?_) (fun h29 => ?_)
  · have hnc : L.length ≠ cap := fun z => h29 (congrArg nI z)
    rcases M2.2 with ⟨_, h4, h5⟩ | ⟨h4, h5, h6, h7⟩
    · omega
    · exact tail ls H locs σ2 ed cap f 0 0 hl (by omega) (by omega) P hS M2.1 h4 (by omega) h7 (fun _ _ => rfl) Fr
  · refine lv_aload_n S.1 S.2.1 d_AL_add3_32 rfl (lv_at hl 2 rfl) ?_
    have hc64 : cap ≤ 64 := by rcases M.2 with ⟨_, _, h5⟩ | ⟨_, _, _, h7⟩ <;> omega
    have hnc : L.length = cap := by
      exact (nI_eq (by omega) (by omega)).mp h29
    refine so_call (cv_AL_129_AL S hB K E P hS M2.1 (c_AL_grow l hB J htg M2 hnc hn (fun i y hi hy => (lk_E hf hE i y hi hy).fr Fr htl htr)) rfl (by decide) (Nat.le_refl _) (Nat.le_refl _) hl.1 rfl (Nat.le_of_ble_eq_true rfl) d_AL_add3_33) hS (fun v σ1 H locs hv P hS => ?_)
    obtain ⟨q, cap1, f1, rfl, k1, k2, k3, k4, k5, k6⟩ := hv
    refine lv_astore S.1 S.2.1 d_AL_add3_36 hl (by decide) rfl (fun ls hl => ?_)
    exact tail ls H locs σ1 q cap1 f1 _ _ hl (Nat.le_refl _) (Nat.le_refl _) P hS k1 k2 k3 k4 k5 (Fr.tr k6)
set_option maxHeartbeats 400000 in
set_option maxRecDepth 100000 in
theorem c_AL_remove (l : Launch) {s0 : State} {D : va_G} {ca : Nat → ClassId} (hB : so_B tbl s0 D vcl (tyl ca)) {σ : so_S} {DE : Nat} {al tg tr : Nat} {L : List Nat} (htg : tg ≠ tr) (htl : tg < 1000) (htr : tr < 1000) (M : ALP ca DE σ al tg tr L) (hE : ∀ y ∈ L, isE σ y) (j : Nat) (hj : j < L.length) : so_C l s0 D vcl y_AL_remove b_AL_remove 4 (some (.object "java/lang/Object")) 2 0 0 [.ref al, .int (nI j)] σ (fun v σ1 => (∃ a, L[j]? = some a ∧ v = some (.ref a)) ∧ ALP ca DE σ1 al tg tr (L.eraseIdx j) ∧ fT (tL tg tr) σ σ1) := by
  refine so_of hB (by decide) (Nat.le_of_ble_eq_true rfl) ?_
  intro p e s m below meth c ls S K E hr hlk hnm P hS hl
  have hl : lv_has ls 4 [(0, .ref al), (1, .int (nI j))] := hl
  obtain ⟨md, ed, cap, f, h1, h2, hnc, hc1, hc2, hf⟩ := M.row (by omega)
  have hfj : f j = some L[j] := hf j L[j] (List.getElem?_eq_getElem hj)
  refine lv_iload_n S.1 S.2.1 d_AL_remove_0 rfl (lv_at hl 1 rfl) ?_
  refine lv_aload_n S.1 S.2.1 d_AL_remove_1 rfl (lv_at hl 0 rfl) ?_
  refine gf_AL_48_AL S K P h1 rfl d_AL_remove_2 ?_
  refine so_callR (cs_AL_118 S hB E P hS (c_Os_checkIndex l hB j L.length hj (by omega)) rfl (by decide) (Nat.le_refl _) (Nat.le_refl _) hl.1 rfl (Nat.le_of_ble_eq_true rfl) d_AL_remove_5) (fun v hv => ?_)
  subst hv
  refine lv_pop S.1 S.2.1 d_AL_remove_8 rfl ?_
  refine lv_aload_n S.1 S.2.1 d_AL_remove_9 rfl (lv_at hl 0 rfl) ?_
  refine gf_AL_9_AL S K P h1 rfl d_AL_remove_10 ?_
  refine lv_astore_n S.1 S.2.1 d_AL_remove_13 rfl hl (by decide) rfl (fun ls hl => ?_)
  refine lv_aload_n S.1 S.2.1 d_AL_remove_14 rfl (lv_at hl 0 rfl) ?_
  refine lv_iload_n S.1 S.2.1 d_AL_remove_15 rfl (lv_at hl 2 rfl) ?_
  refine so_aaldN S K P h2 6 rfl (show j < cap by omega) (by omega) d_AL_remove_16 ?_
  rw [hfj]
  refine lv_astore_nQ (r := some L[j]) S.1 S.2.1 d_AL_remove_17 rfl hl (by decide) rfl (fun ls hl => ?_)
  refine lv_aload_n S.1 S.2.1 d_AL_remove_18 rfl (lv_at hl 2 rfl) ?_
  refine lv_aload_n S.1 S.2.1 d_AL_remove_19 rfl (lv_at hl 1 rfl) ?_
  refine lv_iload_n S.1 S.2.1 d_AL_remove_20 rfl (lv_at hl 3 rfl) ?_
  refine so_call (cv_AL_144_AL S hB K E P hS h1 (c_AL_fastRemove l hB htg htl htr h1 h2 hc2 hnc (lk_E hf hE) j hj) rfl (by decide) (Nat.le_refl _) (Nat.le_refl _) hl.1 rfl (Nat.le_of_ble_eq_true rfl) d_AL_remove_21) hS (fun v σ1 H locs hv P hS => ?_)
  obtain ⟨rfl, ⟨f1, k1, k2, k3⟩, Fr⟩ := hv
  refine lv_aload_nQ (r := some L[j]) S.1 S.2.1 d_AL_remove_24 rfl (lv_at hl 0 rfl) ?_
  refine so_aret (v := some L[j]) S hr (Or.inl ⟨_, rfl⟩) hlk P hS (Nat.le_refl _) (Nat.le_refl _) ⟨⟨L[j], List.getElem?_eq_getElem hj, rfl⟩, ⟨md + 1, ed, cap, f1, ⟨by rw [k1, List.length_eraseIdx_of_lt hj], Or.inr ⟨k2, by rw [List.length_eraseIdx_of_lt hj]; omega, hc1, hc2⟩⟩, fun i b hb => ?_⟩, Fr⟩ d_AL_remove_25
  have hi := (List.getElem?_eq_some_iff.mp hb).1
  rw [List.length_eraseIdx_of_lt hj] at hi
  rw [List.getElem?_eraseIdx] at hb
  rw [k3 i hi]
  split at hb
  · rename_i h3
    rw [if_pos h3]
    exact hf i b hb
  · rename_i h3
    rw [if_neg h3]
    exact hf (i + 1) b hb
theorem c_AL_clearP (l : Launch) {s0 : State} {D : va_G} {ca : Nat → ClassId} (hB : so_B tbl s0 D vcl (tyl ca)) {σ : so_S} {DE al tg tr : Nat} {L : List Nat} (htg : tg ≠ tr) (M : ALP ca DE σ al tg tr L) (h0 : 0 < L.length) : so_C l s0 D vcl y_AL_clear b_AL_clear 4 none 0 0 0 [.ref al] σ (fun v σ1 => v = none ∧ ALP ca DE σ1 al tg tr [] ∧ fT (tL tg tr) σ σ1) := by
  obtain ⟨md, ed, cap, f, h1, h2, hnc, hc1, hc2, hf⟩ := M.row h0
  refine so_C.mono (c_AL_clear l hB ⟨h1, h2⟩ hnc (by omega) (so_ne h1 h2 htg)) (fun v σ1 hv => ?_)
  obtain ⟨e1, ⟨md1, f1, k1, k2⟩, k3⟩ := hv
  refine ⟨e1, ⟨md1, ed, cap, f1, ⟨k1, Or.inr ⟨k2, Nat.zero_le _, hc1, hc2⟩⟩, fun j a hj => by cases hj⟩, fun q x hq hx => ?_⟩
  rw [k3 q (fun z => hx (Or.inl (by rw [z, h1] at hq; cases hq; rfl))) (fun z => hx (Or.inr (by rw [z, h2] at hq; cases hq; rfl)))]
  exact hq

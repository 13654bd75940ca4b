/-! ArrayList's constructor and clear of an empty list; the tables' pictures. -/
set_option maxHeartbeats 400000 in
theorem c_Ac_init (l : Launch) {s0 : State} {D : va_G} {ca : Nat → ClassId} (hB : so_B tbl s0 D vcl (tyl ca)) {σ : so_S} {al : Nat} : so_C l s0 D vcl y_Ac_init b_Ac_init 1 none 1 0 0 [.ref al] σ (fun v σ1 => v = none ∧ σ1 = σ) := by
  refine so_of hB (by decide) (Nat.le_of_ble_eq_true rfl) ?_
  intro p e s m below meth c ls S K E hr hlk hnm P hS hl
  have hl : lv_has ls 1 [(0, .ref al)] := hl
  refine lv_aload_n S.1 S.2.1 d_Ac_init_0 rfl (lv_at hl 0 rfl) ?_
  refine W.objInit S.1 S.2.1 S.2.2.2.1 (S.2.2.2.2 _ wd_83) (S.2.2.2.2 _ wd_34) (S.2.2.2.2 _ wd_35) rfl (hl.1.trans S.2.2.1.symm) rfl d_Ac_init_1 (Nat.le_of_ble_eq_true rfl) (Nat.le_of_ble_eq_true rfl) ?_
  exact so_vret S hr hlk P hS (Nat.le_refl _) (Nat.le_refl _) ⟨rfl, rfl⟩ d_Ac_init_4
set_option maxHeartbeats 400000 in
theorem c_Ab_init (l : Launch) {s0 : State} {D : va_G} {ca : Nat → ClassId} (hB : so_B tbl s0 D vcl (tyl ca)) {σ : so_S} {al tg : Nat} (M0 : σ al = some (tg, .inr (9, [.int 0, .null, .int 0]))) : so_C l s0 D vcl y_Ab_init b_Ab_init 1 none 2 0 0 [.ref al] σ (fun v σ1 => v = none ∧ σ1 = so_up σ al (tg, .inr (9, [.int 0, .null, .int 0]))) := by
  refine so_of hB (by decide) (Nat.le_of_ble_eq_true rfl) ?_
  intro p e s m below meth c ls S K E hr hlk hnm P hS hl
  have hl : lv_has ls 1 [(0, .ref al)] := hl
  refine lv_aload_n S.1 S.2.1 d_Ab_init_0 rfl (lv_at hl 0 rfl) ?_
  refine so_call (ci_Ab_1 S hB E P hS (c_Ac_init l hB) rfl (by decide) (Nat.le_refl _) (Nat.le_refl _) hl.1 rfl (Nat.le_of_ble_eq_true rfl) d_Ab_init_1) hS (fun v σ1 H locs hv P hS => ?_)
  obtain ⟨rfl, hσ⟩ := hv
  rw [hσ] at P
  refine lv_aload_n S.1 S.2.1 d_Ab_init_4 rfl (lv_at hl 0 rfl) ?_
  refine lv_iconst (v := 0) S.1 S.2.1 d_Ab_init_5 (by decide) ?_
  refine pf_Ab_7_AL S K P hS M0 (Nat.le_of_ble_eq_true rfl) rfl rfl d_Ab_init_6 (fun H locs P hS => ?_)
  exact so_vret S hr hlk P hS (Nat.le_refl _) (Nat.le_refl _) ⟨rfl, rfl⟩ d_Ab_init_9
set_option maxHeartbeats 400000 in
theorem c_AL_init (l : Launch) {s0 : State} {D : va_G} {ca : Nat → ClassId} (hB : so_B tbl s0 D vcl (tyl ca)) {σ : so_S} {DE mi : Nat} (J : jX s0 D ca DE mi) {al tg : Nat} (tr : Nat) (M0 : σ al = some (tg, .inr (9, [.int 0, .null, .int 0]))) : so_C l s0 D vcl y_AL_init b_AL_init 1 none 3 0 0 [.ref al] σ (fun v σ1 => v = none ∧ ALP ca DE σ1 al tg tr [] ∧ ∀ r, r ≠ al → σ1 r = σ r) := by
  refine so_of hB (by decide) (Nat.le_of_ble_eq_true rfl) ?_
  intro p e s m below meth c ls S K E hr hlk hnm P hS hl
  have hl : lv_has ls 1 [(0, .ref al)] := hl
  refine lv_aload_n S.1 S.2.1 d_AL_init_0 rfl (lv_at hl 0 rfl) ?_
  refine so_call (ci_AL_1 S hB E P hS (c_Ab_init l hB M0) rfl (by decide) (Nat.le_refl _) (Nat.le_refl _) hl.1 rfl (Nat.le_of_ble_eq_true rfl) d_AL_init_1) hS (fun v σ1 H locs hv P hS => ?_)
  obtain ⟨rfl, rfl⟩ := hv
  refine lv_aload_n S.1 S.2.1 d_AL_init_4 rfl (lv_at hl 0 rfl) ?_
  refine va_gets S.1 S.2.1 (J.z E) hS S.2.2.2.1 (S.2.2.2.2 _ wd_84) (fun _ h => h) d_AL_init_5 ?_
  refine pf_AL_9_AL S K P hS so_us (Nat.le_of_ble_eq_true rfl) rfl rfl d_AL_init_8 (fun H locs P hS => ?_)
  exact so_vret S hr hlk P hS (Nat.le_refl _) (Nat.le_refl _) ⟨rfl, ⟨0, DE, 0, fun _ => none, ⟨so_us, Or.inl ⟨rfl, rfl, rfl⟩⟩, fun j a h => by cases h⟩, fun r hr => by rw [so_un hr, so_un hr]⟩ d_AL_init_11
set_option maxHeartbeats 400000 in
theorem c_AL_clear0 (l : Launch) {s0 : State} {D : va_G} {ca : Nat → ClassId} (hB : so_B tbl s0 D vcl (tyl ca)) {σ : so_S} {DE al tg tr : Nat} (htg : tg ≠ tr) (M : ALP ca DE σ al tg tr []) : so_C l s0 D vcl y_AL_clear b_AL_clear 4 none 0 0 0 [.ref al] σ (fun v σ1 => v = none ∧ ALP ca DE σ1 al tg tr [] ∧ fT (tL tg tr) σ σ1) := by
  obtain ⟨md, ed, cap, f, M, hf⟩ := M
  have h1 : σ al = some (tg, oAL md ed (nI 0)) := M.1
  refine so_of hB (by decide) (Nat.le_of_ble_eq_true rfl) ?_
  intro p e s m below meth c ls S K E hr hlk hnm P hS hl
  have hl : lv_has ls 4 [(0, .ref al)] := hl
  refine lv_aload_n S.1 S.2.1 d_AL_clear_0 rfl (lv_at hl 0 rfl) ?_
  refine lv_dup S.1 S.2.1 d_AL_clear_1 rfl ?_
  refine gf_AL_63_AL S K P h1 rfl d_AL_clear_2 ?_
  refine lv_iconst (v := 1) S.1 S.2.1 d_AL_clear_5 (by decide) ?_
  refine lv_iadd S.1 S.2.1 d_AL_clear_6 ?_
  refine pf_AL_63_AL S K P hS h1 (Nat.le_of_ble_eq_true rfl) rfl rfl d_AL_clear_7 (fun H locs P hS => ?_)
  have M1 : so_up σ al (tg, oAL (md + 1) ed (nI 0)) al = some (tg, oAL (md + 1) ed (nI 0)) := so_us
  have P : so_P D vcl s0.heap.size (so_up σ al (tg, oAL (md + 1) ed (nI 0))) H := P
  refine lv_aload_n S.1 S.2.1 d_AL_clear_10 rfl (lv_at hl 0 rfl) ?_
  refine gf_AL_9_AL S K P M1 rfl d_AL_clear_11 ?_
  refine lv_astore_n S.1 S.2.1 d_AL_clear_14 rfl hl (by decide) rfl (fun ls hl => ?_)
  refine lv_aload_n S.1 S.2.1 d_AL_clear_15 rfl (lv_at hl 1 rfl) ?_
  refine gf_AL_48_AL S K P M1 rfl d_AL_clear_16 ?_
  refine lv_istore_n S.1 S.2.1 d_AL_clear_19 rfl hl (by decide) rfl (fun ls hl => ?_)
  refine lv_aload_n S.1 S.2.1 d_AL_clear_20 rfl (lv_at hl 2 rfl) ?_
  refine lv_iconst (v := 0) S.1 S.2.1 d_AL_clear_21 (by decide) ?_
  refine lv_dup_x1 S.1 S.2.1 d_AL_clear_22 rfl rfl ?_
  refine pf_AL_48_AL S K P hS M1 (Nat.le_of_ble_eq_true rfl) rfl rfl d_AL_clear_23 (fun H locs P hS => ?_)
  refine lv_istore_n S.1 S.2.1 d_AL_clear_26 rfl hl (by decide) rfl (fun ls hl => ?_)
  refine lv_iload_n S.1 S.2.1 d_AL_clear_27 rfl (lv_at hl 0 rfl) ?_
  refine lv_iload_n S.1 S.2.1 d_AL_clear_28 rfl (lv_at hl 1 rfl) ?_
  refine lv_icmp_ge (tgt := 42) S.1 S.2.1 d_AL_clear_29 rfl (fun h29 => ?_) (fun h29 => absurd (show nI 0 ≤ 0 by decide) h29)
  refine so_vret S hr hlk P hS (Nat.le_refl _) (Nat.le_refl _) ⟨rfl, ⟨md + 1, ed, cap, f, ⟨so_us, ?_⟩, hf⟩, (fT.rf.up h1 (Or.inl rfl)).up M1 (Or.inl rfl)⟩ d_AL_clear_42
  rcases M.2 with h | ⟨h, h2⟩
  · exact Or.inl h
  · refine Or.inr ⟨?_, h2⟩
    have hne := so_ne h h1 (Ne.symm htg)
    rw [so_un hne, so_un hne]
    exact h
theorem c_AL_clearA (l : Launch) {s0 : State} {D : va_G} {ca : Nat → ClassId} (hB : so_B tbl s0 D vcl (tyl ca)) {σ : so_S} {DE al tg tr : Nat} {L : List Nat} (htg : tg ≠ tr) (M : ALP ca DE σ al tg tr L) : so_C l s0 D vcl y_AL_clear b_AL_clear 4 none 0 0 0 [.ref al] σ (fun v σ1 => v = none ∧ ALP ca DE σ1 al tg tr [] ∧ fT (tL tg tr) σ σ1) := by
  cases L with
  | nil => exact c_AL_clear0 l hB htg M
  | cons x L => exact c_AL_clearP l hB htg M (Nat.succ_pos _)
section CST
variable {p : Program} {l : Launch} {e : Env} {R : Room} {s s0 : State} {m : MethodId} {args : Array Value} {below : List Frame} {meth : Method} {c : Code} {H : Heap} {locs : List Loc} {cells slots : Nat} {Q : State → Prop}
variable {cc : ByteArray} {pc nL : Nat} {ls : Array Slot} {rest : List Value} {D : va_G} {ca : Nat → ClassId} {σ : so_S} {own : String} {a : Nat}
/-- a cast of an entry -/
theorem so_castE (S : CallFix p m c cc nL s args tbl own) (K : va_K D vcl (tyl ca) s) (P : so_P D vcl s0.heap.size σ H) (h : isE σ a) {index : Nat} (w : Cond.classLink own index "HoldMaps$Entry" ∈ tbl) (hdg : decode cc pc = .ok (.checkcast index, 3))
    (kk : W p l e R s m args below meth c H locs cells slots Q (F0 m (pc + 3) ls (.ref a :: rest))) : W p l e R s m args below meth c H locs cells slots Q (F0 m pc ls (.ref a :: rest)) := by
  obtain ⟨te, k, mm, v, u, -, h⟩ := h
  exact va_castY (C := "HoldMaps$Entry") S.1 S.2.1 S.2.2.2.1 (S.2.2.2.2 _ w) (va_Nw.of rfl (S.2.2.2.2 _ wd_1071)) (so_recv K P h rfl) hdg kk
end CST
/-- an entry: address, key, mark, value, use -/
abbrev En : Type := Nat × Nat × Nat × Nat × Nat
abbrev oE (e : En) : va_E := oEn (nI e.2.1) (nI e.2.2.1) (nI e.2.2.2.1) (nI e.2.2.2.2)
def enT (σ : so_S) (k : Nat) (e : En) : Prop := e.2.2.1 < 1000 ∧ σ e.1 = some (1000 * (k + 1) + e.2.2.1, oE e)
theorem enT.isE {σ : so_S} {k : Nat} {e : En} (h : enT σ k e) : isE σ e.1 := ⟨_, _, _, _, _, by omega, h.2⟩
/-- the row of a map -/
def RwR (ca : Nat → ClassId) (DE : Nat) (σ : so_S) (k row : Nat) (L : List En) : Prop := ALP ca DE σ row (20 + k) (30 + k) (L.map (fun e => e.1)) ∧ ∀ e ∈ L, enT σ k e
theorem RwR.E {ca : Nat → ClassId} {DE : Nat} {σ : so_S} {k row : Nat} {L : List En} (h : RwR ca DE σ k row L) : ∀ y ∈ L.map (fun e => e.1), isE σ y := fun y hy => by
  obtain ⟨e, he, rfl⟩ := List.mem_map.mp hy
  exact (h.2 e he).isE
/-- the tags of map k's object, list and row; all its tags -/
def tR (k t : Nat) : Prop := t = 10 + k ∨ t = 20 + k ∨ t = 30 + k
def tM (k t : Nat) : Prop := t = 10 + k ∨ t = 20 + k ∨ t = 30 + k ∨ t = 80 + k ∨ t = 90 + k ∨ (1000 * (k + 1) ≤ t ∧ t < 1000 * (k + 2))
theorem enT.fr {σ σ1 : so_S} {k : Nat} {e : En} {P : Nat → Prop} (h : enT σ k e) (Fr : fT P σ σ1) (hP : ∀ t, P t → t < 1000) : enT σ1 k e := ⟨h.1, Fr _ _ h.2 (fun z => by have := hP _ z; simp only at this; omega)⟩
theorem tL_lt {tg tr : Nat} (h1 : tg < 1000) (h2 : tr < 1000) : ∀ t, tL tg tr t → t < 1000 := fun t h => by rcases h with h | h <;> omega
theorem tL_R {k : Nat} : ∀ t, tL (20 + k) (30 + k) t → tR k t := fun t h => by rcases h with h | h; exact Or.inr (Or.inl h); exact Or.inr (Or.inr h)
/-- the entry at a place -/
def atI (L : List En) (x : Int32) : Option En := if x < 0 then none else if nI L.length ≤ x then none else L[x.toNatClampNeg]?
theorem atI_neg {L : List En} {x : Int32} (h : x < 0) : atI L x = none := if_pos h
theorem atI_ge {L : List En} {x : Int32} (h : nI L.length ≤ x) : atI L x = none := by
  unfold atI
  rw [if_pos h]
  split <;> rfl
theorem atI_nI {L : List En} {j : Nat} (hj : j < L.length) (hL : L.length < 2 ^ 31) : atI L (nI j) = some L[j] := by
  unfold atI
  rw [if_neg (nI_pos (by omega)), if_neg (nI_ge hj hL), nI_clamp (by omega)]
  exact List.getElem?_eq_getElem hj
theorem atI_o {L : List En} {j : Nat} (hL : L.length < 2 ^ 31) (hj : j < 2 ^ 31) : atI L (nI j) = L[j]? := by
  rcases Nat.lt_or_ge j L.length with h | h
  · rw [atI_nI h hL, List.getElem?_eq_getElem h]
  · rw [atI_ge (nI_le h hj), List.getElem?_eq_none h]
def kI (o : Option En) : Int32 := match o with
  | none => -1
  | some e => nI e.2.1
def vI (o : Option En) : Int32 := match o with
  | none => -1
  | some e => nI e.2.2.2.1
def fiM (L : List En) (mk : Nat) : Option Nat := L.findIdx? (fun e => decide (e.2.2.1 = mk))
theorem fiM_some {L : List En} {mk j : Nat} {e : En} (hj : L[j]? = some e) (he : e.2.2.1 = mk) (hlo : ∀ (i : Nat) (x : En), i < j → L[i]? = some x → x.2.2.1 ≠ mk) : fiM L mk = some j := by
  unfold fiM
  rw [List.findIdx?_eq_some_iff_getElem]
  have hl := List.getElem?_eq_some_iff.mp hj
  obtain ⟨hl1, hl2⟩ := hl
  refine ⟨hl1, by rw [hl2]; exact decide_eq_true he, fun i hi => ?_⟩
  have hi2 : i < L.length := by omega
  have := hlo i L[i] hi (List.getElem?_eq_getElem hi2)
  simpa using this
theorem fiM_none {L : List En} {mk : Nat} (h : ∀ (i : Nat) (x : En), L[i]? = some x → x.2.2.1 ≠ mk) : fiM L mk = none := by
  unfold fiM
  rw [List.findIdx?_eq_none_iff]
  intro x hx
  obtain ⟨i, hi, rfl⟩ := List.mem_iff_getElem.mp hx
  exact decide_eq_false (h i _ (List.getElem?_eq_getElem hi))
/-- the entries that lie in slots, in the order of the slots -/
def idN (sl : Nat → Option En) : Nat → List En
  | 0 => []
  | n + 1 => idN sl n ++ (sl n).toList
def IdR (ca : Nat → ClassId) (σ : so_S) (sa : Nat) (sl : Nat → Option En) : Prop := σ sa = some (32, aR ca 5 16 (fun i => (sl i).map (fun e => e.1))) ∧ ∀ i, i < 16 → ∀ e, sl i = some e → enT σ 2 e
theorem idN_len {sl : Nat → Option En} : ∀ n, (idN sl n).length = cn sl n
  | 0 => rfl
  | n + 1 => by
    unfold idN cn
    rw [List.length_append, idN_len n]
    cases sl n <;> rfl
theorem cn_mono {α : Type} {f : Nat → Option α} {a : Nat} : ∀ {b : Nat}, a ≤ b → cn f a ≤ cn f b
  | 0, h => by rw [Nat.le_zero.mp h]; exact Nat.le_refl _
  | b + 1, h => by
    rcases Nat.lt_or_ge a (b + 1) with h1 | h1
    · have := cn_mono (f := f) (a := a) (b := b) (by omega)
      show cn f a ≤ cn f b + _
      omega
    · rw [show a = b + 1 by omega]; exact Nat.le_refl _
theorem idN_at {sl : Nat → Option En} {i : Nat} {e : En} (h : sl i = some e) : ∀ {n : Nat}, i < n → (idN sl n)[cn sl i]? = some e
  | 0, hi => absurd hi (Nat.not_lt_zero _)
  | n + 1, hi => by
    unfold idN
    rcases Nat.lt_or_ge i n with h1 | h1
    · have := idN_at h h1
      rw [List.getElem?_append_left (List.getElem?_eq_some_iff.mp this).1]
      exact this
    · have e1 : i = n := by omega
      subst e1
      rw [List.getElem?_append_right (by rw [idN_len]; exact Nat.le_refl _), idN_len, Nat.sub_self, h]
      rfl
theorem idN_mem {sl : Nat → Option En} {e : En} : ∀ {n : Nat}, e ∈ idN sl n → ∃ i, i < n ∧ sl i = some e
  | 0, h => by cases h
  | n + 1, h => by
    unfold idN at h
    rcases List.mem_append.mp h with h | h
    · obtain ⟨i, hi, he⟩ := idN_mem h
      exact ⟨i, by omega, he⟩
    · cases hs : sl n with
      | none => rw [hs] at h; cases h
      | some x =>
        rw [hs] at h
        have : e = x := by simpa using h
        exact ⟨n, by omega, by rw [hs, this]⟩

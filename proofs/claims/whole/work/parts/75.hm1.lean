/-! The class's maps together; its calls of a table, whichever it is. -/
abbrev Ax : Type := (Nat → Nat) × (Nat → Nat) × Nat
def tbW (ca : Nat → ClassId) (DE : Nat) (σ : so_S) (A : Ax) (k : Wks) (bk : Nat) (L : List En) : Prop := σ (A.1 0) = some (10, oWe (bI (k.1 0)) (bI (k.2.1 0)) (nI (k.2.2 0)) (A.2.1 0) A.2.2 (nI bk)) ∧ RwR ca DE σ 0 (A.2.1 0) L ∧ ∃ Lm, ALP ca DE σ A.2.2 80 90 Lm
def tbS (ca : Nat → ClassId) (DE : Nat) (σ : so_S) (A : Ax) (k : Wks) (tm : Nat) (L : List En) : Prop := σ (A.1 1) = some (11, oSo (bI (k.1 1)) (bI (k.2.1 1)) (nI (k.2.2 1)) (A.2.1 1) (nI tm)) ∧ RwR ca DE σ 1 (A.2.1 1) L
def tbI (ca : Nat → ClassId) (σ : so_S) (A : Ax) (k : Wks) (sl : Nat → Option En) : Prop := σ (A.1 2) = some (12, oId (bI (k.1 2)) (bI (k.2.1 2)) (nI (k.2.2 2)) (A.2.1 2) (nI (cn sl 16))) ∧ IdR ca σ (A.2.1 2) sl
def tbP (ca : Nat → ClassId) (DE : Nat) (σ : so_S) (A : Ax) (k : Wks) (L : List En) : Prop := σ (A.1 3) = some (13, oPl (bI (k.1 3)) (bI (k.2.1 3)) (nI (k.2.2 3)) (A.2.1 3)) ∧ RwR ca DE σ 3 (A.2.1 3) L
def tbL (ca : Nat → ClassId) (DE : Nat) (σ : so_S) (A : Ax) (k : Wks) (L : List En) : Prop := σ (A.1 4) = some (14, oLa (bI (k.1 4)) (bI (k.2.1 4)) (nI (k.2.2 4)) (A.2.1 4)) ∧ RwR ca DE σ 4 (A.2.1 4) L
def CmR (ca : Nat → ClassId) (DE : Nat) (σ : so_S) (A : Ax) (k : Wks) (bk tm : Nat) (L : Nat → List En) (sl : Nat → Option En) : Prop := tbW ca DE σ A k bk (L 0) ∧ tbS ca DE σ A k tm (L 1) ∧ tbI ca σ A k sl ∧ tbP ca DE σ A k (L 3) ∧ tbL ca DE σ A k (L 4)
def lsE (L : Nat → List En) (sl : Nat → Option En) : Nat → List En
  | 2 => idN sl 16
  | n => L n
def mkI : Nat → Int32 → Int32 → Int32
  | 2, x, _ => x
  | _, _, y => y
def kyI : Nat → Int32 → Int32 → Int32
  | 3, _, y => y
  | _, x, _ => x
def tkB : Nat → Int32 → Bool
  | 3, x => decide (¬ 8 ≤ x)
  | _, _ => true
def fuB (sl : Nat → Option En) : Nat → Bool
  | 2 => decide (12 ≤ cn sl 16)
  | _ => false
theorem lt5 {P : Nat → Prop} {mp : Nat} (h : mp < 5) (h0 : P 0) (h1 : P 1) (h2 : P 2) (h3 : P 3) (h4 : P 4) : P mp := by
  rcases mp with _ | _ | _ | _ | _ | n
  · exact h0
  · exact h1
  · exact h2
  · exact h3
  · exact h4
  · omega
theorem RwR.agM {ca : Nat → ClassId} {DE : Nat} {σ σ1 : so_S} {k row : Nat} {L : List En} (h : RwR ca DE σ k row L) (hg : agT (tM k) σ σ1) : RwR ca DE σ1 k row L := ⟨h.1.fr (hg.sub (fun t z => by rcases z with z | z; exact Or.inr (Or.inl z); exact Or.inr (Or.inr (Or.inl z)))), fun e he => ⟨(h.2 e he).1, hg _ _ (h.2 e he).2 (Or.inr (Or.inr (Or.inr (Or.inr (Or.inr ⟨by show 1000 * (k + 1) ≤ 1000 * (k + 1) + _; omega, by show 1000 * (k + 1) + _ < _; have := (h.2 e he).1; omega⟩)))))⟩⟩
theorem tbW.ag {ca : Nat → ClassId} {DE : Nat} {σ σ1 : so_S} {A : Ax} {k : Wks} {bk : Nat} {L : List En} (h : tbW ca DE σ A k bk L) (hg : agT (tM 0) σ σ1) : tbW ca DE σ1 A k bk L := ⟨hg _ _ h.1 (Or.inl rfl), h.2.1.agM hg, h.2.2.imp (fun Lm z => z.fr (hg.sub (fun t z => by rcases z with z | z; exact Or.inr (Or.inr (Or.inr (Or.inl z))); exact Or.inr (Or.inr (Or.inr (Or.inr (Or.inl z)))))))⟩
theorem tbS.ag {ca : Nat → ClassId} {DE : Nat} {σ σ1 : so_S} {A : Ax} {k : Wks} {tm : Nat} {L : List En} (h : tbS ca DE σ A k tm L) (hg : agT (tM 1) σ σ1) : tbS ca DE σ1 A k tm L := ⟨hg _ _ h.1 (Or.inl rfl), h.2.agM hg⟩
theorem tbI.ag {ca : Nat → ClassId} {σ σ1 : so_S} {A : Ax} {k : Wks} {sl : Nat → Option En} (h : tbI ca σ A k sl) (hg : agT (tM 2) σ σ1) : tbI ca σ1 A k sl := ⟨hg _ _ h.1 (Or.inl rfl), hg _ _ h.2.1 (Or.inr (Or.inr (Or.inl rfl))), fun i hi e he => ⟨(h.2.2 i hi e he).1, hg _ _ (h.2.2 i hi e he).2 (Or.inr (Or.inr (Or.inr (Or.inr (Or.inr ⟨by show 1000 * (2 + 1) ≤ 1000 * (2 + 1) + _; omega, by show 1000 * (2 + 1) + _ < _; have := (h.2.2 i hi e he).1; omega⟩)))))⟩⟩
theorem tbP.ag {ca : Nat → ClassId} {DE : Nat} {σ σ1 : so_S} {A : Ax} {k : Wks} {L : List En} (h : tbP ca DE σ A k L) (hg : agT (tM 3) σ σ1) : tbP ca DE σ1 A k L := ⟨hg _ _ h.1 (Or.inl rfl), h.2.agM hg⟩
theorem tbL.ag {ca : Nat → ClassId} {DE : Nat} {σ σ1 : so_S} {A : Ax} {k : Wks} {L : List En} (h : tbL ca DE σ A k L) (hg : agT (tM 4) σ σ1) : tbL ca DE σ1 A k L := ⟨hg _ _ h.1 (Or.inl rfl), h.2.agM hg⟩
theorem tM_ne {a b t : Nat} (ha : a < 5) (hb : b < 5) (h : a ≠ b) (h1 : tM a t) : ¬ tM b t := by
  unfold tM at *
  omega
theorem tM_tH {a t : Nat} (ha : a < 5) (h1 : tM a t) : ¬ tH t := by
  unfold tM tH at *
  omega
/-- what is no map's -/
theorem CmR.ag {ca : Nat → ClassId} {DE : Nat} {σ σ1 : so_S} {A : Ax} {k : Wks} {bk tm : Nat} {L : Nat → List En} {sl : Nat → Option En} (h : CmR ca DE σ A k bk tm L sl) (hg : agT (fun t => ∃ i, i < 5 ∧ tM i t) σ σ1) : CmR ca DE σ1 A k bk tm L sl :=
  ⟨h.1.ag (hg.sub (fun t z => ⟨0, by decide, z⟩)), h.2.1.ag (hg.sub (fun t z => ⟨1, by decide, z⟩)), h.2.2.1.ag (hg.sub (fun t z => ⟨2, by decide, z⟩)), h.2.2.2.1.ag (hg.sub (fun t z => ⟨3, by decide, z⟩)), h.2.2.2.2.ag (hg.sub (fun t z => ⟨4, by decide, z⟩))⟩
theorem so_D.C {l : Launch} {s0 : State} {D : va_G} {cl : List vw_C} {y : MethodName} {b : ByteArray} {n : Nat} {r : Option FieldType} {k : Nat} {av : List Value} {σ : so_S} {post : Option Value → Prop} (h : so_D l s0 D cl y b n r k av σ post) : so_C l s0 D cl y b n r k 0 0 av σ (fun v σ1 => post v ∧ σ1 = σ) := by
  intro p e ha hc hk s m args below hf happ hP hK
  obtain ⟨n1, o, h1, h2, h3, ⟨v, rfl, hv, hh⟩, L, hL, hL2⟩ := h p e ha hc hk s m args below hf happ hP hK
  refine ⟨n1, .returned v, h1, h2, h3, ⟨⟨v, σ, rfl, ⟨hv, rfl⟩, ?_⟩, ?_⟩, L, hL, fun q hq => (hL2 q hq).elim⟩
  · rw [hh]; exact hP.2.2
  · exact ⟨by rw [hh]; exact Nat.le_refl _, fun q _ _ => by rw [hh]⟩
section HM1
variable {p : Program} {l : Launch} {e : Env} {s : State} {m : MethodId} {args : Array Value} {below : List Frame} {meth : Method} {c : Code} {H : Heap} {locs : List Loc} {cells slots : Nat} {Q : State → Prop}
variable {cc : ByteArray} {pc nL kr mcR msR : Nat} {ls : Array Slot} {rest : List Value} {D : va_G} {ca : Nat → ClassId} {s0 : State} {σ : so_S} {DE : Nat} {A : Ax} {k : Wks} {bk tm : Nat} {L : Nat → List En} {sl : Nat → Option En} {mp : Nat}
theorem hm_len (S : CallFix p m c cc nL s args tbl "HoldMaps") (hB : so_B tbl s0 D vcl (tyl ca)) (K : va_K D vcl (tyl ca) s) (E : so_Kn s0 s) (P : so_P D vcl s0.heap.size σ H) (hS : va_S (so_A s0.heap.size) s.heap H locs) (M : CmR ca DE σ A k bk tm L sl) (hmp : mp < 5)  (hk : 4 < kr) (hc1 : cells + 0 ≤ mcR) (hs1 : slots + 0 ≤ msR) (hsize : ls.size = nL) (hW : (rest.map fun v => v.category).sum ≤ 8) (hdg : decode cc pc = .ok (.invokevirtual 146, 3)) : va_Run p l e (so_rm kr mcR msR) s m args below meth c H locs cells slots 0 0 (F0 m pc ls (.ref (A.1 mp) :: rest)) rest (so_R (fun v => v = some (.int (nI (lsE L sl mp).length))) #[.ref (A.1 mp)]) (fun _ => False) := by
  revert hmp
  intro hmp
  rcases mp with _ | _ | _ | _ | _ | mp
  · exact cv_HM_146_We S hB K E P hS M.1.1 (c_Ro_length_We l hB M.1.1 M.1.2.1) rfl (by omega) hc1 hs1 hsize rfl hW hdg
  · exact cv_HM_146_So S hB K E P hS M.2.1.1 (c_Ro_length_So l hB M.2.1.1 M.2.1.2) rfl (by omega) hc1 hs1 hsize rfl hW hdg
  · exact cv_HM_146_Id S hB K E P hS M.2.2.1.1 (c_Id_length l hB M.2.2.1.1 M.2.2.1.2) rfl (by omega) hc1 hs1 hsize rfl hW hdg
  · exact cv_HM_146_Pl S hB K E P hS M.2.2.2.1.1 (c_Ro_length_Pl l hB M.2.2.2.1.1 M.2.2.2.1.2) rfl (by omega) hc1 hs1 hsize rfl hW hdg
  · exact cv_HM_146_La S hB K E P hS M.2.2.2.2.1 (c_Ro_length_La l hB M.2.2.2.2.1 M.2.2.2.2.2) rfl (by omega) hc1 hs1 hsize rfl hW hdg
  · omega
theorem hm_ent (S : CallFix p m c cc nL s args tbl "HoldMaps") (hB : so_B tbl s0 D vcl (tyl ca)) (K : va_K D vcl (tyl ca) s) (E : so_Kn s0 s) (P : so_P D vcl s0.heap.size σ H) (hS : va_S (so_A s0.heap.size) s.heap H locs) (M : CmR ca DE σ A k bk tm L sl) (hmp : mp < 5) (hLn : ∀ i, (L i).length ≤ 32) (x : Int32) (hk : 4 < kr) (hc1 : cells + 0 ≤ mcR) (hs1 : slots + 0 ≤ msR) (hsize : ls.size = nL) (hW : (rest.map fun v => v.category).sum ≤ 8) (hdg : decode cc pc = .ok (.invokevirtual 106, 3)) : va_Run p l e (so_rm kr mcR msR) s m args below meth c H locs cells slots 0 0 (F0 m pc ls (.int x :: .ref (A.1 mp) :: rest)) rest (so_R (fun v => v = some (va_rf ((atI (lsE L sl mp) x).map (fun e => e.1)))) #[.ref (A.1 mp), .int x]) (fun _ => False) := by
  revert hmp
  intro hmp
  rcases mp with _ | _ | _ | _ | _ | mp
  · exact cv_HM_106_We S hB K E P hS M.1.1 (c_Ro_entryAt_We l hB M.1.1 M.1.2.1 (Nat.lt_of_le_of_lt (hLn 0) (by decide)) x) rfl (by omega) hc1 hs1 hsize rfl hW hdg
  · exact cv_HM_106_So S hB K E P hS M.2.1.1 (c_Ro_entryAt_So l hB M.2.1.1 M.2.1.2 (Nat.lt_of_le_of_lt (hLn 1) (by decide)) x) rfl (by omega) hc1 hs1 hsize rfl hW hdg
  · exact cv_HM_106_Id S hB K E P hS M.2.2.1.1 (c_Id_entryAt l hB M.2.2.1.1 M.2.2.1.2 x) rfl (by omega) hc1 hs1 hsize rfl hW hdg
  · exact cv_HM_106_Pl S hB K E P hS M.2.2.2.1.1 (c_Ro_entryAt_Pl l hB M.2.2.2.1.1 M.2.2.2.1.2 (Nat.lt_of_le_of_lt (hLn 3) (by decide)) x) rfl (by omega) hc1 hs1 hsize rfl hW hdg
  · exact cv_HM_106_La S hB K E P hS M.2.2.2.2.1 (c_Ro_entryAt_La l hB M.2.2.2.2.1 M.2.2.2.2.2 (Nat.lt_of_le_of_lt (hLn 4) (by decide)) x) rfl (by omega) hc1 hs1 hsize rfl hW hdg
  · omega
theorem hm_key (S : CallFix p m c cc nL s args tbl "HoldMaps") (hB : so_B tbl s0 D vcl (tyl ca)) (K : va_K D vcl (tyl ca) s) (E : so_Kn s0 s) (P : so_P D vcl s0.heap.size σ H) (hS : va_S (so_A s0.heap.size) s.heap H locs) (M : CmR ca DE σ A k bk tm L sl) (hmp : mp < 5) (hLn : ∀ i, (L i).length ≤ 32) (x : Int32) (hk : 4 < kr) (hc1 : cells + 0 ≤ mcR) (hs1 : slots + 0 ≤ msR) (hsize : ls.size = nL) (hW : (rest.map fun v => v.category).sum ≤ 8) (hdg : decode cc pc = .ok (.invokevirtual 154, 3)) : va_Run p l e (so_rm kr mcR msR) s m args below meth c H locs cells slots 0 0 (F0 m pc ls (.int x :: .ref (A.1 mp) :: rest)) rest (so_R (fun v => v = some (.int (kI (atI (lsE L sl mp) x)))) #[.ref (A.1 mp), .int x]) (fun _ => False) := by
  revert hmp
  intro hmp
  rcases mp with _ | _ | _ | _ | _ | mp
  · exact cv_HM_154_We S hB K E P hS M.1.1 (c_Ta_keyAt_We l hB M.1.1 M.1.2.1 (Nat.lt_of_le_of_lt (hLn 0) (by decide)) x) rfl (by omega) hc1 hs1 hsize rfl hW hdg
  · exact cv_HM_154_So S hB K E P hS M.2.1.1 (c_Ta_keyAt_So l hB M.2.1.1 M.2.1.2 (Nat.lt_of_le_of_lt (hLn 1) (by decide)) x) rfl (by omega) hc1 hs1 hsize rfl hW hdg
  · exact cv_HM_154_Id S hB K E P hS M.2.2.1.1 (c_Ta_keyAt_Id l hB M.2.2.1.1 M.2.2.1.2 x) rfl (by omega) hc1 hs1 hsize rfl hW hdg
  · exact cv_HM_154_Pl S hB K E P hS M.2.2.2.1.1 (c_Ta_keyAt_Pl l hB M.2.2.2.1.1 M.2.2.2.1.2 (Nat.lt_of_le_of_lt (hLn 3) (by decide)) x) rfl (by omega) hc1 hs1 hsize rfl hW hdg
  · exact cv_HM_154_La S hB K E P hS M.2.2.2.2.1 (c_Ta_keyAt_La l hB M.2.2.2.2.1 M.2.2.2.2.2 (Nat.lt_of_le_of_lt (hLn 4) (by decide)) x) rfl (by omega) hc1 hs1 hsize rfl hW hdg
  · omega
theorem hm_val (S : CallFix p m c cc nL s args tbl "HoldMaps") (hB : so_B tbl s0 D vcl (tyl ca)) (K : va_K D vcl (tyl ca) s) (E : so_Kn s0 s) (P : so_P D vcl s0.heap.size σ H) (hS : va_S (so_A s0.heap.size) s.heap H locs) (M : CmR ca DE σ A k bk tm L sl) (hmp : mp < 5) (hLn : ∀ i, (L i).length ≤ 32) (x : Int32) (hk : 4 < kr) (hc1 : cells + 0 ≤ mcR) (hs1 : slots + 0 ≤ msR) (hsize : ls.size = nL) (hW : (rest.map fun v => v.category).sum ≤ 8) (hdg : decode cc pc = .ok (.invokevirtual 137, 3)) : va_Run p l e (so_rm kr mcR msR) s m args below meth c H locs cells slots 0 0 (F0 m pc ls (.int x :: .ref (A.1 mp) :: rest)) rest (so_R (fun v => v = some (.int (vI (atI (lsE L sl mp) x)))) #[.ref (A.1 mp), .int x]) (fun _ => False) := by
  revert hmp
  intro hmp
  rcases mp with _ | _ | _ | _ | _ | mp
  · exact cv_HM_137_We S hB K E P hS M.1.1 (c_Ta_valueAt_We l hB M.1.1 M.1.2.1 (Nat.lt_of_le_of_lt (hLn 0) (by decide)) x) rfl (by omega) hc1 hs1 hsize rfl hW hdg
  · exact cv_HM_137_So S hB K E P hS M.2.1.1 (c_Ta_valueAt_So l hB M.2.1.1 M.2.1.2 (Nat.lt_of_le_of_lt (hLn 1) (by decide)) x) rfl (by omega) hc1 hs1 hsize rfl hW hdg
  · exact cv_HM_137_Id S hB K E P hS M.2.2.1.1 (c_Ta_valueAt_Id l hB M.2.2.1.1 M.2.2.1.2 x) rfl (by omega) hc1 hs1 hsize rfl hW hdg
  · exact cv_HM_137_Pl S hB K E P hS M.2.2.2.1.1 (c_Ta_valueAt_Pl l hB M.2.2.2.1.1 M.2.2.2.1.2 (Nat.lt_of_le_of_lt (hLn 3) (by decide)) x) rfl (by omega) hc1 hs1 hsize rfl hW hdg
  · exact cv_HM_137_La S hB K E P hS M.2.2.2.2.1 (c_Ta_valueAt_La l hB M.2.2.2.2.1 M.2.2.2.2.2 (Nat.lt_of_le_of_lt (hLn 4) (by decide)) x) rfl (by omega) hc1 hs1 hsize rfl hW hdg
  · omega
theorem hm_find (S : CallFix p m c cc nL s args tbl "HoldMaps") (hB : so_B tbl s0 D vcl (tyl ca)) (K : va_K D vcl (tyl ca) s) (E : so_Kn s0 s) (P : so_P D vcl s0.heap.size σ H) (hS : va_S (so_A s0.heap.size) s.heap H locs) (M : CmR ca DE σ A k bk tm L sl) (hmp : mp < 5) (hLn : ∀ i, (L i).length ≤ 32) (mk : Nat) (hmk : mk < 1000) (hk : 4 < kr) (hc1 : cells + 0 ≤ mcR) (hs1 : slots + 0 ≤ msR) (hsize : ls.size = nL) (hW : (rest.map fun v => v.category).sum ≤ 8) (hdg : decode cc pc = .ok (.invokevirtual 102, 3)) : va_Run p l e (so_rm kr mcR msR) s m args below meth c H locs cells slots 0 0 (F0 m pc ls (.int (nI mk) :: .ref (A.1 mp) :: rest)) rest (so_R (fun v => v = some (.int (rI (fiM (lsE L sl mp) mk)))) #[.ref (A.1 mp), .int (nI mk)]) (fun _ => False) := by
  revert hmp
  intro hmp
  rcases mp with _ | _ | _ | _ | _ | mp
  · exact cv_HM_102_We S hB K E P hS M.1.1 (c_Ta_find_We l hB M.1.1 M.1.2.1 (Nat.lt_of_le_of_lt (hLn 0) (by decide)) mk hmk) rfl (by omega) hc1 hs1 hsize rfl hW hdg
  · exact cv_HM_102_So S hB K E P hS M.2.1.1 (c_Ta_find_So l hB M.2.1.1 M.2.1.2 (Nat.lt_of_le_of_lt (hLn 1) (by decide)) mk hmk) rfl (by omega) hc1 hs1 hsize rfl hW hdg
  · exact cv_HM_102_Id S hB K E P hS M.2.2.1.1 (c_Ta_find_Id l hB M.2.2.1.1 M.2.2.1.2 mk hmk) rfl (by omega) hc1 hs1 hsize rfl hW hdg
  · exact cv_HM_102_Pl S hB K E P hS M.2.2.2.1.1 (c_Ta_find_Pl l hB M.2.2.2.1.1 M.2.2.2.1.2 (Nat.lt_of_le_of_lt (hLn 3) (by decide)) mk hmk) rfl (by omega) hc1 hs1 hsize rfl hW hdg
  · exact cv_HM_102_La S hB K E P hS M.2.2.2.2.1 (c_Ta_find_La l hB M.2.2.2.2.1 M.2.2.2.2.2 (Nat.lt_of_le_of_lt (hLn 4) (by decide)) mk hmk) rfl (by omega) hc1 hs1 hsize rfl hW hdg
  · omega
theorem hm_mark (S : CallFix p m c cc nL s args tbl "HoldMaps") (hB : so_B tbl s0 D vcl (tyl ca)) (K : va_K D vcl (tyl ca) s) (E : so_Kn s0 s) (P : so_P D vcl s0.heap.size σ H) (hS : va_S (so_A s0.heap.size) s.heap H locs) (M : CmR ca DE σ A k bk tm L sl) (hmp : mp < 5) (x y : Int32) (hk : 4 < kr) (hc1 : cells + 0 ≤ mcR) (hs1 : slots + 0 ≤ msR) (hsize : ls.size = nL) (hW : (rest.map fun v => v.category).sum ≤ 8) (hdg : decode cc pc = .ok (.invokevirtual 98, 3)) : va_Run p l e (so_rm kr mcR msR) s m args below meth c H locs cells slots 0 0 (F0 m pc ls (.int y :: .int x :: .ref (A.1 mp) :: rest)) rest (so_R (fun v => v = some (.int (mkI mp x y))) #[.ref (A.1 mp), .int x, .int y]) (fun _ => False) := by
  revert hmp
  intro hmp
  rcases mp with _ | _ | _ | _ | _ | mp
  · exact cv_HM_98_We S hB K E P hS M.1.1 (c_Ta_markOf l hB _ x y) rfl (by omega) hc1 hs1 hsize rfl hW hdg
  · exact cv_HM_98_So S hB K E P hS M.2.1.1 (c_Ta_markOf l hB _ x y) rfl (by omega) hc1 hs1 hsize rfl hW hdg
  · exact cv_HM_98_Id S hB K E P hS M.2.2.1.1 (c_Id_markOf l hB _ x y) rfl (by omega) hc1 hs1 hsize rfl hW hdg
  · exact cv_HM_98_Pl S hB K E P hS M.2.2.2.1.1 (c_Ta_markOf l hB _ x y) rfl (by omega) hc1 hs1 hsize rfl hW hdg
  · exact cv_HM_98_La S hB K E P hS M.2.2.2.2.1 (c_Ta_markOf l hB _ x y) rfl (by omega) hc1 hs1 hsize rfl hW hdg
  · omega
theorem hm_keyOf (S : CallFix p m c cc nL s args tbl "HoldMaps") (hB : so_B tbl s0 D vcl (tyl ca)) (K : va_K D vcl (tyl ca) s) (E : so_Kn s0 s) (P : so_P D vcl s0.heap.size σ H) (hS : va_S (so_A s0.heap.size) s.heap H locs) (M : CmR ca DE σ A k bk tm L sl) (hmp : mp < 5) (x y : Int32) (hk : 4 < kr) (hc1 : cells + 0 ≤ mcR) (hs1 : slots + 0 ≤ msR) (hsize : ls.size = nL) (hW : (rest.map fun v => v.category).sum ≤ 8) (hdg : decode cc pc = .ok (.invokevirtual 121, 3)) : va_Run p l e (so_rm kr mcR msR) s m args below meth c H locs cells slots 0 0 (F0 m pc ls (.int y :: .int x :: .ref (A.1 mp) :: rest)) rest (so_R (fun v => v = some (.int (kyI mp x y))) #[.ref (A.1 mp), .int x, .int y]) (fun _ => False) := by
  revert hmp
  intro hmp
  rcases mp with _ | _ | _ | _ | _ | mp
  · exact cv_HM_121_We S hB K E P hS M.1.1 (c_Ta_keyOf l hB _ x y) rfl (by omega) hc1 hs1 hsize rfl hW hdg
  · exact cv_HM_121_So S hB K E P hS M.2.1.1 (c_Ta_keyOf l hB _ x y) rfl (by omega) hc1 hs1 hsize rfl hW hdg
  · exact cv_HM_121_Id S hB K E P hS M.2.2.1.1 (c_Ta_keyOf l hB _ x y) rfl (by omega) hc1 hs1 hsize rfl hW hdg
  · exact cv_HM_121_Pl S hB K E P hS M.2.2.2.1.1 (c_Pl_keyOf l hB _ x y) rfl (by omega) hc1 hs1 hsize rfl hW hdg
  · exact cv_HM_121_La S hB K E P hS M.2.2.2.2.1 (c_Ta_keyOf l hB _ x y) rfl (by omega) hc1 hs1 hsize rfl hW hdg
  · omega
theorem hm_takes (S : CallFix p m c cc nL s args tbl "HoldMaps") (hB : so_B tbl s0 D vcl (tyl ca)) (K : va_K D vcl (tyl ca) s) (E : so_Kn s0 s) (P : so_P D vcl s0.heap.size σ H) (hS : va_S (so_A s0.heap.size) s.heap H locs) (M : CmR ca DE σ A k bk tm L sl) (hmp : mp < 5) (x : Int32) (hk : 4 < kr) (hc1 : cells + 0 ≤ mcR) (hs1 : slots + 0 ≤ msR) (hsize : ls.size = nL) (hW : (rest.map fun v => v.category).sum ≤ 8) (hdg : decode cc pc = .ok (.invokevirtual 205, 3)) : va_Run p l e (so_rm kr mcR msR) s m args below meth c H locs cells slots 0 0 (F0 m pc ls (.int x :: .ref (A.1 mp) :: rest)) rest (so_R (fun v => v = some (.int (bI (tkB mp x)))) #[.ref (A.1 mp), .int x]) (fun _ => False) := by
  revert hmp
  intro hmp
  rcases mp with _ | _ | _ | _ | _ | mp
  · exact cv_HM_205_We S hB K E P hS M.1.1 (c_Ta_takes l hB _ x) rfl (by omega) hc1 hs1 hsize rfl hW hdg
  · exact cv_HM_205_So S hB K E P hS M.2.1.1 (c_Ta_takes l hB _ x) rfl (by omega) hc1 hs1 hsize rfl hW hdg
  · exact cv_HM_205_Id S hB K E P hS M.2.2.1.1 (c_Ta_takes l hB _ x) rfl (by omega) hc1 hs1 hsize rfl hW hdg
  · exact cv_HM_205_Pl S hB K E P hS M.2.2.2.1.1 (c_Pl_takes l hB _ x) rfl (by omega) hc1 hs1 hsize rfl hW hdg
  · exact cv_HM_205_La S hB K E P hS M.2.2.2.2.1 (c_Ta_takes l hB _ x) rfl (by omega) hc1 hs1 hsize rfl hW hdg
  · omega
theorem hm_full (S : CallFix p m c cc nL s args tbl "HoldMaps") (hB : so_B tbl s0 D vcl (tyl ca)) (K : va_K D vcl (tyl ca) s) (E : so_Kn s0 s) (P : so_P D vcl s0.heap.size σ H) (hS : va_S (so_A s0.heap.size) s.heap H locs) (M : CmR ca DE σ A k bk tm L sl) (hmp : mp < 5)  (hk : 4 < kr) (hc1 : cells + 0 ≤ mcR) (hs1 : slots + 0 ≤ msR) (hsize : ls.size = nL) (hW : (rest.map fun v => v.category).sum ≤ 8) (hdg : decode cc pc = .ok (.invokevirtual 110, 3)) : va_Run p l e (so_rm kr mcR msR) s m args below meth c H locs cells slots 0 0 (F0 m pc ls (.ref (A.1 mp) :: rest)) rest (so_R (fun v => v = some (.int (bI (fuB sl mp)))) #[.ref (A.1 mp)]) (fun _ => False) := by
  revert hmp
  intro hmp
  rcases mp with _ | _ | _ | _ | _ | mp
  · exact cv_HM_110_We S hB K E P hS M.1.1 (c_Ta_isFull l hB _) rfl (by omega) hc1 hs1 hsize rfl hW hdg
  · exact cv_HM_110_So S hB K E P hS M.2.1.1 (c_Ta_isFull l hB _) rfl (by omega) hc1 hs1 hsize rfl hW hdg
  · exact cv_HM_110_Id S hB K E P hS M.2.2.1.1 (c_Id_isFull l hB M.2.2.1.1 M.2.2.1.2) rfl (by omega) hc1 hs1 hsize rfl hW hdg
  · exact cv_HM_110_Pl S hB K E P hS M.2.2.2.1.1 (c_Ta_isFull l hB _) rfl (by omega) hc1 hs1 hsize rfl hW hdg
  · exact cv_HM_110_La S hB K E P hS M.2.2.2.2.1 (c_Ta_isFull l hB _) rfl (by omega) hc1 hs1 hsize rfl hW hdg
  · omega
end HM1

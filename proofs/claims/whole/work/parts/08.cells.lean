/-! The cells by name: objects, arrays; the array classes; truth values as ints. -/
abbrev tyl (ca : Nat → ClassId) : List (ClassId × FieldType) := [(ca 0, .int), (ca 1, .boolean), (ca 2, .long), (ca 3, .object "HoldMaps$Thing"), (ca 4, .object "HoldMaps$Table"), (ca 5, .object "HoldMaps$Entry"), (ca 6, .object "java/lang/Object")]
abbrev oHM (h w s t : Nat) : va_E := .inr (0, [.ref h, .ref w, .ref s, .ref t])
abbrev oHe (t h : Nat) (n c : Int32) : va_E := .inr (1, [.ref t, .ref h, .int n, .int c])
abbrev oTh (v : Int32) (r : Nat) (root held : Int32) : va_E := .inr (2, [.int v, .ref r, .int root, .int held])
abbrev oEn (k m v u : Int32) : va_E := .inr (3, [.int k, .int m, .int v, .int u])
abbrev oWe (hw br wk : Int32) (row mov : Nat) (bk : Int32) : va_E := .inr (4, [.int hw, .int br, .int wk, .ref row, .ref mov, .int bk])
abbrev oSo (hw br wk : Int32) (row : Nat) (time : Int32) : va_E := .inr (5, [.int hw, .int br, .int wk, .ref row, .int time])
abbrev oId (hw br wk : Int32) (sl : Nat) (en : Int32) : va_E := .inr (6, [.int hw, .int br, .int wk, .ref sl, .int en])
abbrev oPl (hw br wk : Int32) (row : Nat) : va_E := .inr (7, [.int hw, .int br, .int wk, .ref row])
abbrev oLa (hw br wk : Int32) (row : Nat) : va_E := .inr (8, [.int hw, .int br, .int wk, .ref row])
abbrev oAL (md : Int32) (ed : Nat) (sz : Int32) : va_E := .inr (9, [.int md, .ref ed, .int sz])
abbrev aI (ca : Nat → ClassId) (n : Nat) (f : Nat → Int32) : va_E := .inl (ca 0, n, .inl f)
abbrev aZ (ca : Nat → ClassId) (n : Nat) (f : Nat → Int32) : va_E := .inl (ca 1, n, .inl f)
abbrev aJ (ca : Nat → ClassId) (n : Nat) (f : Nat → Int64) : va_E := .inl (ca 2, n, .inr (.inl f))
abbrev aR (ca : Nat → ClassId) (j n : Nat) (f : Nat → Option Nat) : va_E := .inl (ca j, n, .inr (.inr (.inr (.inr f))))
def bI (b : Bool) : Int32 := if b then 1 else 0
theorem bI_t : bI true = 1 := rfl
theorem bI_f : bI false = 0 := rfl
theorem bI_nar (b : Bool) : narrow .boolean (.int (bI b)) = .int (bI b) := by cases b <;> rfl
theorem bI_fit (b : Bool) : fits .boolean (.int (bI b)) = true := by cases b <;> rfl
theorem bI_0 (b : Bool) : bI b = 0 ↔ b = false := by cases b <;> decide
/-- an index that two compares have passed -/
theorem ix_in {x : Int32} {n : Nat} {M : Int32} (hn : n < 2 ^ 31) (hM : M = nI n) (h0 : ¬ x < 0) (h1 : ¬ M ≤ x) : ∃ j : Nat, j < n ∧ x = nI j := by
  rcases pk_ix x hn with h | h | h
  · exact absurd h h0
  · exact absurd (hM ▸ h) h1
  · exact h
section CE
variable {p : Program} {l : Launch} {e : Env} {R : Room} {s : State} {m : MethodId} {args : Array Value} {below : List Frame} {meth : Method} {c : Code} {H H0 : Heap} {locs : List Loc} {cells slots : Nat} {Q : State → Prop}
variable {cc : ByteArray} {pc nL a N0 tg : Nat} {ls : Array Slot} {rest : List Value} {D : va_G} {cl : List vw_C} {tys : List (ClassId × FieldType)} {σ : so_S} {Ts : List Cond} {own : String}
theorem lv_ifnullQ (hexec : p.tables.exec = Jvm.exec) (hb : c.code = cc) {r : Option Nat} {off : Int} {tgt : Nat} (hdg : decode cc pc = .ok (.ifnull off, 3)) (ht : (pc : Int) + off = (tgt : Int)) (kt : r = none → W p l e R s m args below meth c H locs cells slots Q (F0 m tgt ls rest)) (kf : ∀ q : Nat, r = some q → W p l e R s m args below meth c H locs cells slots Q (F0 m (pc + 3) ls rest)) : W p l e R s m args below meth c H locs cells slots Q (F0 m pc ls (va_rf r :: rest)) := by
  cases r with
  | none => exact lv_ifnullN hexec hb hdg ht (kt rfl)
  | some q => exact lv_ifnull hexec hb hdg (kf q rfl)
theorem lv_ifnonnullQ (hexec : p.tables.exec = Jvm.exec) (hb : c.code = cc) {r : Option Nat} {off : Int} {tgt : Nat} (hdg : decode cc pc = .ok (.ifnonnull off, 3)) (ht : (pc : Int) + off = (tgt : Int)) (kt : ∀ q : Nat, r = some q → W p l e R s m args below meth c H locs cells slots Q (F0 m tgt ls rest)) (kf : r = none → W p l e R s m args below meth c H locs cells slots Q (F0 m (pc + 3) ls rest)) : W p l e R s m args below meth c H locs cells slots Q (F0 m pc ls (va_rf r :: rest)) := by
  cases r with
  | none => exact lv_ifnonnullN hexec hb hdg (kf rfl)
  | some q => exact lv_ifnonnull hexec hb hdg ht (kt q rfl)
theorem lv_aload_nQ (hexec : p.tables.exec = Jvm.exec) (hb : c.code = cc) {k : Fin 4} {i : Nat} {r : Option Nat} (hdg : decode cc pc = .ok (.aload_n k, 1)) (hi : (k : Nat) = i) (hl : ls[i]? = some (.val (va_rf r)))
    (kk : W p l e R s m args below meth c H locs cells slots Q (F0 m (pc + 1) ls (va_rf r :: rest))) : W p l e R s m args below meth c H locs cells slots Q (F0 m pc ls rest) := by
  cases r with
  | none => exact lv_aload_nN hexec hb hdg hi hl kk
  | some q => exact lv_aload_n hexec hb hdg hi hl kk
theorem lv_aloadQ (hexec : p.tables.exec = Jvm.exec) (hb : c.code = cc) {i : Nat} {r : Option Nat} (hdg : decode cc pc = .ok (.aload i, 2)) (hl : ls[i]? = some (.val (va_rf r)))
    (kk : W p l e R s m args below meth c H locs cells slots Q (F0 m (pc + 2) ls (va_rf r :: rest))) : W p l e R s m args below meth c H locs cells slots Q (F0 m pc ls rest) := by
  cases r with
  | none => exact lv_aloadN hexec hb hdg hl kk
  | some q => exact lv_aload hexec hb hdg hl kk
theorem lv_astore_nQ (hexec : p.tables.exec = Jvm.exec) (hb : c.code = cc) {k : Fin 4} {i nL : Nat} {r : Option Nat} {lv lv' : List (Nat × Value)} (hdg : decode cc pc = .ok (.astore_n k, 1)) (hi : (k : Nat) = i) (h : lv_has ls nL lv) (hn : i < nL) (hl : (i, va_rf r) :: lv.filter (fun q => !(q.1 == i) && !(q.1 + 1 == i && q.2.category == 2)) = lv')
    (kk : ∀ ls' : Array Slot, lv_has ls' nL lv' → W p l e R s m args below meth c H locs cells slots Q (F0 m (pc + 1) ls' rest)) : W p l e R s m args below meth c H locs cells slots Q (F0 m pc ls (va_rf r :: rest)) := by
  cases r with
  | none => exact lv_astore_nN hexec hb hdg hi h hn hl kk
  | some q => exact lv_astore_n hexec hb hdg hi h hn hl kk
theorem lv_astoreQ (hexec : p.tables.exec = Jvm.exec) (hb : c.code = cc) {i nL : Nat} {r : Option Nat} {lv lv' : List (Nat × Value)} (hdg : decode cc pc = .ok (.astore i, 2)) (h : lv_has ls nL lv) (hn : i < nL) (hl : (i, va_rf r) :: lv.filter (fun q => !(q.1 == i) && !(q.1 + 1 == i && q.2.category == 2)) = lv')
    (kk : ∀ ls' : Array Slot, lv_has ls' nL lv' → W p l e R s m args below meth c H locs cells slots Q (F0 m (pc + 2) ls' rest)) : W p l e R s m args below meth c H locs cells slots Q (F0 m pc ls (va_rf r :: rest)) := by
  cases r with
  | none => exact lv_astoreN hexec hb hdg h hn hl kk
  | some q => exact lv_astore hexec hb hdg h hn hl kk
/-- array rows at an index that is a number below the length -/
theorem so_ialdN (S : CallFix p m c cc nL s args Ts own) (hK : va_K D cl tys s) (hP : so_P D cl N0 σ H) {cA : ClassId} {n : Nat} {f : Nat → Int32} (ha : σ a = some (tg, .inl (cA, n, .inl f))) (t0 : Nat) (ht : tys[t0]? = some (cA, .int)) {j : Nat} (hj : j < n) (hn : n < 2 ^ 31) (hdg : decode cc pc = .ok (.iaload, 1))
    (kk : W p l e R s m args below meth c H locs cells slots Q (F0 m (pc + 1) ls (.int (f j) :: rest))) : W p l e R s m args below meth c H locs cells slots Q (F0 m pc ls (.int (nI j) :: .ref a :: rest)) := by
  refine so_iald S hK hP ha t0 ht (vp_in_nI hj hn) hdg ?_
  rw [nI_clamp (by omega)]
  exact kk
theorem so_zaldN (S : CallFix p m c cc nL s args Ts own) (hK : va_K D cl tys s) (hP : so_P D cl N0 σ H) {cA : ClassId} {n : Nat} {f : Nat → Int32} (ha : σ a = some (tg, .inl (cA, n, .inl f))) (t0 : Nat) (ht : tys[t0]? = some (cA, .boolean)) {j : Nat} (hj : j < n) (hn : n < 2 ^ 31) (hdg : decode cc pc = .ok (.baload, 1))
    (kk : W p l e R s m args below meth c H locs cells slots Q (F0 m (pc + 1) ls (.int (f j) :: rest))) : W p l e R s m args below meth c H locs cells slots Q (F0 m pc ls (.int (nI j) :: .ref a :: rest)) := by
  refine so_zald S hK hP ha t0 ht (vp_in_nI hj hn) hdg ?_
  rw [nI_clamp (by omega)]
  exact kk
theorem so_aaldN (S : CallFix p m c cc nL s args Ts own) (hK : va_K D cl tys s) (hP : so_P D cl N0 σ H) {cA : ClassId} {C : String} {n : Nat} {f : Nat → Option Nat} (ha : σ a = some (tg, .inl (cA, n, .inr (.inr (.inr (.inr f)))))) (t0 : Nat) (ht : tys[t0]? = some (cA, .object C)) {j : Nat} (hj : j < n) (hn : n < 2 ^ 31) (hdg : decode cc pc = .ok (.aaload, 1))
    (kk : W p l e R s m args below meth c H locs cells slots Q (F0 m (pc + 1) ls (va_rf (f j) :: rest))) : W p l e R s m args below meth c H locs cells slots Q (F0 m pc ls (.int (nI j) :: .ref a :: rest)) := by
  refine so_aald S hK hP ha t0 ht (vp_in_nI hj hn) hdg ?_
  rw [nI_clamp (by omega)]
  exact kk
theorem so_iastN (S : CallFix p m c cc nL s args Ts own) (hK : va_K D cl tys s) (hP : so_P D cl N0 σ H) (hS : va_S (so_A N0) H0 H locs) {cA : ClassId} {n : Nat} {f : Nat → Int32} (ha : σ a = some (tg, .inl (cA, n, .inl f))) (t0 : Nat) (ht : tys[t0]? = some (cA, .int)) {j : Nat} {x : Int32} (hj : j < n) (hn : n < 2 ^ 31) (hdg : decode cc pc = .ok (.iastore, 1))
    (kk : ∀ (H1 : Heap) (locs1 : List Loc), so_P D cl N0 (so_up σ a (tg, .inl (cA, n, .inl (upd f j x)))) H1 → va_S (so_A N0) H0 H1 locs1 → W p l e R s m args below meth c H1 locs1 cells slots Q (F0 m (pc + 1) ls rest)) : W p l e R s m args below meth c H locs cells slots Q (F0 m pc ls (.int x :: .int (nI j) :: .ref a :: rest)) := by
  refine so_iast S hK hP hS ha t0 ht (vp_in_nI hj hn) hdg ?_
  rw [nI_clamp (by omega)]
  exact kk
theorem so_zastN (S : CallFix p m c cc nL s args Ts own) (hK : va_K D cl tys s) (hP : so_P D cl N0 σ H) (hS : va_S (so_A N0) H0 H locs) {cA : ClassId} {n : Nat} {f : Nat → Int32} (ha : σ a = some (tg, .inl (cA, n, .inl f))) (t0 : Nat) (ht : tys[t0]? = some (cA, .boolean)) {j : Nat} {x : Int32} (hx : vp_nar .boolean x = x) (hj : j < n) (hn : n < 2 ^ 31) (hdg : decode cc pc = .ok (.bastore, 1))
    (kk : ∀ (H1 : Heap) (locs1 : List Loc), so_P D cl N0 (so_up σ a (tg, .inl (cA, n, .inl (upd f j x)))) H1 → va_S (so_A N0) H0 H1 locs1 → W p l e R s m args below meth c H1 locs1 cells slots Q (F0 m (pc + 1) ls rest)) : W p l e R s m args below meth c H locs cells slots Q (F0 m pc ls (.int x :: .int (nI j) :: .ref a :: rest)) := by
  refine so_zast S hK hP hS ha t0 ht (vp_in_nI hj hn) hdg ?_
  rw [nI_clamp (by omega), hx]
  exact kk
theorem so_aastN (S : CallFix p m c cc nL s args Ts own) (hK : va_K D cl tys s) (hP : so_P D cl N0 σ H) (hS : va_S (so_A N0) H0 H locs) {cA : ClassId} {E : String} {n : Nat} {f : Nat → Option Nat} (ha : σ a = some (tg, .inl (cA, n, .inr (.inr (.inr (.inr f)))))) (t0 : Nat) (ht : tys[t0]? = some (cA, .object E)) {j : Nat} {r : Option Nat} (hr : ∀ v : Nat, r = some v → ∃ (tv ci : Nat) (q : vw_C) (vs : List Value), σ v = some (tv, .inr (ci, vs)) ∧ cl[ci]? = some q ∧ va_Nw (.castable q.1 E) s) (hj : j < n) (hn : n < 2 ^ 31) (hdg : decode cc pc = .ok (.aastore, 1))
    (kk : ∀ (H1 : Heap) (locs1 : List Loc), so_P D cl N0 (so_up σ a (tg, .inl (cA, n, .inr (.inr (.inr (.inr (va_up f j r))))))) H1 → va_S (so_A N0) H0 H1 locs1 → W p l e R s m args below meth c H1 locs1 cells slots Q (F0 m (pc + 1) ls rest)) : W p l e R s m args below meth c H locs cells slots Q (F0 m pc ls (va_rf r :: .int (nI j) :: .ref a :: rest)) := by
  refine so_aast S hK hP hS ha t0 ht hr (vp_in_nI hj hn) hdg ?_
  rw [nI_clamp (by omega)]
  exact kk
end CE

/-! The store: the cells that the law's run owns, as a function of the address; each bears a tag of mine (a ghost: which part of the structure it is), so that two cells of different tags are apart. Every method's contract speaks of a whole store. -/
abbrev so_E : Type := Nat × va_E
abbrev so_S : Type := Nat → Option so_E
def so_up (σ : so_S) (a : Nat) (e : so_E) : so_S := fun q => if q = a then some e else σ q
theorem so_us {σ : so_S} {a : Nat} {e : so_E} : so_up σ a e a = some e := if_pos rfl
theorem so_un {σ : so_S} {a q : Nat} {e : so_E} (h : q ≠ a) : so_up σ a e q = σ q := if_neg h
/-- the cells of the store lie in the heap, from N0 on -/
def so_P (D : va_G) (cl : List vw_C) (N0 : Nat) (σ : so_S) (H : Heap) : Prop := ∀ (a : Nat) (e : so_E), σ a = some e → N0 ≤ a ∧ va_at D cl (a, e.2) H
/-- what only the run's own cells may be -/
abbrev so_A (N0 : Nat) : Nat → Prop := fun q => N0 ≤ q
section SO1
variable {D : va_G} {cl : List vw_C} {N0 : Nat} {σ : so_S} {H H1 : Heap} {a : Nat} {e : so_E}
theorem so_P.lt (h : so_P D cl N0 σ H) (he : σ a = some e) : a < H.size := va_at.lt (h a e he).2
theorem so_P.kept (h : so_P D cl N0 σ H) (hq : ∀ q : Nat, q < H.size → H1[q]? = H[q]?) : so_P D cl N0 σ H1 := fun a e he => ⟨(h a e he).1, (h a e he).2.kept (hq a (h.lt he))⟩
theorem so_P.set (h : so_P D cl N0 σ H) (ha : N0 ≤ a) (he : va_at D cl (a, e.2) H1) (oq : ∀ q : Nat, q ≠ a → H1[q]? = H[q]?) : so_P D cl N0 (so_up σ a e) H1 := by
  intro b x hb
  by_cases hba : b = a
  · subst hba
    rw [so_us] at hb
    cases hb
    exact ⟨ha, he⟩
  · rw [so_un hba] at hb
    exact ⟨(h b x hb).1, (h b x hb).2.kept (oq b hba)⟩
theorem so_P.push (h : so_P D cl N0 σ H) (ha : N0 ≤ H.size) (he : va_at D cl (H.size, e.2) H1) (oq : ∀ q : Nat, q < H.size → H1[q]? = H[q]?) : so_P D cl N0 (so_up σ H.size e) H1 := by
  intro b x hb
  by_cases hba : b = H.size
  · subst hba
    rw [so_us] at hb
    cases hb
    exact ⟨ha, he⟩
  · rw [so_un hba] at hb
    exact ⟨(h b x hb).1, (h b x hb).2.kept (oq b (h.lt hb))⟩
theorem so_P.new (h : so_P D cl N0 σ H) : σ H.size = none := by
  cases hs : σ H.size with
  | none => rfl
  | some e => exact absurd (h.lt hs) (Nat.lt_irrefl _)
theorem so_P.one (h : so_P D cl N0 σ H) (he : σ a = some e) : va_P D cl [(a, e.2)] H := by
  intro k q hk
  have hz : k < 1 := (List.getElem?_eq_some_iff.mp hk).1
  rw [show k = 0 by omega] at hk
  cases hk
  exact (h a e he).2
theorem so_ne {b : Nat} {x y : so_E} (ha : σ a = some x) (hb : σ b = some y) (h : x.1 ≠ y.1) : a ≠ b := fun q => h (by subst q; rw [ha] at hb; exact congrArg (fun z : Option so_E => (z.getD (0, .inr (0, []))).1) hb)
end SO1
section SO2
variable {p : Program} {l : Launch} {e : Env} {R : Room} {s : State} {m : MethodId} {args : Array Value} {below : List Frame} {meth : Method} {c : Code} {H : Heap} {locs : List Loc} {cells slots : Nat} {Q : State → Prop}
variable {cc : ByteArray} {pc nL : Nat} {ls : Array Slot} {rest : List Value} {D : va_G} {cl : List vw_C} {a N0 tg : Nat} {tys : List (ClassId × FieldType)} {σ : so_S} {H0 : Heap} {Ts : List Cond} {own : String}
theorem so_get (S : CallFix p m c cc nL s args Ts own) (hK : va_K D cl tys s) (hP : so_P D cl N0 σ H) {ref C : String} {T : u_T} {N ci index : Nat} (hin : ∀ w ∈ u_ws C T N, w ∈ Ts) {fs : List Value} (he : σ a = some (tg, .inr (ci, fs))) (hc : cl[ci]? = some (C, T, N)) (k : Nat) (hk : k < N) (hlink : (Cond.fieldLink own index ref (T k).2.1 (T k).2.2.1).before args s = true) (hsame : ∀ x, s.fieldFound? (T k).1 (T k).2.1 (T k).2.2.1 = some x → s.fieldFound? ref (T k).2.1 (T k).2.2.1 = some x) {v : Value} (hv : fs[k]? = some v) (hdg : decode cc pc = .ok (.getfield index, 3))
    (kk : W p l e R s m args below meth c H locs cells slots Q (F0 m (pc + 3) ls (v :: rest))) : W p l e R s m args below meth c H locs cells slots Q (F0 m pc ls (.ref a :: rest)) :=
  va_get S.1 S.2.1 S.2.2.2.2 hin S.2.2.2.1 hK (hP.one he) 0 rfl hc k hk hlink hsame hv hdg kk
theorem so_getN (S : CallFix p m c cc nL s args Ts own) (hK : va_K D cl tys s) (hP : so_P D cl N0 σ H) {ref C host : String} {T : u_T} {N ci index : Nat} (hin : ∀ w ∈ u_ws C T N, w ∈ Ts) {fs : List Value} (he : σ a = some (tg, .inr (ci, fs))) (hc : cl[ci]? = some (C, T, N)) (k : Nat) (hk : k < N) (hlink : (Cond.fieldLinkNest own index ref (T k).2.1 (T k).2.2.1 host).before args s = true) (hsame : ∀ x, s.fieldFound? (T k).1 (T k).2.1 (T k).2.2.1 = some x → s.fieldFound? ref (T k).2.1 (T k).2.2.1 = some x) {v : Value} (hv : fs[k]? = some v) (hdg : decode cc pc = .ok (.getfield index, 3))
    (kk : W p l e R s m args below meth c H locs cells slots Q (F0 m (pc + 3) ls (v :: rest))) : W p l e R s m args below meth c H locs cells slots Q (F0 m pc ls (.ref a :: rest)) :=
  va_getN S.1 S.2.1 S.2.2.2.2 hin S.2.2.2.1 hK (hP.one he) 0 rfl hc k hk hlink hsame hv hdg kk
theorem so_put (S : CallFix p m c cc nL s args Ts own) (hK : va_K D cl tys s) (hP : so_P D cl N0 σ H) (hS0 : va_S (so_A N0) H0 H locs) {ref C : String} {T : u_T} {N ci index : Nat} (hin : ∀ w ∈ u_ws C T N, w ∈ Ts) (ty0 : Nat → FieldType) (hty : ∀ k, k < N → parseFieldDescriptor (T k).2.2.1 = some (ty0 k)) (hnm : ∀ a, a < N → ∀ b, b < N → a ≠ b → (T a).2.1 ≠ (T b).2.1) {fs : List Value} (he : σ a = some (tg, .inr (ci, fs))) (hc : cl[ci]? = some (C, T, N)) (k : Nat) (hk : k < N) (hlink : (Cond.fieldLink own index ref (T k).2.1 (T k).2.2.1).before args s = true) (hsame : ∀ x, s.fieldFound? (T k).1 (T k).2.1 (T k).2.2.1 = some x → s.fieldFound? ref (T k).2.1 (T k).2.2.1 = some x) (hfin : (T k).2.2.2 = false) {ty : FieldType} {v : Value} (hd : parseFieldDescriptor (T k).2.2.1 = some ty) (hn : narrow ty v = v) (hfit : fits ty v = true) (hl : k < fs.length) (hdg : decode cc pc = .ok (.putfield index, 3))
    (kk : ∀ (H1 : Heap) (locs1 : List Loc), so_P D cl N0 (so_up σ a (tg, .inr (ci, fs.set k v))) H1 → va_S (so_A N0) H0 H1 locs1 → W p l e R s m args below meth c H1 locs1 cells slots Q (F0 m (pc + 3) ls rest)) : W p l e R s m args below meth c H locs cells slots Q (F0 m pc ls (v :: .ref a :: rest)) := by
  have hts := S.2.2.2.2
  have hap := va_apart (own := own) hts hin ty0 hty hnm hK hc
  obtain ⟨hN, r, h1, cell, q1, q2, q3, q4⟩ := hP a _ he
  have hr : r = (C, T, N) := Option.some.inj (h1.symm.trans hc)
  subst hr
  obtain ⟨hS, hfc, kC, hkC, hkind⟩ := hK.1 ci _ hc
  obtain ⟨cf, kf, fi, f, hi, hsl⟩ := hS k hk
  have hlay := hts _ (hin _ (u_in_lay hk))
  unfold u_lay at hlay
  rw [if_neg (by rw [hfin]; decide)] at hlay
  have hst := (u_facts hfc hkC (u_lays hts hin hk) hi).1
  have h6 := u_store hfc hkC hkind hlay hi hd hn hfit
  refine W.putK S.1 S.2.1 (f := f) ⟨S.2.2.2.1, hlink, ⟨_, _, _, hsame _ hi⟩, hst⟩ (by rw [q2]; exact h6) q1 q3 (by rw [hsl]; exact k2_hasslot (q4 k hk)) rfl rfl hdg fun H' e1 e2 e3 => ?_
  rw [hsl] at e1 ⊢
  exact kk H' _ (hP.set hN ⟨_, hc, t_OB.to (V := updV (vp_V fs) k v) ⟨_, e1, q2, q3, t_set q4 hap hk v⟩ (fun j _ => vp_updV_set hl v j)⟩ e3) (hS0.put e2 e3 hN)
theorem so_putN (S : CallFix p m c cc nL s args Ts own) (hK : va_K D cl tys s) (hP : so_P D cl N0 σ H) (hS0 : va_S (so_A N0) H0 H locs) {ref C host : String} {T : u_T} {N ci index : Nat} (hin : ∀ w ∈ u_ws C T N, w ∈ Ts) (ty0 : Nat → FieldType) (hty : ∀ k, k < N → parseFieldDescriptor (T k).2.2.1 = some (ty0 k)) (hnm : ∀ a, a < N → ∀ b, b < N → a ≠ b → (T a).2.1 ≠ (T b).2.1) {fs : List Value} (he : σ a = some (tg, .inr (ci, fs))) (hc : cl[ci]? = some (C, T, N)) (k : Nat) (hk : k < N) (hlink : (Cond.fieldLinkNest own index ref (T k).2.1 (T k).2.2.1 host).before args s = true) (hsame : ∀ x, s.fieldFound? (T k).1 (T k).2.1 (T k).2.2.1 = some x → s.fieldFound? ref (T k).2.1 (T k).2.2.1 = some x) (hfin : (T k).2.2.2 = false) {ty : FieldType} {v : Value} (hd : parseFieldDescriptor (T k).2.2.1 = some ty) (hn : narrow ty v = v) (hfit : fits ty v = true) (hl : k < fs.length) (hdg : decode cc pc = .ok (.putfield index, 3))
    (kk : ∀ (H1 : Heap) (locs1 : List Loc), so_P D cl N0 (so_up σ a (tg, .inr (ci, fs.set k v))) H1 → va_S (so_A N0) H0 H1 locs1 → W p l e R s m args below meth c H1 locs1 cells slots Q (F0 m (pc + 3) ls rest)) : W p l e R s m args below meth c H locs cells slots Q (F0 m pc ls (v :: .ref a :: rest)) := by
  have hts := S.2.2.2.2
  have hap := va_apart (own := own) hts hin ty0 hty hnm hK hc
  obtain ⟨hN, r, h1, cell, q1, q2, q3, q4⟩ := hP a _ he
  have hr : r = (C, T, N) := Option.some.inj (h1.symm.trans hc)
  subst hr
  obtain ⟨hS, hfc, kC, hkC, hkind⟩ := hK.1 ci _ hc
  obtain ⟨cf, kf, fi, f, hi, hsl⟩ := hS k hk
  have hlay := hts _ (hin _ (u_in_lay hk))
  unfold u_lay at hlay
  rw [if_neg (by rw [hfin]; decide)] at hlay
  have hst := (u_facts hfc hkC (u_lays hts hin hk) hi).1
  have h6 := u_store hfc hkC hkind hlay hi hd hn hfit
  refine va_WputK S.1 S.2.1 S.2.2.2.1 hlink (hsame _ hi) hst (by rw [q2]; exact h6) q1 q3 (by rw [hsl]; exact k2_hasslot (q4 k hk)) rfl rfl hdg fun H' e1 e2 e3 => ?_
  rw [hsl] at e1 ⊢
  exact kk H' _ (hP.set hN ⟨_, hc, t_OB.to (V := updV (vp_V fs) k v) ⟨_, e1, q2, q3, t_set q4 hap hk v⟩ (fun j _ => vp_updV_set hl v j)⟩ e3) (hS0.put e2 e3 hN)
theorem so_putF (S : CallFix p m c cc nL s args Ts own) (hK : va_K D cl tys s) (hP : so_P D cl N0 σ H) (hS0 : va_S (so_A N0) H0 H locs) {ref C : String} {T : u_T} {N ci index : Nat} (hin : ∀ w ∈ u_ws C T N, w ∈ Ts) (ty0 : Nat → FieldType) (hty : ∀ k, k < N → parseFieldDescriptor (T k).2.2.1 = some (ty0 k)) (hnm : ∀ a, a < N → ∀ b, b < N → a ≠ b → (T a).2.1 ≠ (T b).2.1) {fs : List Value} (he : σ a = some (tg, .inr (ci, fs))) (hc : cl[ci]? = some (C, T, N)) (k : Nat) (hk : k < N) (hlink : (Cond.fieldLink own index ref (T k).2.1 (T k).2.2.1).before args s = true) (hsame : ∀ x, s.fieldFound? (T k).1 (T k).2.1 (T k).2.2.1 = some x → s.fieldFound? ref (T k).2.1 (T k).2.2.1 = some x) (hfin : (T k).2.2.2 = true) (hin2 : meth.name = "<init>") (hdecl : (T k).1 = own) {ty : FieldType} {v : Value} (hd : parseFieldDescriptor (T k).2.2.1 = some ty) (hn : narrow ty v = v) (hfit : fits ty v = true) (hl : k < fs.length) (hdg : decode cc pc = .ok (.putfield index, 3))
    (kk : ∀ (H1 : Heap) (locs1 : List Loc), so_P D cl N0 (so_up σ a (tg, .inr (ci, fs.set k v))) H1 → va_S (so_A N0) H0 H1 locs1 → W p l e R s m args below meth c H1 locs1 cells slots Q (F0 m (pc + 3) ls rest)) : W p l e R s m args below meth c H locs cells slots Q (F0 m pc ls (v :: .ref a :: rest)) := by
  have hts := S.2.2.2.2
  have hown := S.2.2.2.1
  have hap := va_apart (own := own) hts hin ty0 hty hnm hK hc
  obtain ⟨hN, r, h1, cell, q1, q2, q3, q4⟩ := hP a _ he
  have hr : r = (C, T, N) := Option.some.inj (h1.symm.trans hc)
  subst hr
  obtain ⟨hS, hfc, kC, hkC, hkind⟩ := hK.1 ci _ hc
  obtain ⟨cf, kf, fi, f, hi, hsl⟩ := hS k hk
  have hlay := hts _ (hin _ (u_in_lay hk))
  unfold u_lay at hlay
  rw [if_pos hfin] at hlay
  have hst := (u_facts hfc hkC (u_lays hts hin hk) hi).1
  have hcf : m.cls = cf := by
    obtain ⟨_, _, c', _, _, _, -, -, hf', -, -, -, hown2, -⟩ := Cond.laysFinal_spec hlay
    have e1 : c' = cf := by have := hi.symm.trans hf'; simp at this; exact this.1.symm
    rw [hdecl] at hown2
    rw [← e1]; exact Option.some.inj (hown.symm.trans hown2)
  have h6 := u_fits hfc hkC hkind (Or.inr hlay) hi hd hn hfit
  refine W.putFinK S.1 S.2.1 hown hlink (hsame _ hi) hst hcf hin2 (by rw [q2]; exact h6) q1 q3 (by rw [hsl]; exact k2_hasslot (q4 k hk)) rfl rfl hdg fun H' e1 e2 e3 => ?_
  rw [hsl] at e1 ⊢
  exact kk H' _ (hP.set hN ⟨_, hc, t_OB.to (V := updV (vp_V fs) k v) ⟨_, e1, q2, q3, t_set q4 hap hk v⟩ (fun j _ => vp_updV_set hl v j)⟩ e3) (hS0.put e2 e3 hN)
theorem so_iald (S : CallFix p m c cc nL s args Ts own) (hK : va_K D cl tys s) (hP : so_P D cl N0 σ H) {cA : ClassId} {n : Nat} {f : Nat → Int32} (ha : σ a = some (tg, .inl (cA, n, .inl f))) (t0 : Nat) (ht : tys[t0]? = some (cA, .int)) {i : Int32} (hin : vp_in i n) (hdg : decode cc pc = .ok (.iaload, 1))
    (kk : W p l e R s m args below meth c H locs cells slots Q (F0 m (pc + 1) ls (.int (f i.toNatClampNeg) :: rest))) : W p l e R s m args below meth c H locs cells slots Q (F0 m pc ls (.int i :: .ref a :: rest)) :=
  va_iald S.1 S.2.1 hK (hP.one ha) 0 t0 rfl ht hin hdg kk
theorem so_zald (S : CallFix p m c cc nL s args Ts own) (hK : va_K D cl tys s) (hP : so_P D cl N0 σ H) {cA : ClassId} {n : Nat} {f : Nat → Int32} (ha : σ a = some (tg, .inl (cA, n, .inl f))) (t0 : Nat) (ht : tys[t0]? = some (cA, .boolean)) {i : Int32} (hin : vp_in i n) (hdg : decode cc pc = .ok (.baload, 1))
    (kk : W p l e R s m args below meth c H locs cells slots Q (F0 m (pc + 1) ls (.int (f i.toNatClampNeg) :: rest))) : W p l e R s m args below meth c H locs cells slots Q (F0 m pc ls (.int i :: .ref a :: rest)) :=
  va_zald S.1 S.2.1 hK (hP.one ha) 0 t0 rfl ht hin hdg kk
theorem so_aald (S : CallFix p m c cc nL s args Ts own) (hK : va_K D cl tys s) (hP : so_P D cl N0 σ H) {cA : ClassId} {C : String} {n : Nat} {f : Nat → Option Nat} (ha : σ a = some (tg, .inl (cA, n, .inr (.inr (.inr (.inr f)))))) (t0 : Nat) (ht : tys[t0]? = some (cA, .object C)) {i : Int32} (hin : vp_in i n) (hdg : decode cc pc = .ok (.aaload, 1))
    (kk : W p l e R s m args below meth c H locs cells slots Q (F0 m (pc + 1) ls (va_rf (f i.toNatClampNeg) :: rest))) : W p l e R s m args below meth c H locs cells slots Q (F0 m pc ls (.int i :: .ref a :: rest)) :=
  va_aldq S.1 S.2.1 hK (hP.one ha) 0 t0 rfl ht hin hdg kk
theorem so_alen (S : CallFix p m c cc nL s args Ts own) (hK : va_K D cl tys s) (hP : so_P D cl N0 σ H) {cA : ClassId} {x : vp_A} (ha : σ a = some (tg, .inl (cA, x))) (t0 : Nat) {ty : FieldType} (ht : tys[t0]? = some (cA, ty)) (hdg : decode cc pc = .ok (.arraylength, 1))
    (kk : W p l e R s m args below meth c H locs cells slots Q (F0 m (pc + 1) ls (.int (nI x.1) :: rest))) : W p l e R s m args below meth c H locs cells slots Q (F0 m pc ls (.ref a :: rest)) :=
  va_alen S.1 S.2.1 hK (hP.one ha) 0 t0 rfl ht rfl hdg kk
theorem so_iast (S : CallFix p m c cc nL s args Ts own) (hK : va_K D cl tys s) (hP : so_P D cl N0 σ H) (hS : va_S (so_A N0) H0 H locs) {cA : ClassId} {n : Nat} {f : Nat → Int32} (ha : σ a = some (tg, .inl (cA, n, .inl f))) (t0 : Nat) (ht : tys[t0]? = some (cA, .int)) {i x : Int32} (hin : vp_in i n) (hdg : decode cc pc = .ok (.iastore, 1))
    (kk : ∀ (H1 : Heap) (locs1 : List Loc), so_P D cl N0 (so_up σ a (tg, .inl (cA, n, .inl (upd f i.toNatClampNeg x)))) H1 → va_S (so_A N0) H0 H1 locs1 → W p l e R s m args below meth c H1 locs1 cells slots Q (F0 m (pc + 1) ls rest)) : W p l e R s m args below meth c H locs cells slots Q (F0 m pc ls (.int x :: .int i :: .ref a :: rest)) := by
  obtain ⟨hN, hc⟩ := hP a _ ha
  refine W.iast S.1 S.2.1 hc ((hK.2 t0 _ ht).1 n (fun j => .int (f j))) (fun q => by cases q) (by show ¬ (i < 0 ∨ (arrV _ _ _).slots.size ≤ _); rw [arrV_size]; exact hin) rfl rfl hdg fun H1 e z oq => ?_
  refine kk H1 _ (hP.set hN ?_ oq) (hS.put z oq hN)
  show H1[a]? = some (vp_cell _ _)
  rw [e, vp_cell_i, vp_cell_i, arrV_store]
  congr 2
  funext q
  by_cases hq : q = i.toNatClampNeg
  · subst hq
    simp [updV, upd]
  · simp [updV, upd, hq]
theorem so_zast (S : CallFix p m c cc nL s args Ts own) (hK : va_K D cl tys s) (hP : so_P D cl N0 σ H) (hS : va_S (so_A N0) H0 H locs) {cA : ClassId} {n : Nat} {f : Nat → Int32} (ha : σ a = some (tg, .inl (cA, n, .inl f))) (t0 : Nat) (ht : tys[t0]? = some (cA, .boolean)) {i x : Int32} (hin : vp_in i n) (hdg : decode cc pc = .ok (.bastore, 1))
    (kk : ∀ (H1 : Heap) (locs1 : List Loc), so_P D cl N0 (so_up σ a (tg, .inl (cA, n, .inl (upd f i.toNatClampNeg (vp_nar .boolean x))))) H1 → va_S (so_A N0) H0 H1 locs1 → W p l e R s m args below meth c H1 locs1 cells slots Q (F0 m (pc + 1) ls rest)) : W p l e R s m args below meth c H locs cells slots Q (F0 m pc ls (.int x :: .int i :: .ref a :: rest)) := by
  obtain ⟨hN, hc⟩ := hP a _ ha
  refine W.zast S.1 S.2.1 hc ((hK.2 t0 _ ht).1 n (fun j => .int (f j))) (fun q => by cases q) (by show ¬ (i < 0 ∨ (arrV _ _ _).slots.size ≤ _); rw [arrV_size]; exact hin) rfl rfl hdg fun H1 e z oq => ?_
  refine kk H1 _ (hP.set hN ?_ oq) (hS.put z oq hN)
  show H1[a]? = some (vp_cell _ _)
  rw [e, vp_cell_i, vp_cell_i, arrV_store]
  congr 2
  funext q
  by_cases hq : q = i.toNatClampNeg
  · subst hq
    simp [updV, upd, vp_nar]
    try rfl
  · simp [updV, upd, hq]
/-- a reference to an own object, or null, into an array of references whose element class takes it -/
theorem so_aast (S : CallFix p m c cc nL s args Ts own) (hK : va_K D cl tys s) (hP : so_P D cl N0 σ H) (hS : va_S (so_A N0) H0 H locs) {cA : ClassId} {E : String} {n : Nat} {f : Nat → Option Nat} (ha : σ a = some (tg, .inl (cA, n, .inr (.inr (.inr (.inr f)))))) (t0 : Nat) (ht : tys[t0]? = some (cA, .object E)) {i : Int32} {r : Option Nat} (hr : ∀ v : Nat, r = some v → ∃ (tv ci : Nat) (q : vw_C) (vs : List Value), σ v = some (tv, .inr (ci, vs)) ∧ cl[ci]? = some q ∧ va_Nw (.castable q.1 E) s) (hin : vp_in i n) (hdg : decode cc pc = .ok (.aastore, 1))
    (kk : ∀ (H1 : Heap) (locs1 : List Loc), so_P D cl N0 (so_up σ a (tg, .inl (cA, n, .inr (.inr (.inr (.inr (va_up f i.toNatClampNeg r))))))) H1 → va_S (so_A N0) H0 H1 locs1 → W p l e R s m args below meth c H1 locs1 cells slots Q (F0 m (pc + 1) ls rest)) : W p l e R s m args below meth c H locs cells slots Q (F0 m pc ls (va_rf r :: .int i :: .ref a :: rest)) := by
  obtain ⟨hN, hc⟩ := hP a _ ha
  have hlt : i.toNatClampNeg < n := Nat.not_le.mp fun q => hin (Or.inr q)
  have h0 : ¬ i < 0 := fun q => hin (Or.inl q)
  cases r with
  | none =>
    refine va_WaastN (C := E) S.1 S.2.1 hc ((hK.2 t0 _ ht).1 n (fun j => va_rf (f j))) (fun h => by cases h) (by show ¬ (i < 0 ∨ (arrV _ _ _).slots.size ≤ _); rw [arrV_size]; exact hin) rfl rfl hdg fun H1 e z oq => ?_
    refine kk H1 _ (hP.set hN ?_ oq) (hS.put z oq hN)
    show H1[a]? = some (vp_cell _ _)
    rw [e, vp_cell_q, vp_cell_q, arrV_store]
    congr 2
    funext q
    by_cases hq : q = i.toNatClampNeg
    · subst hq
      simp [updV, va_up, va_rf]
    · simp [updV, va_up, hq]
  | some v =>
    obtain ⟨tv, ci, q, vs, hv, hq, hcast⟩ := hr v rfl
    obtain ⟨-, q', hq', cellV, g1, g2, g3, -⟩ := hP v _ hv
    have hcls := (hK.1 ci q hq).2
    obtain ⟨kA, comp, k1, k2, k3, -⟩ := (hK.2 t0 _ ht).2
    obtain ⟨c0, tE, f1, f2, f3⟩ := Cond.castable_spec (va_Nw.use (A := args) rfl hcast)
    have ec : c0 = D.1 ci := Option.some.inj (f1.symm.trans hcls.1)
    have et : tE = comp := Option.some.inj (f2.symm.trans k3)
    subst ec et
    obtain ⟨kC, hkC, -⟩ := hcls.2
    have hkT : ∃ kT, s.vm.classes[tE]? = some kT := by
      obtain ⟨kT, hkT, -⟩ := Vm.findClass_spec k3
      exact ⟨kT, hkT⟩
    obtain ⟨kT, hkT⟩ := hkT
    refine W.aast S.1 S.2.1 hc (fun q h => by cases h) (fun h => by cases h) k1 k2 rfl hkT ⟨h0, by show _ < (arrV _ _ _).slots.size; rw [arrV_size]; exact hlt⟩ g1 (fun q h => by rw [g3] at h; cases h) (by rw [g2]; exact hkC) (by rw [g2]; exact f3) rfl rfl hdg fun H1 e z oq => ?_
    refine kk H1 _ (hP.set hN ?_ oq) (hS.put z oq hN)
    show H1[a]? = some (vp_cell _ _)
    rw [e, vp_cell_q, vp_cell_q, arrV_store]
    congr 2
    funext q
    by_cases hq : q = i.toNatClampNeg
    · subst hq
      simp [updV, va_up, va_rf]
    · simp [updV, va_up, hq]
theorem so_new (tg : Nat) (S : CallFix p m c cc nL s args Ts own) (hK : va_K D cl tys s) (hP : so_P D cl N0 σ H) (hS : va_S (so_A N0) H0 H locs) (h0 : N0 ≤ H0.size) {C : String} {T : u_T} {N ci index : Nat} (hin : ∀ w ∈ u_ws C T N, w ∈ Ts) (ty : Nat → FieldType) (hty : ∀ k, k < N → parseFieldDescriptor (T k).2.2.1 = some (ty k)) (hcl : (Cond.classLink own index C).before args s = true) (hinst : (Cond.instantiable C N).before args s = true) (hini : (Cond.initialized C).before args s = true)
    (hc : cl[ci]? = some (C, T, N)) {fs : List Value} (hfs : ∀ j, j < N → defaultValue (ty j) = vp_V fs j) (hcells : cells + 1 ≤ R.cells) (hslots : slots + N ≤ R.slots) (hdg : decode cc pc = .ok (.new index, 3))
    (kk : ∀ (q : Nat) (H1 : Heap), σ q = none → so_P D cl N0 (so_up σ q (tg, .inr (ci, fs))) H1 → va_S (so_A N0) H0 H1 locs → W p l e R s m args below meth c H1 locs (cells + 1) (slots + N) Q (F0 m (pc + 3) ls (.ref q :: rest))) : W p l e R s m args below meth c H locs cells slots Q (F0 m pc ls rest) := by
  have hts := S.2.2.2.2
  have hKn := hK.1 ci _ hc
  refine W.newcK S.1 S.2.1 S.2.2.2.1 hcl hinst hini rfl hdg hcells hslots hKn.2.1 rfl fun H1 kC hkC e1 z1 o1 => ?_
  exact kk H.size H1 hP.new (hP.push (Nat.le_trans h0 hS.1) ⟨_, hc, (u_born ty hts hin hKn hkC e1 hty).to hfs⟩ o1) ⟨Nat.le_trans hS.1 (by omega), fun x h1 h2 => (o1 x (Nat.lt_of_lt_of_le h1 hS.1)).trans (hS.2.1 x h1 h2), hS.2.2⟩
theorem so_newa (tg : Nat) (S : CallFix p m c cc nL s args Ts own) (hK : va_K D cl tys s) (hP : so_P D cl N0 σ H) (hS : va_S (so_A N0) H0 H locs) (h0 : N0 ≤ H0.size) {atype : ArrayType} (harr : (Cond.arrayClass (newarray.typeOf atype)).before args s = true) (t0 : Nat) {cA : ClassId} {ty : FieldType} (ht : tys[t0]? = some (cA, ty)) (hty : newarray.typeOf atype = ty) (hobj : ∀ C, ty ≠ .object C)
    {n : Int32} {N' : Nat} {a0 : vp_A} (ha : ∀ cA : ClassId, vp_cell cA a0 = arrV cA N' (fun _ => defaultValue ty)) (hn : ¬ n < 0) (hN : n.toNatClampNeg = N') (hbytes : N' * componentBytes ty ≤ 536870912) (hcells : cells + 1 ≤ R.cells) (hslots : slots + N' ≤ R.slots) (hdg : decode cc pc = .ok (.newarray atype, 2))
    (kk : ∀ (q : Nat) (H1 : Heap), σ q = none → so_P D cl N0 (so_up σ q (tg, .inl (cA, a0))) H1 → va_S (so_A N0) H0 H1 locs → W p l e R s m args below meth c H1 locs (cells + 1) (slots + N') Q (F0 m (pc + 2) ls (.ref q :: rest))) : W p l e R s m args below meth c H locs cells slots Q (F0 m pc ls (.int n :: rest)) := by
  subst hty
  have hRA := (hK.2 t0 _ ht).2
  have hcA : s.vm.findClass ("[" ++ (newarray.typeOf atype).toString) = some cA := by
    revert hRA
    cases atype <;> exact fun h => h
  refine va_newaK S.1 S.2.1 harr rfl hdg rfl hn hN hbytes hcells hslots rfl fun H1 cA' e1 z1 o1 hAr hNm => ?_
  have ecA : cA' = cA := Option.some.inj (hNm.symm.trans hcA)
  subst ecA
  refine kk H.size H1 hP.new (hP.push (Nat.le_trans h0 hS.1) ?_ o1) ⟨Nat.le_trans hS.1 (by omega), fun x h1 h2 => (o1 x (Nat.lt_of_lt_of_le h1 hS.1)).trans (hS.2.1 x h1 h2), hS.2.2⟩
  show H1[H.size]? = some (vp_cell _ _)
  rw [ha]
  exact e1
theorem so_newq (tg : Nat) (S : CallFix p m c cc nL s args Ts own) (hK : va_K D cl tys s) (hP : so_P D cl N0 σ H) (hS : va_S (so_A N0) H0 H locs) (h0 : N0 ≤ H0.size) {E : String} {index : Nat} (hclink : (Cond.classLink own index E).before args s = true) (hover : (Cond.arrayOver (.object E)).before args s = true) (t0 : Nat) {cA : ClassId} (ht : tys[t0]? = some (cA, .object E))
    {n : Int32} {N' : Nat} (hn : ¬ n < 0) (hN : n.toNatClampNeg = N') (hbytes : N' * 4 ≤ 536870912) (hcells : cells + 1 ≤ R.cells) (hslots : slots + N' ≤ R.slots) (hdg : decode cc pc = .ok (.anewarray index, 3))
    (kk : ∀ (q : Nat) (H1 : Heap), σ q = none → so_P D cl N0 (so_up σ q (tg, .inl (cA, N', .inr (.inr (.inr (.inr (fun _ => none))))))) H1 → va_S (so_A N0) H0 H1 locs → W p l e R s m args below meth c H1 locs (cells + 1) (slots + N') Q (F0 m (pc + 3) ls (.ref q :: rest))) : W p l e R s m args below meth c H locs cells slots Q (F0 m pc ls (.int n :: rest)) := by
  subst hN
  obtain ⟨kA', comp', -, -, -, hcA⟩ := (hK.2 t0 _ ht).2
  refine W.anew S.1 S.2.1 S.2.2.2.1 hclink hover rfl hdg rfl hn hbytes hcells hslots fun cA' kA comp f1 f2 f3 f4 => ?_
  have ecA : cA' = cA := Option.some.inj (f1.symm.trans hcA)
  subst ecA
  generalize hH1 : H.push ({ cls := cA', slots := Array.replicate n.toNatClampNeg .null, vm := .none } : Cell) = H1
  have z1 : H1.size = H.size + 1 := by rw [← hH1, Array.size_push]
  have e1 : H1[H.size]? = some (arrV cA' n.toNatClampNeg (fun _ => .null)) := by rw [← hH1, Array.getElem?_push_size, ← arrV_new]
  have o1 : ∀ q : Nat, q < H.size → H1[q]? = H[q]? := fun q hq => by rw [← hH1, Array.getElem?_push, if_neg (Nat.ne_of_lt hq)]
  refine kk H.size H1 hP.new (hP.push (Nat.le_trans h0 hS.1) ?_ o1) ⟨Nat.le_trans hS.1 (by omega), fun x h1 h2 => (o1 x (Nat.lt_of_lt_of_le h1 hS.1)).trans (hS.2.1 x h1 h2), hS.2.2⟩
  show H1[H.size]? = some (vp_cell _ _)
  rw [vp_cell_q]
  exact e1
end SO2

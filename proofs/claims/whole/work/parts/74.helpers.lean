/-! The three exceptions' words; methods with an exception table; calls of such. -/
theorem ex_mem : ∀ {L : List Cond} {ix : List Nat}, L.length = ix.length → (L.zip ix).all (fun q => decide (tables_1[q.2]? = some q.1) && so_ok q.1 || decide (q.1 ∈ exws)) = true → ∀ w ∈ L, w ∈ tbl ∨ w ∈ exws
  | [], _, _, _, w, hw => by cases hw
  | a :: L, [], h, _, _, _ => by cases h
  | a :: L, i :: ix, h, ha, w, hw => by
    rw [List.zip_cons_cons, List.all_cons, Bool.and_eq_true] at ha
    rcases List.mem_cons.mp hw with rfl | hw
    · rcases (Bool.or_eq_true _ _).mp ha.1 with h1 | h1
      · rw [Bool.and_eq_true] at h1
        exact Or.inl (tbl_mem (of_decide_eq_true h1.1) h1.2)
      · exact Or.inr (of_decide_eq_true h1)
    · exact ex_mem (by simpa using h) ha.2 w hw
theorem ex_mA : ∀ w ∈ ex_at "HoldMaps" 49 xA "java/lang/RuntimeException" 7 Bundle.six ["java/lang/Exception"], w ∈ tbl ∨ w ∈ exws := ex_mem (ix := [14, 276, 285, 289, 292, 294, 277, 278, 34, 35, 279, 284, 290, 310, 266, 311, 268, 312, 270, 280, 281, 282, 283, 272, 306, 307, 309, 272, 297, 298, 299, 300, 258, 300, 301, 302, 303, 260, 303, 304, 305, 306, 262, 296, 255, 263, 264, 265, 267, 269, 271, 0, 0, 275, 274, 273]) (by decide +kernel) (by decide +kernel)
theorem ex_mS : ∀ w ∈ ex_at "HoldMaps" 60 xS "java/lang/RuntimeException" 7 Bundle.six ["java/lang/Exception"], w ∈ tbl ∨ w ∈ exws := ex_mem (ix := [14, 276, 285, 289, 292, 294, 277, 278, 34, 35, 279, 284, 290, 310, 266, 311, 268, 312, 270, 280, 281, 282, 283, 272, 306, 307, 309, 272, 337, 338, 339, 300, 258, 300, 301, 302, 303, 260, 303, 304, 305, 306, 262, 336, 327, 329, 287, 330, 331, 332, 333, 0, 0, 275, 274, 334]) (by decide +kernel) (by decide +kernel)
theorem ex_mN : ∀ w ∈ ex_at "HoldMaps" 153 xN "java/lang/RuntimeException" 13 b_Ns_init ["java/lang/Exception"], w ∈ tbl ∨ w ∈ exws := ex_mem (ix := [14, 276, 285, 289, 292, 294, 277, 278, 34, 35, 279, 284, 290, 310, 266, 311, 268, 312, 270, 280, 281, 282, 283, 272, 306, 307, 309, 272, 740, 741, 742, 300, 258, 300, 301, 302, 303, 260, 303, 304, 305, 306, 262, 739, 730, 732, 288, 733, 734, 735, 736, 0, 0, 275, 274, 737]) (by decide +kernel) (by decide +kernel)
section TH4
variable {p : Program} {l : Launch} {e : Env} {s : State} {m : MethodId} {args : Array Value} {below : List Frame} {meth : Method} {c : Code}
variable {cc : ByteArray} {pc nL k mc ms : Nat} {ls : Array Slot} {rest : List Value} {D : va_G} {ca : Nat → ClassId} {s0 : State} {σ : so_S} {tx : String} {istr : Nat} {post : Option Value → so_S → Prop} {thr : String → Prop}
theorem ex_fn : ∀ n ∈ ["java/lang/Exception"], Bundle.fit n = true := fun n h => by rw [List.mem_singleton.mp h]; decide +kernel
theorem thr_A (S : CallFix p m c cc nL s args tbl "HoldMaps") (E : so_Kn s0 s) (hX : exX l s0) (hex : c.exceptionTable.toList = []) (hlk : meth.locks = false) (hsz : ls.size = nL) (P : so_P D vcl s0.heap.size σ s.heap) (hstr : (istr, tx) ∈ exst) (hth : thr xA) (hk : 6 ≤ k) (hc1 : 1 ≤ mc) (hs1 : 6 ≤ ms) (hrest : (rest.map fun v => v.category).sum ≤ 8)
    (dn : decode cc pc = .ok (.new 45, 3)) (dd : decode cc (pc + 3) = .ok (.dup, 1)) (dl : decode cc (pc + 4) = .ok (.ldc istr, 2)) (di : decode cc (pc + 6) = .ok (.invokespecial 49, 3)) (da : decode cc (pc + 9) = .ok (.athrow, 1)) :
    W p l e (so_rm k mc ms) s m args below meth c s.heap [] 0 0 (MQT s0 D vcl below post thr σ s mc ms) (F0 m pc ls rest) :=
  so_thr S E hX hex hlk hsz P (cls := xA) (Y := "java/lang/RuntimeException") (names := ["java/lang/Exception"]) (bytes := Bundle.six) Bundle.six_0 Bundle.six_1 Bundle.six_2 Bundle.six_5 (by decide +kernel) (by decide +kernel) ex_fn ex_mA wd_254 wd_255 wd_17 hstr hth (by show 1 + 4 < k; omega) (by show 8 + (13 * 3 + 43) ≤ 32 * k; omega) hc1 hs1 hrest dn dd dl di da
theorem thr_S (S : CallFix p m c cc nL s args tbl "HoldMaps") (E : so_Kn s0 s) (hX : exX l s0) (hex : c.exceptionTable.toList = []) (hlk : meth.locks = false) (hsz : ls.size = nL) (P : so_P D vcl s0.heap.size σ s.heap) (hstr : (istr, tx) ∈ exst) (hth : thr xS) (hk : 6 ≤ k) (hc1 : 1 ≤ mc) (hs1 : 6 ≤ ms) (hrest : (rest.map fun v => v.category).sum ≤ 8)
    (dn : decode cc pc = .ok (.new 56, 3)) (dd : decode cc (pc + 3) = .ok (.dup, 1)) (dl : decode cc (pc + 4) = .ok (.ldc istr, 2)) (di : decode cc (pc + 6) = .ok (.invokespecial 60, 3)) (da : decode cc (pc + 9) = .ok (.athrow, 1)) :
    W p l e (so_rm k mc ms) s m args below meth c s.heap [] 0 0 (MQT s0 D vcl below post thr σ s mc ms) (F0 m pc ls rest) :=
  so_thr S E hX hex hlk hsz P (cls := xS) (Y := "java/lang/RuntimeException") (names := ["java/lang/Exception"]) (bytes := Bundle.six) Bundle.six_0 Bundle.six_1 Bundle.six_2 Bundle.six_5 (by decide +kernel) (by decide +kernel) ex_fn ex_mS wd_326 wd_327 wd_18 hstr hth (by show 1 + 4 < k; omega) (by show 8 + (13 * 3 + 43) ≤ 32 * k; omega) hc1 hs1 hrest dn dd dl di da
theorem thr_N (S : CallFix p m c cc nL s args tbl "HoldMaps") (E : so_Kn s0 s) (hX : exX l s0) (hex : c.exceptionTable.toList = []) (hlk : meth.locks = false) (hsz : ls.size = nL) (P : so_P D vcl s0.heap.size σ s.heap) (hstr : (istr, tx) ∈ exst) (hth : thr xN) (hk : 6 ≤ k) (hc1 : 1 ≤ mc) (hs1 : 6 ≤ ms) (hrest : (rest.map fun v => v.category).sum ≤ 8)
    (dn : decode cc pc = .ok (.new 149, 3)) (dd : decode cc (pc + 3) = .ok (.dup, 1)) (dl : decode cc (pc + 4) = .ok (.ldc istr, 2)) (di : decode cc (pc + 6) = .ok (.invokespecial 153, 3)) (da : decode cc (pc + 9) = .ok (.athrow, 1)) :
    W p l e (so_rm k mc ms) s m args below meth c s.heap [] 0 0 (MQT s0 D vcl below post thr σ s mc ms) (F0 m pc ls rest) :=
  so_thr S E hX hex hlk hsz P (cls := xN) (Y := "java/lang/RuntimeException") (names := ["java/lang/Exception"]) (bytes := b_Ns_init) d_Ns_init_0 d_Ns_init_1 d_Ns_init_2 d_Ns_init_5 (by decide +kernel) (by decide +kernel) ex_fn ex_mN wd_729 wd_730 wd_27 hstr hth (by show 1 + 4 < k; omega) (by show 8 + (13 * 3 + 43) ≤ 32 * k; omega) hc1 hs1 hrest dn dd dl di da
end TH4
abbrev exE (h : ExceptionTableEntry) : Nat × Nat × Nat × Nat := (h.startPc, h.endPc, h.handlerPc, h.catchType)
/-- y has an exception table -/
def so_CW (l : Launch) (s0 : State) (D : va_G) (cl : List vw_C) (y : MethodName) (b : ByteArray) (n : Nat) (r : Option FieldType) (hh : List (Nat × Nat × Nat × Nat)) (k mc ms : Nat) (av : List Value) (σ : so_S) (post : Option Value → so_S → Prop) : Prop :=
  Met l y [.codeWith y b n r hh] (so_rm k mc ms) (va_Pc av (so_Pre s0 D cl σ)) (so_Q s0 D cl post) mc ms (so_A s0.heap.size)
theorem so_ofW {l : Launch} {s0 : State} {D : va_G} {cl : List vw_C} {tys : List (ClassId × FieldType)} {Ts : List Cond} {y : MethodName} {b : ByteArray} {n k mc ms : Nat} {r : Option FieldType} {hh : List (Nat × Nat × Nat × Nat)} {av : List Value} {σ : so_S} {post : Option Value → so_S → Prop} (hB : so_B Ts s0 D cl tys) (hy : plainName y.cls = true) (hn : (lg_sl av).length ≤ n)
    (body : ∀ (p : Program) (e : Env) (s : State) (m : MethodId) (below : List Frame) (meth : Method) (c : Code) (ls : Array Slot), CallFix p m c b n s av.toArray Ts y.cls → va_K D cl tys s → so_Kn s0 s → meth.sig.returnType = r → meth.locks = false → c.exceptionTable.toList.map exE = hh →
      so_P D cl s0.heap.size σ s.heap → va_S (so_A s0.heap.size) s.heap s.heap [] → lv_has ls n (lv_args 0 av) →
      W p l e (so_rm k mc ms) s m av.toArray below meth c s.heap [] 0 0 (MQ below (so_Q s0 D cl post) av.toArray s mc ms (so_A s0.heap.size)) (F0 m 0 ls [])) :
    so_CW l s0 D cl y b n r hh k mc ms av σ post := by
  refine va_MetW (cc := b) (maxL := n) (ret := r) (hh := hh) hy rfl ?_
  intro p e s m args below meth c s₁ B hml hv
  obtain ⟨rfl, hKn, hP⟩ := hv
  have hts : ∀ w ∈ Ts, w.before av.toArray s = true := fun w hw => hB.1 w hw _ _ hKn.1
  have hex : c.exceptionTable.toList.map exE = hh := by
    obtain ⟨m', meth', c', h0, h1, h2, -, -, h7, -⟩ := Cond.codeWith_spec (atoms_spec (ws := [Cond.codeWith y b n r hh]) B.pre _ List.mem_cons_self)
    cases B.named.symm.trans h0
    cases B.method.symm.trans h1
    have hcc : s₁.code? m = some c := B.here.code
    rw [B.state, State.code?_eq] at hcc
    simp [State.setFrames, B.method, h2] at hcc
    subst hcc
    exact h7
  have hl := lv_entry av (n := n) hn
  rw [lg_entry_eq]
  generalize (lg_sl av ++ List.replicate (n - (lg_sl av).length) Slot.unset).toArray = ls at hl ⊢
  exact body p e s m below meth c ls ⟨B.exec, B.bytes, hml, findClass_of_methodNamed B.named, hts⟩ (va_K.moved hKn.1.alike hB.2) hKn B.returns B.notSynchronized hex hP va_S.rf hl
section TH5
variable {p : Program} {l : Launch} {e : Env} {R : Room} {s : State} {m : MethodId} {args : Array Value} {below : List Frame} {meth : Method} {c : Code} {H : Heap} {locs : List Loc} {cells slots : Nat} {Q : State → Prop}
variable {cc b1 : ByteArray} {pc nL n1 k k1 mcR msR mc ms index : Nat} {ls : Array Slot} {rest st st0 As : List Value} {D : va_G} {cl : List vw_C} {tys : List (ClassId × FieldType)} {σ : so_S} {Ts : List Cond} {own : String} {s0 : State} {y : MethodName} {r1 : Option FieldType} {hh : List (Nat × Nat × Nat × Nat)}
variable {Qc : Array Value → State → Outcome → State → Prop} {free : Addr → Prop}
/-- a handler by the table's rows: those before pass it by -/
theorem WT_tab (S : CallFix p m c cc nL s args tbl own) {hpre ht : List (Nat × Nat × Nat × Nat)} {a b hp ct : Nat} (htab : c.exceptionTable.toList.map exE = hpre ++ (a, b, hp, ct) :: ht) {x : Addr} {C C1 : String} (hpr : ∀ q ∈ hpre, (q.1 ≤ pc ∧ pc < q.2.1) ∧ q.2.2.2 ≠ 0 ∧ ∃ E, Cond.classLink own q.2.2.2 E ∈ tbl ∧ nA C E s) (hab : a ≤ pc ∧ pc < b) (h0 : ct ≠ 0) (w1 : Cond.classLink own ct C1 ∈ tbl) (w2 : Cond.castable C C1 ∈ tbl)
    (hcell : ∃ cell : Cell, H[x]? = some cell ∧ cell.vm.isStatics = false ∧ s.vm.findClass C = some cell.cls)
    (kk : W p l e R s m args below meth c H locs cells slots Q (F0 m hp ls [.ref x])) : WT p l e R s m args below meth c H locs cells slots Q (F0 m pc ls st) x := by
  obtain ⟨pre, t1, e1, e2, e3⟩ := List.map_eq_append_iff.mp htab
  obtain ⟨y, t, e4, e5, e6⟩ := List.map_eq_cons_iff.mp e3
  have hyf : y.startPc = a ∧ y.endPc = b ∧ y.handlerPc = hp ∧ y.catchType = ct := by
    have := e5
    simp only [exE, Prod.mk.injEq] at this
    exact this
  rw [e4] at e1
  refine WT_catch S e1 (fun z hz => ?_) (by show (decide _ && decide _) = true; rw [hyf.1, hyf.2.1, decide_eq_true hab.1, decide_eq_true hab.2]; rfl) (by rw [hyf.2.2.2]; exact h0) (C1 := C1) (by rw [hyf.2.2.2]; exact S.2.2.2.2 _ w1) (va_Nw.of rfl (S.2.2.2.2 _ w2)) hcell (by rw [hyf.2.2.1]; exact kk)
  have hz2 : exE z ∈ hpre := by rw [← e2]; exact List.mem_map_of_mem hz
  obtain ⟨h1, h2, E1, h3, h4⟩ := hpr _ hz2
  exact ⟨by show (decide _ && decide _) = true; rw [decide_eq_true h1.1, decide_eq_true h1.2]; rfl, h2, E1, S.2.2.2.2 _ h3, h4⟩
theorem ru_SW (S : CallFix p m c cc nL s args Ts own) (hB : so_B Ts s0 D cl tys) (E : so_Kn s0 s) (hP : so_P D cl s0.heap.size σ H) (hS : va_S (so_A s0.heap.size) s.heap H locs)
    (hM : Met l y [.codeWith y b1 n1 r1 hh] (so_rm k1 mc ms) (va_Pc As (so_Pre s0 D cl σ)) Qc mc ms free)
    (w1 : Cond.methodLink own index y ∈ Ts) (w2 : Cond.static y ∈ Ts) (w4 : Cond.codeWith y b1 n1 r1 hh ∈ Ts) (w5 : Cond.initialized y.cls ∈ Ts)
    (hd : y.cls ≠ "java/lang/invoke/MethodHandle" ∧ y.cls ≠ "java/lang/invoke/VarHandle" ∧ (parseMethodDescriptor y.desc).map (fun d => d.parameters.length) = some As.length) (hrm : k1 + 1 ≤ R.frames ∧ 8 + (n1 + 11) + 32 * k1 ≤ R.locals) (hc1 : cells + mc ≤ R.cells) (hs1 : slots + ms ≤ R.slots)
    (hsize : ls.size = nL) (hst : st0 = As.reverse ++ rest) (hW : (rest.map fun v => v.category).sum ≤ 8) (hdg : decode cc pc = .ok (.invokestatic index, 3)) :
    va_Run p l e R s m args below meth c H locs cells slots mc ms (F0 m pc ls st0) rest (Qc As.toArray) free := by
  have ht := S.2.2.2.2
  have hBk : Free.Back l R p e below s args y 3 8 (PreOf R mc ms (va_Pc As (so_Pre s0 D cl σ))) (PostOf Qc mc ms free) := va_backW (hh := hh) (bytes := b1) (maxL := n1) (ret := r1) hM so_blind rfl rfl hrm.1 hrm.2 (so_words hB E w4) (List.mem_singleton.mpr rfl) (fun a' U hW => hB.1 _ w5 a' U (State.WarmedH.trans E.1 hW))
  intro T hT X
  obtain ⟨mk, methM, cM, hnamed, hmethM, hcM, -, hlM, -, -, -, hsigM⟩ := Cond.codeWith_spec (ht _ w4)
  have hstM := Cond.static_spec hnamed hmethM (ht _ w2)
  obtain ⟨kM, hkM, -⟩ := className_of_methodNamed hnamed
  have hlen : As.length = methM.sig.parameters.length := by
    have h2 := hd.2.2
    rw [hsigM] at h2
    exact (Option.some.inj h2).symm
  obtain ⟨vm₁, X₁, hstep₁⟩ := X.invokestatic S.1 S.2.2.2.1 (ht _ w1) hnamed hmethM hstM hkM (Cond.initialized_spec (findClass_of_methodNamed hnamed) hkM (ht _ w5)) ⟨hd.1, hd.2.1⟩ (g := F0 m pc ls st0) rfl (argsL := As) (rest := rest) hlen hst (by rw [S.2.1]; exact hdg)
  obtain ⟨v, ⟨U', l2, c2, s2⟩, X', ⟨g', mk', t, L, e1, e2, hq, h1, hL, h2, h3⟩, hsteps⟩ := hBk m meth c ⟨T.setVm vm₁, locs, cells, slots⟩ (F0 m pc ls rest) (.invokestatic index) mk As.toArray X₁ rfl (by show ls.size = c.maxLocals; rw [hsize, S.2.2.1]) (by rw [S.2.1]; exact hdg) (by show 2 * 0 + (rest.map fun v => v.category).sum ≤ 8; omega) (X₁.named hnamed) ⟨hc1, hs1, rfl, E.at hS hT X₁.warmed, by rw [show (T.setVm vm₁).heap = H from hT]; exact hP⟩
  dsimp only [Free.Pt.U, Free.Pt.locs, Free.Pt.cells, Free.Pt.slots] at X' e1 e2 h1 h2 h3 hsteps
  subst h1; subst h2; subst h3
  exact ⟨v, (T.setVm vm₁).calling g' mk' As.toArray, t, U', L, hT, X', hL, e1, e2, hq, fun target h => hstep₁ _ fun acts => by rw [doInvoke_state]; exact hsteps.trans h⟩
end TH5

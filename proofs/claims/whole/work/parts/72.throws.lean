/-! Contracts of methods that return or throw; 'throw new'; calls of such methods; the catch. -/
def so_QT (s0 : State) (D : va_G) (cl : List vw_C) (post : Option Value → so_S → Prop) (thr : String → Prop) (σ : so_S) : State → Outcome → State → Prop := fun st oc t =>
  ((∃ (v : Option Value) (σ1 : so_S), oc = .returned v ∧ post v σ1 ∧ so_P D cl s0.heap.size σ1 t.heap) ∨ (∃ (x : Addr) (cell : Cell) (C : String), oc = .threw x ∧ thr C ∧ t.heap[x]? = some cell ∧ cell.vm.isStatics = false ∧ s0.vm.findClass C = some cell.cls ∧ so_P D cl s0.heap.size σ t.heap)) ∧ va_F (so_A s0.heap.size) st t
def so_ET (st t : State) (mc ms : Nat) (free : Addr → Prop) : Prop := st.WarmedH t.vm ∧ ∃ L : List Loc, st.sameButNew ({ t with vm := st.vm } : State) L mc ms ∧ ∀ q ∈ L, free q.base
/-- y returns as post says, or throws an object of a class C with thr C and leaves the store as it was -/
def so_T (l : Launch) (s0 : State) (D : va_G) (cl : List vw_C) (y : MethodName) (b : ByteArray) (n : Nat) (r : Option FieldType) (k mc ms : Nat) (av : List Value) (σ : so_S) (post : Option Value → so_S → Prop) (thr : String → Prop) : Prop :=
  MetFree l y (headSpec [.code y b n r] (so_rm k mc ms)) (va_Pc av (so_Pre s0 D cl σ)) (fun _ _ _ _ _ => True) (fun _ st o t => so_QT s0 D cl post thr σ st o t ∧ so_ET st t mc ms (so_A s0.heap.size))
def MQT (s0 : State) (D : va_G) (cl : List vw_C) (below : List Frame) (post : Option Value → so_S → Prop) (thr : String → Prop) (σ : so_S) (s : State) (mc ms : Nat) : State → Prop := fun t => ∃ o, t.status = .running ∧ Ended t below o ∧ so_QT s0 D cl post thr σ s o t ∧ so_ET s t mc ms (so_A s0.heap.size)
theorem MQ.toT {s0 : State} {D : va_G} {cl : List vw_C} {below : List Frame} {post : Option Value → so_S → Prop} {thr : String → Prop} {σ : so_S} {args : Array Value} {s : State} {mc ms : Nat} {t : State} (h : MQ below (so_Q s0 D cl post) args s mc ms (so_A s0.heap.size) t) : MQT s0 D cl below post thr σ s mc ms t := by
  obtain ⟨o, h1, h2, ⟨h3, h4⟩, L, ⟨h5, h6, h7⟩, h8⟩ := h
  exact ⟨o, h1, h2, ⟨Or.inl h3, h4⟩, h6, L, h7, h8⟩
section TH1
variable {p : Program} {l : Launch} {e : Env} {R : Room} {s : State} {m : MethodId} {args : Array Value} {below : List Frame} {meth : Method} {c : Code} {H : Heap} {locs : List Loc} {cells slots : Nat} {Q Q' : State → Prop}
theorem W_imp {g : JFrame} (hq : ∀ t, Q t → Q' t) (kk : W p l e R s m args below meth c H locs cells slots Q g) : W p l e R s m args below meth c H locs cells slots Q' g := fun T hT X => by
  obtain ⟨t, a, b⟩ := kk T hT X
  exact ⟨t, a, hq t b⟩
end TH1
theorem so_ofT {l : Launch} {s0 : State} {D : va_G} {cl : List vw_C} {tys : List (ClassId × FieldType)} {Ts : List Cond} {y : MethodName} {b : ByteArray} {n k mc ms : Nat} {r : Option FieldType} {av : List Value} {σ : so_S} {post : Option Value → so_S → Prop} {thr : String → Prop} (hB : so_B Ts s0 D cl tys) (hy : plainName y.cls = true) (hn : (lg_sl av).length ≤ n)
    (body : ∀ (p : Program) (e : Env) (s : State) (m : MethodId) (below : List Frame) (meth : Method) (c : Code) (ls : Array Slot), CallFix p m c b n s av.toArray Ts y.cls → va_K D cl tys s → so_Kn s0 s → meth.sig.returnType = r → meth.locks = false → c.exceptionTable.toList = [] →
      so_P D cl s0.heap.size σ s.heap → va_S (so_A s0.heap.size) s.heap s.heap [] → lv_has ls n (lv_args 0 av) →
      W p l e (so_rm k mc ms) s m av.toArray below meth c s.heap [] 0 0 (MQT s0 D cl below post thr σ s mc ms) (F0 m 0 ls [])) :
    so_T l s0 D cl y b n r k mc ms av σ post thr := by
  refine MetFree.of_bodyS (code := b) (maxLocals := n) (ret := r) hy (fun args s m h hn => ?_) (fun p e s m args below meth c s₁ B hml hP _ => ?_)
  · obtain ⟨meth, c, h1, h2, h3, h4, h5, h6, -, -⟩ := Cond.code_spec hn (atoms_spec (ws := [Cond.code y b n r]) h _ List.mem_cons_self)
    exact ⟨meth, c, h1, h2, h3, h4, h5, h6⟩
  · obtain ⟨rfl, hKn, hP2⟩ := hP
    have hts : ∀ w ∈ Ts, w.before av.toArray s = true := fun w hw => hB.1 w hw _ _ hKn.1
    have hex : c.exceptionTable.toList = [] := by
      obtain ⟨meth', c', h1, h2, -, -, -, -, h7, -⟩ := Cond.code_spec B.named (atoms_spec (ws := [Cond.code y b n r]) B.pre _ List.mem_cons_self)
      cases B.method.symm.trans h1
      have hcc : s₁.code? m = some c := B.here.code
      rw [B.state, State.code?_eq] at hcc
      simp [State.setFrames, B.method, h2] at hcc
      subst hcc
      have h0 : c'.exceptionTable.size = 0 := by simpa [Array.isEmpty] using h7
      exact List.eq_nil_of_length_eq_zero (by simpa using h0)
    have hl := lv_entry av (n := n) hn
    have key : W p l e (so_rm k mc ms) s m av.toArray below meth c s.heap [] 0 0 (MQT s0 D cl below post thr σ s mc ms) (entryFrame m av.toArray n) := by
      rw [lg_entry_eq]
      generalize (lg_sl av ++ List.replicate (n - (lg_sl av).length) Slot.unset).toArray = ls at hl ⊢
      exact body p e s m below meth c ls ⟨B.exec, B.bytes, hml, findClass_of_methodNamed B.named, hts⟩ (va_K.moved hKn.1.alike hB.2) hKn B.returns B.notSynchronized hex hP2 va_S.rf hl
    obtain ⟨t, a1, o, b1, b2, b3, b4⟩ := key s₁ (by rw [B.state]; rfl) (Stand.of_body B)
    exact ⟨t, o, a1, b1, b2, b3, b4⟩
def exws : List Cond := [.isRef (.static Bundle.tN "UNASSIGNED_STACK" Bundle.steD), .isRef (.static Bundle.tN "SUPPRESSED_SENTINEL" Bundle.listD), .laysStatic Bundle.tN "UNASSIGNED_STACK" Bundle.steD, .laysStatic Bundle.tN "SUPPRESSED_SENTINEL" Bundle.listD]
def exst : List (Nat × String) := [(47, "the value is not 0 .. 99"), (58, "there are 32 objects"), (74, "no such object or reference"), (76, "no such object to refer to"), (82, "no such object"), (92, "no such map, key or value"), (114, "the map is full"), (135, "no such map or key"), (151, "no such map or part of an entry"), (157, "no such entry"), (159, "no such map"), (170, "no such map, or no walk of it"), (172, "the map was changed since the walk began"), (174, "the walk is at its end"), (176, "the pressure is not 0 .. 3")]
/-- an object of class C is none of class E -/
def nA (C E : String) (U : State) : Prop := ∀ c0 c1 : ClassId, U.vm.findClass C = some c0 → U.vm.findClass E = some c1 → U.vm.assignable c0 c1 = false
theorem nA.moved {C E : String} {u U : State} (hvm : u.vm.Alike U.vm) (h : nA C E u) : nA C E U := fun c0 c1 h0 h1 => by
  rw [hvm.findClass] at h0 h1
  rw [hvm.assignable]
  exact h c0 c1 h0 h1
abbrev xA : String := "java/lang/IllegalArgumentException"
abbrev xS : String := "java/lang/IllegalStateException"
abbrev xN : String := "java/util/NoSuchElementException"
def exX (l : Launch) (s0 : State) : Prop := (∀ e : Env, l.admits e → e.platform.stackTraces = false) ∧ (∀ w ∈ exws, ∀ (a : Array Value) (U : State), so_Kn s0 U → w.before a U = true) ∧ (∀ q ∈ exst, ∃ x : Nat, ∀ U : State, s0.WarmedH U.vm → vk_R "HoldMaps" q.1 q.2 x U) ∧ nA xS xA s0 ∧ nA xN xA s0 ∧ nA xN xS s0
section TH2
variable {p : Program} {l : Launch} {e : Env} {s : State} {m : MethodId} {args : Array Value} {below : List Frame} {meth : Method} {c : Code}
variable {cc : ByteArray} {pc nL k mc ms : Nat} {ls : Array Slot} {rest : List Value} {D : va_G} {ca : Nat → ClassId} {s0 : State} {σ : so_S}
theorem so_thr (S : CallFix p m c cc nL s args tbl "HoldMaps") (E : so_Kn s0 s) (hX : exX l s0) (hex : c.exceptionTable.toList = []) (hlk : meth.locks = false) (hsz : ls.size = nL) (P : so_P D vcl s0.heap.size σ s.heap)
    {cls Y tx : String} {names : List String} {ic i idx istr : Nat} {bytes : ByteArray} (d0 : decode bytes 0 = .ok (.aload_n 0, 1)) (d1 : decode bytes 1 = .ok (.aload_n 1, 1)) (d2 : decode bytes 2 = .ok (.invokespecial i, 3)) (d5 : decode bytes 5 = .ok (.return_, 1))
    (hcls : Bundle.fit cls = true) (hY : Bundle.fit Y = true) (hnames : ∀ n ∈ names, Bundle.fit n = true) (hmem : ∀ w ∈ ex_at "HoldMaps" ic cls Y i bytes names, w ∈ tbl ∨ w ∈ exws) (w1 : Cond.classLink "HoldMaps" idx cls ∈ tbl) (w2 : Cond.instantiable cls 6 ∈ tbl) (w3 : Cond.initialized cls ∈ tbl) (hstr : (istr, tx) ∈ exst)
    {post : Option Value → so_S → Prop} {thr : String → Prop} (hth : thr cls) (hk : names.length + 4 < k) (hk2 : 8 + (13 * (names.length + 2) + 43) ≤ 32 * k) (hc1 : 1 ≤ mc) (hs1 : 6 ≤ ms) (hrest : (rest.map fun v => v.category).sum ≤ 8)
    (dn : decode cc pc = .ok (.new idx, 3)) (dd : decode cc (pc + 3) = .ok (.dup, 1)) (dl : decode cc (pc + 4) = .ok (.ldc istr, 2)) (di : decode cc (pc + 6) = .ok (.invokespecial ic, 3)) (da : decode cc (pc + 9) = .ok (.athrow, 1)) :
    W p l e (so_rm k mc ms) s m args below meth c s.heap [] 0 0 (MQT s0 D vcl below post thr σ s mc ms) (F0 m pc ls rest) := by
  have ht := S.2.2.2.2
  refine W.newc S.1 S.2.1 S.2.2.2.1 (ht _ w1) (ht _ w2) (ht _ w3) (g := F0 m pc ls rest) rfl dn (by show 0 + 1 ≤ mc; omega) (by show 0 + 6 ≤ ms; omega) (fun cC kC f1 f2 f3 f4 => ?_)
  refine lv_dup (pc := pc + 3) (ls := ls) (rest := rest) (va := .ref s.heap.size) S.1 S.2.1 dd rfl ?_
  obtain ⟨q, hq⟩ := hX.2.2.1 _ hstr
  refine va_ldcS (pc := pc + 4) S.1 S.2.1 S.2.2.2.1 (hq s E.1) dl ?_
  intro T hT X
  have hcell : T.heap[s.heap.size]? = some (freshCell cC kC) := by rw [hT]; exact Array.getElem?_push_size
  obtain ⟨U, st, hrun, hend, hW, hsame, hq1, hsz1, ce, hce, hcc, hvm⟩ := ex_new X S.1 (hX.1 e X.admits) d0 d1 d2 d5 S.2.2.2.1 hcls hY hnames (fun w hw => (hmem w hw).elim (fun h => ht w h) (fun h => hX.2.1 w h _ _ E)) f1 f2 hcell (Nat.le_refl _) (msg := .ref q) rfl (g := F0 m (pc + 6) ls (.ref q :: .ref s.heap.size :: .ref s.heap.size :: rest)) rfl (by show ls.size = c.maxLocals; rw [hsz, S.2.2.1]) rfl rfl rfl (by rw [S.2.1]; exact di) (by rw [S.2.1]; exact da) (fun x hx => by rw [hex] at hx; cases hx) (by show names.length + 4 < k; exact hk) (by
      show 2 * 0 + (((1 : Nat) :: rest.map fun v => v.category).sum) + _ ≤ 32 * k
      rw [List.sum_cons]
      omega) hlk
  have hkeep : ∀ q : Nat, q < s.heap.size → U.heap[q]? = s.heap[q]? := fun q hq => by
    rw [hq1 q (Nat.ne_of_lt hq), hT]
    exact (Array.getElem?_push_lt hq).trans (Array.getElem?_eq_getElem hq).symm
  refine ⟨U, st, .threw s.heap.size, hrun, hend, ⟨Or.inr ⟨s.heap.size, ce, cls, rfl, hth, hce, by rw [hvm]; rfl, by rw [hcc, ← E.1.alike.findClass]; exact f1, P.kept hkeep⟩, ?_⟩, hW, [], hsame.weaken (fun x hx _ => hx) (by omega) (by rw [f4] at *; omega), fun q h => by cases h⟩
  refine ⟨?_, fun q h1 _ => hkeep q h1⟩
  rw [← hsz1, hT, Array.size_push]
  omega
end TH2
/-- a thrown object x is sought a handler for in the frame g -/
def WT (p : Program) (l : Launch) (e : Env) (R : Room) (s : State) (m : MethodId) (args : Array Value) (below : List Frame) (meth : Method) (c : Code) (H : Heap) (locs : List Loc) (cells slots : Nat) (Q : State → Prop) (g : JFrame) (x : Addr) : Prop :=
  ∀ T : State, T.heap = H → Stand p l e R s m args below meth c T locs cells slots → ∃ t : State, Steps p.tables e below ((T.setTop g).pushFrame (.throwing x)) t ∧ Q t
section TH3
variable {p : Program} {l : Launch} {e : Env} {R : Room} {s : State} {m : MethodId} {args : Array Value} {below : List Frame} {meth : Method} {c : Code} {H : Heap} {locs : List Loc} {cells slots : Nat} {Q : State → Prop}
variable {cc : ByteArray} {pc nL : Nat} {ls : Array Slot} {st : List Value} {Ts : List Cond} {own : String}
theorem ex_ready (hpl : e.platform.magicAccessors = ({} : Platform).magicAccessors) {d : ClassId} (hown : s.vm.findClass own = some d) {ct : Nat} {C1 : String} (hlink : (Cond.classLink own ct C1).before args s = true) {vm₁ : Vm} (hW : s.WarmedH vm₁) :
    ∃ c1 : ClassId, s.vm.findClass C1 = some c1 ∧ (resolveClass d ct).Gives e.toSetting vm₁ (.ok c1) (vm₁.noted d ct (.cls c1)) ∧ s.WarmedH (vm₁.noted d ct (.cls c1)) ∧ ∃ k, (vm₁.noted d ct (.cls c1)).classes[c1]? = some k := by
  obtain ⟨c1, h1, hcl⟩ := Cond.classLink_spec hown hlink e.platform hpl
  obtain ⟨dk, _, _, kt, hd, _, _, _, _, hkt, _, hop⟩ := hcl.here
  have hW' : s.WarmedH (vm₁.noted d ct (.cls c1)) := hW.noted hd hop (State.rightAt_cls hcl)
  obtain ⟨kt', hkt', -⟩ := hW'.alike.2.2 _ _ hkt
  exact ⟨c1, h1, resolveClass_links e.toSetting (hW.classLinks hcl), hW', kt', hkt'⟩
/-- the entries before are passed, the entry x takes it -/
theorem ex_seek (hpl : e.platform.magicAccessors = ({} : Platform).magicAccessors) {f : JFrame} (hown : s.vm.findClass own = some f.method.cls) {a : Addr} {cell : Cell} {C : String} (hobj : ∀ k, cell.vm ≠ .statics k) (hcl : s.vm.findClass C = some cell.cls) {x : ExceptionTableEntry} {C1 : String} (hx : covers x f.pc = true) (h0 : x.catchType ≠ 0) (hl : (Cond.classLink own x.catchType C1).before args s = true) (hyes : va_Nw (.castable C C1) s) {t : List ExceptionTableEntry} :
    ∀ (pre : List ExceptionTableEntry), (∀ y ∈ pre, covers y f.pc = true ∧ y.catchType ≠ 0 ∧ ∃ E, (Cond.classLink own y.catchType E).before args s = true ∧ nA C E s) → ∀ U : State, U.heap[a]? = some cell → s.WarmedH U.vm →
      ∃ vm', s.WarmedH vm' ∧ ∀ (Q : Handler → Pre) (E : CtlPost) (d : Bool) (acts : List Action), Sem.wp (findHandler.go f a (pre ++ x :: t)) Q E e d acts U ↔ Q (.found x.handlerPc) d acts (U.setVm vm')
  | [], _, U, hc, hW => by
    obtain ⟨c1, h1, hg, hW', hk1⟩ := ex_ready hpl hown hl hW
    obtain ⟨k0, hk0⟩ := Vm.classAt_of_findClass hcl
    obtain ⟨k0', hk0', -⟩ := hW'.alike.2.2 _ _ hk0
    have hasg : (U.vm.noted f.method.cls x.catchType (.cls c1)).assignable cell.cls c1 = true := by rw [hW'.alike.assignable]; exact vb_asgC hyes c1 cell.cls h1 hcl
    refine ⟨_, hW', fun Q E d acts => ?_⟩
    rw [List.nil_append, ex_link hx h0 hg (by rw [Vm.size_noted]; exact Nat.le_refl _) hc hobj ⟨k0', hk0'⟩ hk1, if_pos hasg]
  | y :: pre, hp, U, hc, hW => by
    obtain ⟨hy, hy0, E1, hyl, hno⟩ := hp y List.mem_cons_self
    obtain ⟨c1, h1, hg, hW', hk1⟩ := ex_ready hpl hown hyl hW
    obtain ⟨k0, hk0⟩ := Vm.classAt_of_findClass hcl
    obtain ⟨k0', hk0', -⟩ := hW'.alike.2.2 _ _ hk0
    have hasg : ¬ (U.vm.noted f.method.cls y.catchType (.cls c1)).assignable cell.cls c1 = true := by rw [hW'.alike.assignable, hno cell.cls c1 hcl h1]; decide
    obtain ⟨vm', hW2, h2⟩ := ex_seek hpl hown hobj hcl hx h0 hl hyes pre (fun z hz => hp z (List.mem_cons_of_mem _ hz)) (U.setVm (U.vm.noted f.method.cls y.catchType (.cls c1))) hc hW'
    refine ⟨vm', hW2, fun Q E d acts => ?_⟩
    rw [List.cons_append, ex_link hy hy0 hg (by rw [Vm.size_noted]; exact Nat.le_refl _) hc hobj ⟨k0', hk0'⟩ hk1, if_neg hasg, h2]
    rfl
theorem WT_catch (S : CallFix p m c cc nL s args Ts own) {a : Addr} {C C1 : String} {pre t : List ExceptionTableEntry} {x : ExceptionTableEntry} (htab : c.exceptionTable.toList = pre ++ x :: t) (hpre : ∀ y ∈ pre, covers y pc = true ∧ y.catchType ≠ 0 ∧ ∃ E, (Cond.classLink own y.catchType E).before args s = true ∧ nA C E s) (hx : covers x pc = true) (h0 : x.catchType ≠ 0) (hl : (Cond.classLink own x.catchType C1).before args s = true) (hyes : va_Nw (.castable C C1) s)
    (hcell : ∃ cell : Cell, H[a]? = some cell ∧ cell.vm.isStatics = false ∧ s.vm.findClass C = some cell.cls)
    (kk : W p l e R s m args below meth c H locs cells slots Q (F0 m x.handlerPc ls [.ref a])) : WT p l e R s m args below meth c H locs cells slots Q (F0 m pc ls st) a := by
  intro T hT X
  obtain ⟨cell, g1, g2, g3⟩ := hcell
  have hpl : e.platform.magicAccessors = ({} : Platform).magicAccessors := by rw [X.admits.platform]
  obtain ⟨vm', hW, hf⟩ := ex_seek (e := e) (args := args) hpl (f := F0 m pc ls st) S.2.2.2.1 (a := a) (fun k h => by rw [h] at g2; cases g2) g3 hx h0 hl hyes (t := t) pre hpre ((T.setTop (F0 m pc ls st)).pushFrame (.throwing a)) (by rw [Stand.throwing_heap, hT]; exact g1) (by rw [Stand.throwing_vm]; exact X.warmed)
  obtain ⟨t1, a1, b1⟩ := kk (T.setVm vm') hT (X.noted hW)
  have hm : ((T.setTop (F0 m pc ls st)).pushFrame (.throwing a)).vm.method? m = some meth := by rw [Stand.throwing_vm]; exact X.method'
  refine ⟨t1, ex_caught (g := F0 m pc ls st) X.here (pc := x.handlerPc) (vm' := vm') (fun Q E d acts => ?_) a1, b1⟩
  rw [W.findHandler_eq (f := F0 m pc ls st) hm X.code, htab]
  exact hf Q E d acts
end TH3

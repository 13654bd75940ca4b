/-! Calls: what runs a callee that has a contract over the store. -/
section SO5
variable {p : Program} {l : Launch} {e : Env} {s : State} {m : MethodId} {args : Array Value} {below : List Frame} {meth : Method} {c : Code} {H : Heap} {locs : List Loc} {cells slots : Nat} {Q : State → Prop}
variable {cc b1 : ByteArray} {pc nL n1 k k1 mcR msR mc ms index o ci N tg : Nat} {ls : Array Slot} {rest st0 As fs : List Value} {D : va_G} {cl : List vw_C} {tys : List (ClassId × FieldType)} {σ : so_S} {Ts : List Cond} {own C owner host : String} {T : u_T} {s0 : State} {x y : MethodName} {r1 : Option FieldType}
variable {Qc : Array Value → State → Outcome → State → Prop} {free : Addr → Prop}
theorem so_recv (hK : va_K D cl tys s) (hP : so_P D cl s0.heap.size σ H) (he : σ o = some (tg, .inr (ci, fs))) (hc : cl[ci]? = some (C, T, N)) : ∃ cellB : Cell, H[o]? = some cellB ∧ cellB.vm.isStatics = false ∧ s.vm.findClass C = some cellB.cls := by
  obtain ⟨-, q', h1, cell, g1, g2, g3, -⟩ := hP o _ he
  exact ⟨cell, g1, by rw [g3]; rfl, by rw [g2]; exact (hK.1 ci _ hc).2.1⟩
theorem so_PreV (hK : va_K D cl tys s) (E : so_Kn s0 s) (hP : so_P D cl s0.heap.size σ H) (hS : va_S (so_A s0.heap.size) s.heap H locs) (he : σ o = some (tg, .inr (ci, fs))) (hc : cl[ci]? = some (C, T, N)) : PreV s H C o (va_Pc (.ref o :: As) (so_Pre s0 D cl σ)) As :=
  ⟨so_blind, so_recv hK hP he hc, fun U hU hW => ⟨rfl, E.at hS hU hW, by rw [hU]; exact hP⟩⟩
theorem so_PreS (E : so_Kn s0 s) (hP : so_P D cl s0.heap.size σ H) (hS : va_S (so_A s0.heap.size) s.heap H locs) : PreS s H (va_Pc As (so_Pre s0 D cl σ)) As :=
  ⟨so_blind, fun U hU hW => ⟨rfl, E.at hS hU hW, by rw [hU]; exact hP⟩⟩
theorem so_words (hB : so_B Ts s0 D cl tys) (E : so_Kn s0 s) {w0 : Cond} (h : w0 ∈ Ts) : ∀ w ∈ [w0], ∀ (a' : Array Value) (U : State), s.WarmedH U.vm → w.before a' U = true := by
  intro w hw a' U hW
  rw [List.mem_singleton.mp hw]
  exact hB.1 w0 h a' U (State.WarmedH.trans E.1 hW)
theorem so_room {k k1 n1 : Nat} (h : k1 < k) (h2 : n1 ≤ 13) : 8 + (n1 + 11) + 32 * k1 ≤ 32 * k := by omega
/-- invokevirtual, the named method itself is run -/
theorem ru_V (S : CallFix p m c cc nL s args Ts own) (hB : so_B Ts s0 D cl tys) (hK : va_K D cl tys s) (E : so_Kn s0 s) (hP : so_P D cl s0.heap.size σ H) (hS : va_S (so_A s0.heap.size) s.heap H locs)
    (hM : Met l y [.code y b1 n1 r1] (so_rm k1 mc ms) (va_Pc (.ref o :: As) (so_Pre s0 D cl σ)) Qc mc ms free) (he : σ o = some (tg, .inr (ci, fs))) (hc : cl[ci]? = some (C, T, N))
    (w1 : Cond.methodLink own index y ∈ Ts) (w2 : Cond.instanceMethod y ∈ Ts) (w3 : Cond.selects C y y ∈ Ts) (w4 : Cond.code y b1 n1 r1 ∈ Ts) (w5 : Cond.initialized y.cls ∈ Ts)
    (hd : y.cls ≠ "java/lang/invoke/MethodHandle" ∧ y.cls ≠ "java/lang/invoke/VarHandle" ∧ (parseMethodDescriptor y.desc).map (fun d => d.parameters.length) = some As.length) (hn1 : n1 ≤ 13) (hk : k1 < k) (hc1 : cells + mc ≤ mcR) (hs1 : slots + ms ≤ msR)
    (hsize : ls.size = nL) (hst : st0 = As.reverse ++ .ref o :: rest) (hW : (rest.map fun v => v.category).sum ≤ 8) (hdg : decode cc pc = .ok (.invokevirtual index, 3)) :
    va_Run p l e (so_rm k mcR msR) s m args below meth c H locs cells slots mc ms (F0 m pc ls st0) rest (Qc (Value.ref o :: As).toArray) free := by
  have ht := S.2.2.2.2
  refine va_runV (n := As.length) S hM ⟨⟨rfl, rfl, hk, so_room hk hn1, so_words hB E w4, List.mem_singleton.mpr rfl, ht _ w4, ht _ w5, ⟨hd.1, hd.2.1⟩, fun sig h => ?_, ht _ w1⟩, ht _ w2, ht _ w3⟩ (so_PreV hK E hP hS he hc) rfl rfl hsize hst (by simpa [JFrame.monitorRoom] using hW) hdg ⟨hc1, hs1⟩
  have h2 := hd.2.2
  rw [h] at h2
  exact (Option.some.inj h2).symm
/-- invokevirtual through a name: another method is selected -/
theorem ru_U (S : CallFix p m c cc nL s args Ts own) (hB : so_B Ts s0 D cl tys) (hK : va_K D cl tys s) (E : so_Kn s0 s) (hP : so_P D cl s0.heap.size σ H) (hS : va_S (so_A s0.heap.size) s.heap H locs)
    (hM : Met l y [.code y b1 n1 r1] (so_rm k1 mc ms) (va_Pc (.ref o :: As) (so_Pre s0 D cl σ)) Qc mc ms free) (he : σ o = some (tg, .inr (ci, fs))) (hc : cl[ci]? = some (C, T, N))
    (w1 : Cond.methodLink own index x ∈ Ts) (w0 : Cond.sameMethod x.cls owner x.name x.desc ∈ Ts) (w6 : va_Decl s ⟨owner, x.name, x.desc⟩) (w2 : Cond.instanceMethod y ∈ Ts) (w3 : Cond.selects C x y ∈ Ts) (w4 : Cond.code y b1 n1 r1 ∈ Ts) (w5 : Cond.initialized y.cls ∈ Ts)
    (hd : owner ≠ "java/lang/invoke/MethodHandle" ∧ owner ≠ "java/lang/invoke/VarHandle" ∧ (parseMethodDescriptor x.desc).map (fun d => d.parameters.length) = some As.length) (hn1 : n1 ≤ 13) (hk : k1 < k) (hc1 : cells + mc ≤ mcR) (hs1 : slots + ms ≤ msR)
    (hsize : ls.size = nL) (hst : st0 = As.reverse ++ .ref o :: rest) (hW : (rest.map fun v => v.category).sum ≤ 8) (hdg : decode cc pc = .ok (.invokevirtual index, 3)) :
    va_Run p l e (so_rm k mcR msR) s m args below meth c H locs cells slots mc ms (F0 m pc ls st0) rest (Qc (Value.ref o :: As).toArray) free := by
  have ht := S.2.2.2.2
  refine va_runU (n := As.length) S hM ⟨⟨rfl, rfl, hk, so_room hk hn1, so_words hB E w4, List.mem_singleton.mpr rfl⟩, ht _ w4, ht _ w5, ⟨hd.1, hd.2.1⟩, fun sig h => ?_, ht _ w1, ht _ w0, w6, ht _ w3, ht _ w2⟩ (so_PreV hK E hP hS he hc) rfl rfl hsize hst (by simpa [JFrame.monitorRoom] using hW) hdg ⟨hc1, hs1⟩
  have h2 := hd.2.2
  rw [h] at h2
  exact (Option.some.inj h2).symm
theorem ru_S (S : CallFix p m c cc nL s args Ts own) (hB : so_B Ts s0 D cl tys) (E : so_Kn s0 s) (hP : so_P D cl s0.heap.size σ H) (hS : va_S (so_A s0.heap.size) s.heap H locs)
    (hM : Met l y [.code y b1 n1 r1] (so_rm k1 mc ms) (va_Pc As (so_Pre s0 D cl σ)) Qc mc ms free)
    (w1 : Cond.methodLink own index y ∈ Ts) (w2 : Cond.static y ∈ Ts) (w4 : Cond.code y b1 n1 r1 ∈ Ts) (w5 : Cond.initialized y.cls ∈ Ts)
    (hd : y.cls ≠ "java/lang/invoke/MethodHandle" ∧ y.cls ≠ "java/lang/invoke/VarHandle" ∧ (parseMethodDescriptor y.desc).map (fun d => d.parameters.length) = some As.length) (hn1 : n1 ≤ 13) (hk : k1 < k) (hc1 : cells + mc ≤ mcR) (hs1 : slots + ms ≤ msR)
    (hsize : ls.size = nL) (hst : st0 = As.reverse ++ rest) (hW : (rest.map fun v => v.category).sum ≤ 8) (hdg : decode cc pc = .ok (.invokestatic index, 3)) :
    va_Run p l e (so_rm k mcR msR) s m args below meth c H locs cells slots mc ms (F0 m pc ls st0) rest (Qc As.toArray) free := by
  have ht := S.2.2.2.2
  refine va_runS (n := As.length) S hM ⟨⟨rfl, rfl, hk, so_room hk hn1, so_words hB E w4, List.mem_singleton.mpr rfl, ht _ w4, ht _ w5, ⟨hd.1, hd.2.1⟩, fun sig h => ?_, ht _ w1⟩, ht _ w2⟩ (so_PreS E hP hS) rfl rfl hsize hst (by simpa [JFrame.monitorRoom] using hW) hdg ⟨hc1, hs1⟩
  have h2 := hd.2.2
  rw [h] at h2
  exact (Option.some.inj h2).symm
theorem ru_I (S : CallFix p m c cc nL s args Ts own) (hB : so_B Ts s0 D cl tys) (E : so_Kn s0 s) (hP : so_P D cl s0.heap.size σ H) (hS : va_S (so_A s0.heap.size) s.heap H locs)
    (hM : Met l y [.code y b1 n1 none] (so_rm k1 mc ms) (va_Pc (.ref o :: As) (so_Pre s0 D cl σ)) Qc mc ms free)
    (w1 : Cond.methodLink own index y ∈ Ts) (w2 : Cond.instanceMethod y ∈ Ts) (w4 : Cond.code y b1 n1 none ∈ Ts) (w5 : Cond.initialized y.cls ∈ Ts) (hy1 : y.name = "<init>")
    (hd : y.cls ≠ "java/lang/invoke/MethodHandle" ∧ y.cls ≠ "java/lang/invoke/VarHandle" ∧ (parseMethodDescriptor y.desc).map (fun d => d.parameters.length) = some As.length) (hn1 : n1 ≤ 13) (hk : k1 < k) (hc1 : cells + mc ≤ mcR) (hs1 : slots + ms ≤ msR)
    (hsize : ls.size = nL) (hst : st0 = As.reverse ++ .ref o :: rest) (hW : (rest.map fun v => v.category).sum ≤ 8) (hdg : decode cc pc = .ok (.invokespecial index, 3)) :
    va_Run p l e (so_rm k mcR msR) s m args below meth c H locs cells slots mc ms (F0 m pc ls st0) rest (Qc (Value.ref o :: As).toArray) free := by
  have ht := S.2.2.2.2
  refine va_runI (n := As.length) S hM ⟨⟨rfl, rfl, hk, so_room hk hn1, so_words hB E w4, List.mem_singleton.mpr rfl, ht _ w4, ht _ w5, ⟨hd.1, hd.2.1⟩, fun sig h => ?_, ht _ w1⟩, hy1, ht _ w2⟩ (so_PreS E hP hS) rfl rfl hsize hst (by simpa [JFrame.monitorRoom] using hW) hdg ⟨hc1, hs1⟩
  have h2 := hd.2.2
  rw [h] at h2
  exact (Option.some.inj h2).symm
theorem ru_IN (S : CallFix p m c cc nL s args Ts own) (hB : so_B Ts s0 D cl tys) (E : so_Kn s0 s) (hP : so_P D cl s0.heap.size σ H) (hS : va_S (so_A s0.heap.size) s.heap H locs)
    (hM : Met l y [.code y b1 n1 none] (so_rm k1 mc ms) (va_Pc (.ref o :: As) (so_Pre s0 D cl σ)) Qc mc ms free)
    (w1 : Cond.methodLinkNest own index y host ∈ Ts) (w2 : Cond.instanceMethod y ∈ Ts) (w4 : Cond.code y b1 n1 none ∈ Ts) (w5 : Cond.initialized y.cls ∈ Ts) (hy1 : y.name = "<init>")
    (hd : y.cls ≠ "java/lang/invoke/MethodHandle" ∧ y.cls ≠ "java/lang/invoke/VarHandle" ∧ (parseMethodDescriptor y.desc).map (fun d => d.parameters.length) = some As.length) (hn1 : n1 ≤ 13) (hk : k1 < k) (hc1 : cells + mc ≤ mcR) (hs1 : slots + ms ≤ msR)
    (hsize : ls.size = nL) (hst : st0 = As.reverse ++ .ref o :: rest) (hW : (rest.map fun v => v.category).sum ≤ 8) (hdg : decode cc pc = .ok (.invokespecial index, 3)) :
    va_Run p l e (so_rm k mcR msR) s m args below meth c H locs cells slots mc ms (F0 m pc ls st0) rest (Qc (Value.ref o :: As).toArray) free := by
  have ht := S.2.2.2.2
  refine va_runIN (n := As.length) S hM ⟨⟨⟨rfl, rfl, hk, so_room hk hn1, so_words hB E w4, List.mem_singleton.mpr rfl⟩, ht _ w4, ht _ w5, ⟨hd.1, hd.2.1⟩, fun sig h => ?_, ht _ w1⟩, hy1, ht _ w2⟩ (so_PreS E hP hS) rfl rfl hsize hst (by simpa [JFrame.monitorRoom] using hW) hdg ⟨hc1, hs1⟩
  have h2 := hd.2.2
  rw [h] at h2
  exact (Option.some.inj h2).symm
end SO5

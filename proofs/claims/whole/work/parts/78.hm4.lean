/-! HoldMaps: count, make, refer, root, walk, step, entry. -/
theorem cast_self {s : State} {C : String} {c0 : ClassId} (h : s.vm.findClass C = some c0) : va_Nw (.castable C C) s := by
  have ha : s.vm.assignable c0 c0 = true := va_asg _ _
  unfold va_Nw
  simp [Cond.before, Cond.holds, Cond.value, h, ha]
section HM4
variable {p : Program} {l : Launch} {e : Env} {R : Room} {s : State} {m : MethodId} {args : Array Value} {below : List Frame} {meth : Method} {c : Code} {H : Heap} {locs : List Loc} {cells slots : Nat} {Q : State → Prop}
variable {cc : ByteArray} {pc nL : Nat} {ls : Array Slot} {rest : List Value} {D : va_G} {ca : Nat → ClassId} {s0 : State} {σ : so_S} {DE : Nat} {A : Ax} {k : Wks} {bk tm : Nat} {L : Nat → List En} {sl : Nat → Option En} {mp : Nat}
theorem hm_g161 (S : CallFix p m c cc nL s args tbl "HoldMaps") (K : va_K D vcl (tyl ca) s) (P : so_P D vcl s0.heap.size σ H) (M : CmR ca DE σ A k bk tm L sl) (hmp : mp < 5) (hdg : decode cc pc = .ok (.getfield 161, 3)) (kk : W p l e R s m args below meth c H locs cells slots Q (F0 m (pc + 3) ls (.int (bI (k.1 mp)) :: rest))) : W p l e R s m args below meth c H locs cells slots Q (F0 m pc ls (.ref (A.1 mp) :: rest)) := by
  rcases mp with _ | _ | _ | _ | _ | mp
  · exact gf_HM_161_We S K P M.1.1 rfl hdg kk
  · exact gf_HM_161_So S K P M.2.1.1 rfl hdg kk
  · exact gf_HM_161_Id S K P M.2.2.1.1 rfl hdg kk
  · exact gf_HM_161_Pl S K P M.2.2.2.1.1 rfl hdg kk
  · exact gf_HM_161_La S K P M.2.2.2.2.1 rfl hdg kk
  · omega
theorem hm_g164 (S : CallFix p m c cc nL s args tbl "HoldMaps") (K : va_K D vcl (tyl ca) s) (P : so_P D vcl s0.heap.size σ H) (M : CmR ca DE σ A k bk tm L sl) (hmp : mp < 5) (hdg : decode cc pc = .ok (.getfield 164, 3)) (kk : W p l e R s m args below meth c H locs cells slots Q (F0 m (pc + 3) ls (.int (bI (k.2.1 mp)) :: rest))) : W p l e R s m args below meth c H locs cells slots Q (F0 m pc ls (.ref (A.1 mp) :: rest)) := by
  rcases mp with _ | _ | _ | _ | _ | mp
  · exact gf_HM_164_We S K P M.1.1 rfl hdg kk
  · exact gf_HM_164_So S K P M.2.1.1 rfl hdg kk
  · exact gf_HM_164_Id S K P M.2.2.1.1 rfl hdg kk
  · exact gf_HM_164_Pl S K P M.2.2.2.1.1 rfl hdg kk
  · exact gf_HM_164_La S K P M.2.2.2.2.1 rfl hdg kk
  · omega
theorem hm_g167 (S : CallFix p m c cc nL s args tbl "HoldMaps") (K : va_K D vcl (tyl ca) s) (P : so_P D vcl s0.heap.size σ H) (M : CmR ca DE σ A k bk tm L sl) (hmp : mp < 5) (hdg : decode cc pc = .ok (.getfield 167, 3)) (kk : W p l e R s m args below meth c H locs cells slots Q (F0 m (pc + 3) ls (.int (nI (k.2.2 mp)) :: rest))) : W p l e R s m args below meth c H locs cells slots Q (F0 m pc ls (.ref (A.1 mp) :: rest)) := by
  rcases mp with _ | _ | _ | _ | _ | mp
  · exact gf_HM_167_We S K P M.1.1 rfl hdg kk
  · exact gf_HM_167_So S K P M.2.1.1 rfl hdg kk
  · exact gf_HM_167_Id S K P M.2.2.1.1 rfl hdg kk
  · exact gf_HM_167_Pl S K P M.2.2.2.1.1 rfl hdg kk
  · exact gf_HM_167_La S K P M.2.2.2.2.1 rfl hdg kk
  · omega
theorem hm_p161 (S : CallFix p m c cc nL s args tbl "HoldMaps") (K : va_K D vcl (tyl ca) s) (P : so_P D vcl s0.heap.size σ H) (hS : va_S (so_A s0.heap.size) s.heap H locs) (M : CmR ca DE σ A k bk tm L sl) (hmp : mp < 5) (b : Bool) (hdg : decode cc pc = .ok (.putfield 161, 3)) (kk : ∀ (σ1 : so_S) (H1 : Heap) (locs1 : List Loc), so_P D vcl s0.heap.size σ1 H1 → va_S (so_A s0.heap.size) s.heap H1 locs1 → CmR ca DE σ1 A (va_up k.1 mp b, k.2.1, k.2.2) bk tm L sl → fT (tM mp) σ σ1 → W p l e R s m args below meth c H1 locs1 cells slots Q (F0 m (pc + 3) ls rest)) : W p l e R s m args below meth c H locs cells slots Q (F0 m pc ls (.int (bI b) :: .ref (A.1 mp) :: rest)) := by
  rcases mp with _ | _ | _ | _ | _ | mp
  · exact pf_HM_161_We S K P hS M.1.1 (Nat.le_of_ble_eq_true rfl) (bI_nar b) (bI_fit b) hdg (fun H1 locs1 P1 hS1 => kk _ H1 locs1 P1 hS1 ⟨⟨so_us, M.1.2.1.ag (ag_up M.1.1 (fun z => by rcases z with (z | z) | z <;> (simp only at z; omega))), M.1.2.2.imp (fun Lm z => z.fr (ag_up M.1.1 (fun z => by rcases z with z | z <;> (simp only at z; omega))))⟩, M.2.1.ag ((fT.rf.up (P := tM 0) M.1.1 (Or.inl rfl)).ag (fun t h => tM_ne (by decide) (by decide) (by decide) h)), M.2.2.1.ag ((fT.rf.up (P := tM 0) M.1.1 (Or.inl rfl)).ag (fun t h => tM_ne (by decide) (by decide) (by decide) h)), M.2.2.2.1.ag ((fT.rf.up (P := tM 0) M.1.1 (Or.inl rfl)).ag (fun t h => tM_ne (by decide) (by decide) (by decide) h)), M.2.2.2.2.ag ((fT.rf.up (P := tM 0) M.1.1 (Or.inl rfl)).ag (fun t h => tM_ne (by decide) (by decide) (by decide) h))⟩ (fT.rf.up M.1.1 (Or.inl rfl)))
  · exact pf_HM_161_So S K P hS M.2.1.1 (Nat.le_of_ble_eq_true rfl) (bI_nar b) (bI_fit b) hdg (fun H1 locs1 P1 hS1 => kk _ H1 locs1 P1 hS1 ⟨M.1.ag ((fT.rf.up (P := tM 1) M.2.1.1 (Or.inl rfl)).ag (fun t h => tM_ne (by decide) (by decide) (by decide) h)), ⟨so_us, M.2.1.2.ag (ag_up M.2.1.1 (fun z => by rcases z with (z | z) | z <;> (simp only at z; omega)))⟩, M.2.2.1.ag ((fT.rf.up (P := tM 1) M.2.1.1 (Or.inl rfl)).ag (fun t h => tM_ne (by decide) (by decide) (by decide) h)), M.2.2.2.1.ag ((fT.rf.up (P := tM 1) M.2.1.1 (Or.inl rfl)).ag (fun t h => tM_ne (by decide) (by decide) (by decide) h)), M.2.2.2.2.ag ((fT.rf.up (P := tM 1) M.2.1.1 (Or.inl rfl)).ag (fun t h => tM_ne (by decide) (by decide) (by decide) h))⟩ (fT.rf.up M.2.1.1 (Or.inl rfl)))
  · exact pf_HM_161_Id S K P hS M.2.2.1.1 (Nat.le_of_ble_eq_true rfl) (bI_nar b) (bI_fit b) hdg (fun H1 locs1 P1 hS1 => kk _ H1 locs1 P1 hS1 ⟨M.1.ag ((fT.rf.up (P := tM 2) M.2.2.1.1 (Or.inl rfl)).ag (fun t h => tM_ne (by decide) (by decide) (by decide) h)), M.2.1.ag ((fT.rf.up (P := tM 2) M.2.2.1.1 (Or.inl rfl)).ag (fun t h => tM_ne (by decide) (by decide) (by decide) h)), ⟨so_us, by rw [so_un (so_ne M.2.2.1.2.1 M.2.2.1.1 (show 32 ≠ 12 by decide))]; exact M.2.2.1.2.1, fun i hi x hx => (M.2.2.1.2.2 i hi x hx).ag (ag_up M.2.2.1.1 (by show ¬ 1000 ≤ _; simp only; omega))⟩, M.2.2.2.1.ag ((fT.rf.up (P := tM 2) M.2.2.1.1 (Or.inl rfl)).ag (fun t h => tM_ne (by decide) (by decide) (by decide) h)), M.2.2.2.2.ag ((fT.rf.up (P := tM 2) M.2.2.1.1 (Or.inl rfl)).ag (fun t h => tM_ne (by decide) (by decide) (by decide) h))⟩ (fT.rf.up M.2.2.1.1 (Or.inl rfl)))
  · exact pf_HM_161_Pl S K P hS M.2.2.2.1.1 (Nat.le_of_ble_eq_true rfl) (bI_nar b) (bI_fit b) hdg (fun H1 locs1 P1 hS1 => kk _ H1 locs1 P1 hS1 ⟨M.1.ag ((fT.rf.up (P := tM 3) M.2.2.2.1.1 (Or.inl rfl)).ag (fun t h => tM_ne (by decide) (by decide) (by decide) h)), M.2.1.ag ((fT.rf.up (P := tM 3) M.2.2.2.1.1 (Or.inl rfl)).ag (fun t h => tM_ne (by decide) (by decide) (by decide) h)), M.2.2.1.ag ((fT.rf.up (P := tM 3) M.2.2.2.1.1 (Or.inl rfl)).ag (fun t h => tM_ne (by decide) (by decide) (by decide) h)), ⟨so_us, M.2.2.2.1.2.ag (ag_up M.2.2.2.1.1 (fun z => by rcases z with (z | z) | z <;> (simp only at z; omega)))⟩, M.2.2.2.2.ag ((fT.rf.up (P := tM 3) M.2.2.2.1.1 (Or.inl rfl)).ag (fun t h => tM_ne (by decide) (by decide) (by decide) h))⟩ (fT.rf.up M.2.2.2.1.1 (Or.inl rfl)))
  · exact pf_HM_161_La S K P hS M.2.2.2.2.1 (Nat.le_of_ble_eq_true rfl) (bI_nar b) (bI_fit b) hdg (fun H1 locs1 P1 hS1 => kk _ H1 locs1 P1 hS1 ⟨M.1.ag ((fT.rf.up (P := tM 4) M.2.2.2.2.1 (Or.inl rfl)).ag (fun t h => tM_ne (by decide) (by decide) (by decide) h)), M.2.1.ag ((fT.rf.up (P := tM 4) M.2.2.2.2.1 (Or.inl rfl)).ag (fun t h => tM_ne (by decide) (by decide) (by decide) h)), M.2.2.1.ag ((fT.rf.up (P := tM 4) M.2.2.2.2.1 (Or.inl rfl)).ag (fun t h => tM_ne (by decide) (by decide) (by decide) h)), M.2.2.2.1.ag ((fT.rf.up (P := tM 4) M.2.2.2.2.1 (Or.inl rfl)).ag (fun t h => tM_ne (by decide) (by decide) (by decide) h)), ⟨so_us, M.2.2.2.2.2.ag (ag_up M.2.2.2.2.1 (fun z => by rcases z with (z | z) | z <;> (simp only at z; omega)))⟩⟩ (fT.rf.up M.2.2.2.2.1 (Or.inl rfl)))
  · omega
theorem hm_p164 (S : CallFix p m c cc nL s args tbl "HoldMaps") (K : va_K D vcl (tyl ca) s) (P : so_P D vcl s0.heap.size σ H) (hS : va_S (so_A s0.heap.size) s.heap H locs) (M : CmR ca DE σ A k bk tm L sl) (hmp : mp < 5) (b : Bool) (hdg : decode cc pc = .ok (.putfield 164, 3)) (kk : ∀ (σ1 : so_S) (H1 : Heap) (locs1 : List Loc), so_P D vcl s0.heap.size σ1 H1 → va_S (so_A s0.heap.size) s.heap H1 locs1 → CmR ca DE σ1 A (k.1, va_up k.2.1 mp b, k.2.2) bk tm L sl → fT (tM mp) σ σ1 → W p l e R s m args below meth c H1 locs1 cells slots Q (F0 m (pc + 3) ls rest)) : W p l e R s m args below meth c H locs cells slots Q (F0 m pc ls (.int (bI b) :: .ref (A.1 mp) :: rest)) := by
  rcases mp with _ | _ | _ | _ | _ | mp
  · exact pf_HM_164_We S K P hS M.1.1 (Nat.le_of_ble_eq_true rfl) (bI_nar b) (bI_fit b) hdg (fun H1 locs1 P1 hS1 => kk _ H1 locs1 P1 hS1 ⟨⟨so_us, M.1.2.1.ag (ag_up M.1.1 (fun z => by rcases z with (z | z) | z <;> (simp only at z; omega))), M.1.2.2.imp (fun Lm z => z.fr (ag_up M.1.1 (fun z => by rcases z with z | z <;> (simp only at z; omega))))⟩, M.2.1.ag ((fT.rf.up (P := tM 0) M.1.1 (Or.inl rfl)).ag (fun t h => tM_ne (by decide) (by decide) (by decide) h)), M.2.2.1.ag ((fT.rf.up (P := tM 0) M.1.1 (Or.inl rfl)).ag (fun t h => tM_ne (by decide) (by decide) (by decide) h)), M.2.2.2.1.ag ((fT.rf.up (P := tM 0) M.1.1 (Or.inl rfl)).ag (fun t h => tM_ne (by decide) (by decide) (by decide) h)), M.2.2.2.2.ag ((fT.rf.up (P := tM 0) M.1.1 (Or.inl rfl)).ag (fun t h => tM_ne (by decide) (by decide) (by decide) h))⟩ (fT.rf.up M.1.1 (Or.inl rfl)))
  · exact pf_HM_164_So S K P hS M.2.1.1 (Nat.le_of_ble_eq_true rfl) (bI_nar b) (bI_fit b) hdg (fun H1 locs1 P1 hS1 => kk _ H1 locs1 P1 hS1 ⟨M.1.ag ((fT.rf.up (P := tM 1) M.2.1.1 (Or.inl rfl)).ag (fun t h => tM_ne (by decide) (by decide) (by decide) h)), ⟨so_us, M.2.1.2.ag (ag_up M.2.1.1 (fun z => by rcases z with (z | z) | z <;> (simp only at z; omega)))⟩, M.2.2.1.ag ((fT.rf.up (P := tM 1) M.2.1.1 (Or.inl rfl)).ag (fun t h => tM_ne (by decide) (by decide) (by decide) h)), M.2.2.2.1.ag ((fT.rf.up (P := tM 1) M.2.1.1 (Or.inl rfl)).ag (fun t h => tM_ne (by decide) (by decide) (by decide) h)), M.2.2.2.2.ag ((fT.rf.up (P := tM 1) M.2.1.1 (Or.inl rfl)).ag (fun t h => tM_ne (by decide) (by decide) (by decide) h))⟩ (fT.rf.up M.2.1.1 (Or.inl rfl)))
  · exact pf_HM_164_Id S K P hS M.2.2.1.1 (Nat.le_of_ble_eq_true rfl) (bI_nar b) (bI_fit b) hdg (fun H1 locs1 P1 hS1 => kk _ H1 locs1 P1 hS1 ⟨M.1.ag ((fT.rf.up (P := tM 2) M.2.2.1.1 (Or.inl rfl)).ag (fun t h => tM_ne (by decide) (by decide) (by decide) h)), M.2.1.ag ((fT.rf.up (P := tM 2) M.2.2.1.1 (Or.inl rfl)).ag (fun t h => tM_ne (by decide) (by decide) (by decide) h)), ⟨so_us, by rw [so_un (so_ne M.2.2.1.2.1 M.2.2.1.1 (show 32 ≠ 12 by decide))]; exact M.2.2.1.2.1, fun i hi x hx => (M.2.2.1.2.2 i hi x hx).ag (ag_up M.2.2.1.1 (by show ¬ 1000 ≤ _; simp only; omega))⟩, M.2.2.2.1.ag ((fT.rf.up (P := tM 2) M.2.2.1.1 (Or.inl rfl)).ag (fun t h => tM_ne (by decide) (by decide) (by decide) h)), M.2.2.2.2.ag ((fT.rf.up (P := tM 2) M.2.2.1.1 (Or.inl rfl)).ag (fun t h => tM_ne (by decide) (by decide) (by decide) h))⟩ (fT.rf.up M.2.2.1.1 (Or.inl rfl)))
  · exact pf_HM_164_Pl S K P hS M.2.2.2.1.1 (Nat.le_of_ble_eq_true rfl) (bI_nar b) (bI_fit b) hdg (fun H1 locs1 P1 hS1 => kk _ H1 locs1 P1 hS1 ⟨M.1.ag ((fT.rf.up (P := tM 3) M.2.2.2.1.1 (Or.inl rfl)).ag (fun t h => tM_ne (by decide) (by decide) (by decide) h)), M.2.1.ag ((fT.rf.up (P := tM 3) M.2.2.2.1.1 (Or.inl rfl)).ag (fun t h => tM_ne (by decide) (by decide) (by decide) h)), M.2.2.1.ag ((fT.rf.up (P := tM 3) M.2.2.2.1.1 (Or.inl rfl)).ag (fun t h => tM_ne (by decide) (by decide) (by decide) h)), ⟨so_us, M.2.2.2.1.2.ag (ag_up M.2.2.2.1.1 (fun z => by rcases z with (z | z) | z <;> (simp only at z; omega)))⟩, M.2.2.2.2.ag ((fT.rf.up (P := tM 3) M.2.2.2.1.1 (Or.inl rfl)).ag (fun t h => tM_ne (by decide) (by decide) (by decide) h))⟩ (fT.rf.up M.2.2.2.1.1 (Or.inl rfl)))
  · exact pf_HM_164_La S K P hS M.2.2.2.2.1 (Nat.le_of_ble_eq_true rfl) (bI_nar b) (bI_fit b) hdg (fun H1 locs1 P1 hS1 => kk _ H1 locs1 P1 hS1 ⟨M.1.ag ((fT.rf.up (P := tM 4) M.2.2.2.2.1 (Or.inl rfl)).ag (fun t h => tM_ne (by decide) (by decide) (by decide) h)), M.2.1.ag ((fT.rf.up (P := tM 4) M.2.2.2.2.1 (Or.inl rfl)).ag (fun t h => tM_ne (by decide) (by decide) (by decide) h)), M.2.2.1.ag ((fT.rf.up (P := tM 4) M.2.2.2.2.1 (Or.inl rfl)).ag (fun t h => tM_ne (by decide) (by decide) (by decide) h)), M.2.2.2.1.ag ((fT.rf.up (P := tM 4) M.2.2.2.2.1 (Or.inl rfl)).ag (fun t h => tM_ne (by decide) (by decide) (by decide) h)), ⟨so_us, M.2.2.2.2.2.ag (ag_up M.2.2.2.2.1 (fun z => by rcases z with (z | z) | z <;> (simp only at z; omega)))⟩⟩ (fT.rf.up M.2.2.2.2.1 (Or.inl rfl)))
  · omega
theorem hm_p167 (S : CallFix p m c cc nL s args tbl "HoldMaps") (K : va_K D vcl (tyl ca) s) (P : so_P D vcl s0.heap.size σ H) (hS : va_S (so_A s0.heap.size) s.heap H locs) (M : CmR ca DE σ A k bk tm L sl) (hmp : mp < 5) (w : Nat) (hdg : decode cc pc = .ok (.putfield 167, 3)) (kk : ∀ (σ1 : so_S) (H1 : Heap) (locs1 : List Loc), so_P D vcl s0.heap.size σ1 H1 → va_S (so_A s0.heap.size) s.heap H1 locs1 → CmR ca DE σ1 A (k.1, k.2.1, va_up k.2.2 mp w) bk tm L sl → fT (tM mp) σ σ1 → W p l e R s m args below meth c H1 locs1 cells slots Q (F0 m (pc + 3) ls rest)) : W p l e R s m args below meth c H locs cells slots Q (F0 m pc ls (.int (nI w) :: .ref (A.1 mp) :: rest)) := by
  rcases mp with _ | _ | _ | _ | _ | mp
  · exact pf_HM_167_We S K P hS M.1.1 (Nat.le_of_ble_eq_true rfl) rfl rfl hdg (fun H1 locs1 P1 hS1 => kk _ H1 locs1 P1 hS1 ⟨⟨so_us, M.1.2.1.ag (ag_up M.1.1 (fun z => by rcases z with (z | z) | z <;> (simp only at z; omega))), M.1.2.2.imp (fun Lm z => z.fr (ag_up M.1.1 (fun z => by rcases z with z | z <;> (simp only at z; omega))))⟩, M.2.1.ag ((fT.rf.up (P := tM 0) M.1.1 (Or.inl rfl)).ag (fun t h => tM_ne (by decide) (by decide) (by decide) h)), M.2.2.1.ag ((fT.rf.up (P := tM 0) M.1.1 (Or.inl rfl)).ag (fun t h => tM_ne (by decide) (by decide) (by decide) h)), M.2.2.2.1.ag ((fT.rf.up (P := tM 0) M.1.1 (Or.inl rfl)).ag (fun t h => tM_ne (by decide) (by decide) (by decide) h)), M.2.2.2.2.ag ((fT.rf.up (P := tM 0) M.1.1 (Or.inl rfl)).ag (fun t h => tM_ne (by decide) (by decide) (by decide) h))⟩ (fT.rf.up M.1.1 (Or.inl rfl)))
  · exact pf_HM_167_So S K P hS M.2.1.1 (Nat.le_of_ble_eq_true rfl) rfl rfl hdg (fun H1 locs1 P1 hS1 => kk _ H1 locs1 P1 hS1 ⟨M.1.ag ((fT.rf.up (P := tM 1) M.2.1.1 (Or.inl rfl)).ag (fun t h => tM_ne (by decide) (by decide) (by decide) h)), ⟨so_us, M.2.1.2.ag (ag_up M.2.1.1 (fun z => by rcases z with (z | z) | z <;> (simp only at z; omega)))⟩, M.2.2.1.ag ((fT.rf.up (P := tM 1) M.2.1.1 (Or.inl rfl)).ag (fun t h => tM_ne (by decide) (by decide) (by decide) h)), M.2.2.2.1.ag ((fT.rf.up (P := tM 1) M.2.1.1 (Or.inl rfl)).ag (fun t h => tM_ne (by decide) (by decide) (by decide) h)), M.2.2.2.2.ag ((fT.rf.up (P := tM 1) M.2.1.1 (Or.inl rfl)).ag (fun t h => tM_ne (by decide) (by decide) (by decide) h))⟩ (fT.rf.up M.2.1.1 (Or.inl rfl)))
  · exact pf_HM_167_Id S K P hS M.2.2.1.1 (Nat.le_of_ble_eq_true rfl) rfl rfl hdg (fun H1 locs1 P1 hS1 => kk _ H1 locs1 P1 hS1 ⟨M.1.ag ((fT.rf.up (P := tM 2) M.2.2.1.1 (Or.inl rfl)).ag (fun t h => tM_ne (by decide) (by decide) (by decide) h)), M.2.1.ag ((fT.rf.up (P := tM 2) M.2.2.1.1 (Or.inl rfl)).ag (fun t h => tM_ne (by decide) (by decide) (by decide) h)), ⟨so_us, by rw [so_un (so_ne M.2.2.1.2.1 M.2.2.1.1 (show 32 ≠ 12 by decide))]; exact M.2.2.1.2.1, fun i hi x hx => (M.2.2.1.2.2 i hi x hx).ag (ag_up M.2.2.1.1 (by show ¬ 1000 ≤ _; simp only; omega))⟩, M.2.2.2.1.ag ((fT.rf.up (P := tM 2) M.2.2.1.1 (Or.inl rfl)).ag (fun t h => tM_ne (by decide) (by decide) (by decide) h)), M.2.2.2.2.ag ((fT.rf.up (P := tM 2) M.2.2.1.1 (Or.inl rfl)).ag (fun t h => tM_ne (by decide) (by decide) (by decide) h))⟩ (fT.rf.up M.2.2.1.1 (Or.inl rfl)))
  · exact pf_HM_167_Pl S K P hS M.2.2.2.1.1 (Nat.le_of_ble_eq_true rfl) rfl rfl hdg (fun H1 locs1 P1 hS1 => kk _ H1 locs1 P1 hS1 ⟨M.1.ag ((fT.rf.up (P := tM 3) M.2.2.2.1.1 (Or.inl rfl)).ag (fun t h => tM_ne (by decide) (by decide) (by decide) h)), M.2.1.ag ((fT.rf.up (P := tM 3) M.2.2.2.1.1 (Or.inl rfl)).ag (fun t h => tM_ne (by decide) (by decide) (by decide) h)), M.2.2.1.ag ((fT.rf.up (P := tM 3) M.2.2.2.1.1 (Or.inl rfl)).ag (fun t h => tM_ne (by decide) (by decide) (by decide) h)), ⟨so_us, M.2.2.2.1.2.ag (ag_up M.2.2.2.1.1 (fun z => by rcases z with (z | z) | z <;> (simp only at z; omega)))⟩, M.2.2.2.2.ag ((fT.rf.up (P := tM 3) M.2.2.2.1.1 (Or.inl rfl)).ag (fun t h => tM_ne (by decide) (by decide) (by decide) h))⟩ (fT.rf.up M.2.2.2.1.1 (Or.inl rfl)))
  · exact pf_HM_167_La S K P hS M.2.2.2.2.1 (Nat.le_of_ble_eq_true rfl) rfl rfl hdg (fun H1 locs1 P1 hS1 => kk _ H1 locs1 P1 hS1 ⟨M.1.ag ((fT.rf.up (P := tM 4) M.2.2.2.2.1 (Or.inl rfl)).ag (fun t h => tM_ne (by decide) (by decide) (by decide) h)), M.2.1.ag ((fT.rf.up (P := tM 4) M.2.2.2.2.1 (Or.inl rfl)).ag (fun t h => tM_ne (by decide) (by decide) (by decide) h)), M.2.2.1.ag ((fT.rf.up (P := tM 4) M.2.2.2.2.1 (Or.inl rfl)).ag (fun t h => tM_ne (by decide) (by decide) (by decide) h)), M.2.2.2.1.ag ((fT.rf.up (P := tM 4) M.2.2.2.2.1 (Or.inl rfl)).ag (fun t h => tM_ne (by decide) (by decide) (by decide) h)), ⟨so_us, M.2.2.2.2.2.ag (ag_up M.2.2.2.2.1 (fun z => by rcases z with (z | z) | z <;> (simp only at z; omega)))⟩⟩ (fT.rf.up M.2.2.2.2.1 (Or.inl rfl)))
  · omega
end HM4
set_option maxHeartbeats 400000 in
set_option maxRecDepth 100000 in
theorem c_HM_count (l : Launch) {s0 : State} {D : va_G} {ca : Nat → ClassId} (hB : so_B tbl s0 D vcl (tyl ca)) {σ : so_S} {DE hm : Nat} {B : Bx} {X : Hx} {k : Wks} {bk tm : Nat} {L : Nat → List En} {sl : Nat → Option En} {o : Obs} (M : HMR ca DE σ hm B X k bk tm L sl) (so1 : simO X o) (x : Int32) {n2 : Nat} (hcd : X.cd = nI n2) : so_D l s0 D vcl y_HM_count b_HM_count 2 (some .int) 5 [.ref hm, .int x] σ (fun v => v = some (.int (co_O o (bk, tm, n2) x))) := by
  refine so_ofR hB (by decide) (Nat.le_of_ble_eq_true rfl) ?_
  intro p e s m below meth c ls S K E hr hlk P hS hl
  have hl : lv_has ls 2 [(0, .ref hm), (1, .int x)] := hl
  have hcb : cb X.al 32 = cb o.1 32 := cb_cong (fun i hi => (so1 i hi).1)
  refine lv_iload_n S.1 S.2.1 d_HM_count_0 rfl (lv_at hl 1 rfl) ?_
  have e3 : (3 : Int32).toInt = 3 := by decide
  rcases (show x.toInt < 0 ∨ 3 < x.toInt ∨ (x = 0 ∨ x = 1 ∨ x = 2 ∨ x = 3) by
    rcases Int.lt_or_le x.toInt 0 with h | h
    · exact Or.inl h
    · rcases Int.lt_or_le 3 x.toInt with h2 | h2
      · exact Or.inr (Or.inl h2)
      · refine Or.inr (Or.inr ?_)
        have h5 : x.toInt = 0 ∨ x.toInt = 1 ∨ x.toInt = 2 ∨ x.toInt = 3 := by omega
        rcases h5 with h5 | h5 | h5 | h5
        · exact Or.inl (Int32.toInt_inj.mp (h5.trans (by decide)))
        · exact Or.inr (Or.inl (Int32.toInt_inj.mp (h5.trans (by decide))))
        · exact Or.inr (Or.inr (Or.inl (Int32.toInt_inj.mp (h5.trans (by decide)))))
        · exact Or.inr (Or.inr (Or.inr (Int32.toInt_inj.mp (h5.trans (by decide)))))) with h | h | h
  · refine lv_tableOut (tgt := 64) S.1 S.2.1 d_HM_count_1 (Or.inl h) (by decide) ?_
    refine lv_iconst (v := -1) S.1 S.2.1 d_HM_count_64 (by decide) ?_
    refine so_iretR S hr hlk ?_ d_HM_count_65
    unfold co_O
    rw [if_neg (fun z => by rw [z] at h; exact absurd h (by decide)), if_neg (fun z => by rw [z] at h; exact absurd h (by decide)), if_neg (fun z => by rw [z] at h; exact absurd h (by decide)), if_neg (fun z => by rw [z] at h; exact absurd h (by decide))]
  · refine lv_tableOut (tgt := 64) S.1 S.2.1 d_HM_count_1 (Or.inr h) (by decide) ?_
    refine lv_iconst (v := -1) S.1 S.2.1 d_HM_count_64 (by decide) ?_
    refine so_iretR S hr hlk ?_ d_HM_count_65
    unfold co_O
    rw [if_neg (fun z => by rw [z] at h; exact absurd h (by decide)), if_neg (fun z => by rw [z] at h; exact absurd h (by decide)), if_neg (fun z => by rw [z] at h; exact absurd h (by decide)), if_neg (fun z => by rw [z] at h; exact absurd h (by decide))]
  · rcases h with rfl | rfl | rfl | rfl
    · refine lv_tableIn (tgt := 32) (off := 31) S.1 S.2.1 d_HM_count_1 (by decide) (by decide) (by decide) (by decide) ?_
      refine lv_aload_n S.1 S.2.1 d_HM_count_32 rfl (lv_at hl 0 rfl) ?_
      refine gf_HM_10_HM S K P M.1 rfl d_HM_count_33 ?_
      refine so_callR (cv_HM_193_He S hB K E P hS M.2.2.1.1 (c_He_living l hB M.2.2.1) rfl (by decide) (Nat.zero_le _) (Nat.zero_le _) hl.1 rfl (Nat.le_of_ble_eq_true rfl) d_HM_count_36) (fun v hv => ?_)
      subst hv
      refine so_iretR S hr hlk ?_ d_HM_count_39
      rw [hcb]; rfl
    · refine lv_tableIn (tgt := 40) (off := 39) S.1 S.2.1 d_HM_count_1 (by decide) (by decide) (by decide) (by decide) ?_
      refine lv_aload_n S.1 S.2.1 d_HM_count_40 rfl (lv_at hl 0 rfl) ?_
      refine gf_HM_10_HM S K P M.1 rfl d_HM_count_41 ?_
      refine gf_HM_196_He S K P M.2.2.1.1 rfl d_HM_count_44 ?_
      refine so_iretR S hr hlk ?_ d_HM_count_47
      rw [hcd]; rfl
    · refine lv_tableIn (tgt := 48) (off := 47) S.1 S.2.1 d_HM_count_1 (by decide) (by decide) (by decide) (by decide) ?_
      refine lv_aload_n S.1 S.2.1 d_HM_count_48 rfl (lv_at hl 0 rfl) ?_
      refine gf_HM_19_HM S K P M.1 rfl d_HM_count_49 ?_
      refine gf_HM_199_We S K P M.2.2.2.1.1 rfl d_HM_count_52 ?_
      exact so_iretR S hr hlk rfl d_HM_count_55
    · refine lv_tableIn (tgt := 56) (off := 55) S.1 S.2.1 d_HM_count_1 (by decide) (by decide) (by decide) (by decide) ?_
      refine lv_aload_n S.1 S.2.1 d_HM_count_56 rfl (lv_at hl 0 rfl) ?_
      refine gf_HM_26_HM S K P M.1 rfl d_HM_count_57 ?_
      refine gf_HM_202_So S K P M.2.2.2.2.1.1 rfl d_HM_count_60 ?_
      exact so_iretR S hr hlk rfl d_HM_count_63
set_option maxHeartbeats 400000 in
set_option maxRecDepth 100000 in
theorem c_HM_walk (l : Launch) {s0 : State} {D : va_G} {ca : Nat → ClassId} (hB : so_B tbl s0 D vcl (tyl ca)) {σ : so_S} (hX : exX l s0) {DE hm : Nat} {B : Bx} {X : Hx} {k : Wks} {bk tm : Nat} {L : Nat → List En} {sl : Nat → Option En} {o : Obs} (M : HMR ca DE σ hm B X k bk tm L sl) (so1 : simO X o) (x : Int32) : so_T l s0 D vcl y_HM_walk b_HM_walk 3 none 9 1 6 [.ref hm, .int x] σ (fun v σ1 => v = none ∧ (∃ mp, mp < 5 ∧ x = nI mp ∧ HMR ca DE σ1 hm B X (va_up k.1 mp true, va_up k.2.1 mp false, va_up k.2.2 mp 0) bk tm L sl) ∧ fT tC σ σ1) (fun C => C = xA ∧ is_M x = false) := by
  refine so_ofT hB (by decide) (Nat.le_of_ble_eq_true rfl) ?_
  intro p e s m below meth c ls S K E hr hlk hex P hS hl
  have hl : lv_has ls 3 [(0, .ref hm), (1, .int x)] := hl
  obtain ⟨f, hf1, hf2⟩ := M.2.1
  refine lv_iload_n S.1 S.2.1 d_HM_walk_0 rfl (lv_at hl 1 rfl) ?_
  refine so_callR (cs_HM_143 S hB E P hS (c_HM_isMap l hB x) rfl (by decide) (Nat.zero_le _) (Nat.zero_le _) hl.1 rfl (Nat.le_of_ble_eq_true rfl) d_HM_walk_1) (fun v hv => ?_)
  subst hv
  refine lv_if_ne (tgt := 17) S.1 S.2.1 d_HM_walk_4 rfl (fun h4 => ?_) (fun h4 => ?_)
  · have hM : is_M x = true := by
      cases hq : is_M x with
      | true => rfl
      | false => rw [hq] at h4; exact absurd rfl h4
    obtain ⟨mp, hmp, rfl⟩ := isM_c hM
    refine lv_aload_n S.1 S.2.1 d_HM_walk_17 rfl (lv_at hl 0 rfl) ?_
    refine gf_HM_32_HM S K P M.1 rfl d_HM_walk_18 ?_
    refine lv_iload_n S.1 S.2.1 d_HM_walk_21 rfl (lv_at hl 1 rfl) ?_
    refine so_aaldN S K P hf1 4 rfl hmp (by decide) d_HM_walk_22 ?_
    rw [hf2 mp hmp]
    show W p l e _ s m _ below meth c _ _ _ _ _ (F0 m _ ls (.ref (B.A.1 mp) :: _))
    refine lv_astore_n S.1 S.2.1 d_HM_walk_23 rfl hl (by decide) rfl (fun ls hl => ?_)
    refine lv_aload_n S.1 S.2.1 d_HM_walk_24 rfl (lv_at hl 0 rfl) ?_
    refine lv_iconst (v := 1) S.1 S.2.1 d_HM_walk_25 (by decide) ?_
    rw [show (1 : Int32) = bI true from rfl]
    refine hm_p161 S K P hS M.2.2.2 hmp true d_HM_walk_26 (fun σ1 H locs P hS M1 F1 => ?_)
    refine lv_aload_n S.1 S.2.1 d_HM_walk_29 rfl (lv_at hl 0 rfl) ?_
    refine lv_iconst (v := 0) S.1 S.2.1 d_HM_walk_30 (by decide) ?_
    rw [show (0 : Int32) = bI false from rfl]
    refine hm_p164 S K P hS M1 hmp false d_HM_walk_31 (fun σ2 H locs P hS M2 F2 => ?_)
    refine lv_aload_n S.1 S.2.1 d_HM_walk_34 rfl (lv_at hl 0 rfl) ?_
    refine lv_iconst (v := 0) S.1 S.2.1 d_HM_walk_35 (by decide) ?_
    rw [show (0 : Int32) = nI 0 from rfl]
    refine hm_p167 S K P hS M2 hmp 0 d_HM_walk_36 (fun σ3 H locs P hS M3 F3 => ?_)
    refine W_imp (fun t h => MQ.toT h) (so_vret S hr hlk P hS (Nat.zero_le _) (Nat.zero_le _) ?_ d_HM_walk_39)
    exact ⟨rfl, ⟨mp, hmp, rfl, M.agT hmp ((F1.tr F2).tr F3) M3⟩, ((F1.tr F2).tr F3).mono (tC_M hmp)⟩
  · exact thr_A S E hX hex hlk hl.1 P (tx := "no such map") (by decide +kernel) (⟨rfl, (bI_0 _).mp h4⟩) (by decide) (by decide) (by decide) (Nat.le_of_ble_eq_true rfl) d_HM_walk_7 d_HM_walk_10 d_HM_walk_11 d_HM_walk_13 d_HM_walk_16
set_option maxHeartbeats 400000 in
set_option maxRecDepth 100000 in
theorem c_HM_step (l : Launch) {s0 : State} {D : va_G} {ca : Nat → ClassId} (hB : so_B tbl s0 D vcl (tyl ca)) {σ : so_S} (hX : exX l s0) {DE hm : Nat} {B : Bx} {X : Hx} {k : Wks} {bk tm : Nat} {L : Nat → List En} {sl : Nat → Option En} {o : Obs} (M : HMR ca DE σ hm B X k bk tm L sl) (so1 : simO X o) (hLn : ∀ i, (L i).length ≤ 32) (hky : ∀ mp x, mp < 5 → x ∈ lsE L sl mp → x.2.1 < 2 ^ 31) (hwa : ∀ i, i < 5 → k.2.2 i < 2 ^ 30) (x : Int32) : so_T l s0 D vcl y_HM_step b_HM_step 4 (some .int) 9 1 6 [.ref hm, .int x] σ (fun v σ1 => (∃ mp en, mp < 5 ∧ x = nI mp ∧ k.1 mp = true ∧ k.2.1 mp = false ∧ (lsE L sl mp)[k.2.2 mp]? = some en ∧ v = some (.int (nI en.2.1)) ∧ HMR ca DE σ1 hm B X (k.1, k.2.1, va_up k.2.2 mp (k.2.2 mp + 1)) bk tm L sl) ∧ fT tC σ σ1) (fun C => (C = xA ∧ (is_M x = false ∨ ∃ mp, mp < 5 ∧ x = nI mp ∧ k.1 mp = false)) ∨ (C = xS ∧ ∃ mp, mp < 5 ∧ x = nI mp ∧ k.1 mp = true ∧ k.2.1 mp = true) ∨ (C = xN ∧ ∃ mp, mp < 5 ∧ x = nI mp ∧ k.1 mp = true ∧ k.2.1 mp = false ∧ (lsE L sl mp)[k.2.2 mp]? = none)) := by
  refine so_ofT hB (by decide) (Nat.le_of_ble_eq_true rfl) ?_
  intro p e s m below meth c ls S K E hr hlk hex P hS hl
  have hl : lv_has ls 4 [(0, .ref hm), (1, .int x)] := hl
  obtain ⟨f, hf1, hf2⟩ := M.2.1
  refine lv_iload_n S.1 S.2.1 d_HM_step_0 rfl (lv_at hl 1 rfl) ?_
  refine so_callR (cs_HM_143 S hB E P hS (c_HM_isMap l hB x) rfl (by decide) (Nat.zero_le _) (Nat.zero_le _) hl.1 rfl (Nat.le_of_ble_eq_true rfl) d_HM_step_1) (fun v hv => ?_)
  subst hv
  refine lv_if_eq (tgt := 19) S.1 S.2.1 d_HM_step_4 rfl (fun h4 => ?_) (fun h4 => ?_)
  · exact thr_A S E hX hex hlk hl.1 P (tx := "no such map, or no walk of it") (by decide +kernel) (Or.inl ⟨rfl, Or.inl ((bI_0 _).mp h4)⟩) (by decide) (by decide) (by decide) (Nat.le_of_ble_eq_true rfl) d_HM_step_19 d_HM_step_22 d_HM_step_23 d_HM_step_25 d_HM_step_28
  · have hM : is_M x = true := by
      cases hq : is_M x with
      | true => rfl
      | false => rw [hq] at h4; exact absurd rfl h4
    obtain ⟨mp, hmp, rfl⟩ := isM_c hM
    refine lv_aload_n S.1 S.2.1 d_HM_step_7 rfl (lv_at hl 0 rfl) ?_
    refine gf_HM_32_HM S K P M.1 rfl d_HM_step_8 ?_
    refine lv_iload_n S.1 S.2.1 d_HM_step_11 rfl (lv_at hl 1 rfl) ?_
    refine so_aaldN S K P hf1 4 rfl hmp (by decide) d_HM_step_12 ?_
    rw [hf2 mp hmp]
    show W p l e _ s m _ below meth c _ _ _ _ _ (F0 m _ ls (.ref (B.A.1 mp) :: _))
    refine hm_g161 S K P M.2.2.2 hmp d_HM_step_13 ?_
    refine lv_if_ne (tgt := 29) S.1 S.2.1 d_HM_step_16 rfl (fun h16 => ?_) (fun h16 => ?_)
    · have hw1 : k.1 mp = true := by
        cases hq : k.1 mp with
        | true => rfl
        | false => rw [hq] at h16; exact absurd rfl h16
      refine lv_aload_n S.1 S.2.1 d_HM_step_29 rfl (lv_at hl 0 rfl) ?_
      refine gf_HM_32_HM S K P M.1 rfl d_HM_step_30 ?_
      refine lv_iload_n S.1 S.2.1 d_HM_step_33 rfl (lv_at hl 1 rfl) ?_
      refine so_aaldN S K P hf1 4 rfl hmp (by decide) d_HM_step_34 ?_
      rw [hf2 mp hmp]
      show W p l e _ s m _ below meth c _ _ _ _ _ (F0 m _ ls (.ref (B.A.1 mp) :: _))
      refine lv_astore_n S.1 S.2.1 d_HM_step_35 rfl hl (by decide) rfl (fun ls hl => ?_)
      refine lv_aload_n S.1 S.2.1 d_HM_step_36 rfl (lv_at hl 0 rfl) ?_
      refine hm_g164 S K P M.2.2.2 hmp d_HM_step_37 ?_
      refine lv_if_eq (tgt := 53) S.1 S.2.1 d_HM_step_40 rfl (fun h40 => ?_) (fun h40 => ?_)
      · have hw2 : k.2.1 mp = false := (bI_0 _).mp h40
        refine lv_aload_n S.1 S.2.1 d_HM_step_53 rfl (lv_at hl 0 rfl) ?_
        refine lv_aload_n S.1 S.2.1 d_HM_step_54 rfl (lv_at hl 0 rfl) ?_
        refine hm_g167 S K P M.2.2.2 hmp d_HM_step_55 ?_
        have hln : (lsE L sl mp).length < 2 ^ 31 := by
          have h5 := hLn mp
          rcases mp with _ | _ | _ | mp
          · exact Nat.lt_of_le_of_lt h5 (by decide)
          · exact Nat.lt_of_le_of_lt h5 (by decide)
          · show (idN sl 16).length < _
            rw [idN_len]
            have := cn_le sl 16
            omega
          · exact Nat.lt_of_le_of_lt h5 (by decide)
        refine so_callR (hm_key S hB K E P hS M.2.2.2 hmp hLn (nI (k.2.2 mp)) (by decide) (Nat.zero_le _) (Nat.zero_le _) hl.1 (Nat.le_of_ble_eq_true rfl) d_HM_step_58) (fun v hv2 => ?_)
        subst hv2
        rw [atI_o hln (by have := hwa mp hmp; omega)]
        refine lv_istore_n S.1 S.2.1 d_HM_step_61 rfl hl (by decide) rfl (fun ls hl => ?_)
        refine lv_iload_n S.1 S.2.1 d_HM_step_62 rfl (lv_at hl 0 rfl) ?_
        refine lv_iconst (v := (-1)) S.1 S.2.1 d_HM_step_63 (by decide) ?_
        refine lv_icmp_ne (tgt := 77) S.1 S.2.1 d_HM_step_64 rfl (fun h64 => ?_) (fun h64 => ?_)
        · obtain ⟨en, hen⟩ : ∃ en, (lsE L sl mp)[k.2.2 mp]? = some en := by
            cases hq : (lsE L sl mp)[k.2.2 mp]? with
            | none => rw [hq] at h64; exact absurd rfl h64
            | some en => exact ⟨en, rfl⟩
          rw [hen] at hl
          have hl : lv_has ls 4 [(3, .int (nI en.2.1)), (2, .ref (B.A.1 mp)), (0, .ref hm), (1, .int (nI mp))] := hl
          refine lv_aload_n S.1 S.2.1 d_HM_step_77 rfl (lv_at hl 1 rfl) ?_
          refine lv_dup S.1 S.2.1 d_HM_step_78 rfl ?_
          refine hm_g167 S K P M.2.2.2 hmp d_HM_step_79 ?_
          refine lv_iconst (v := 1) S.1 S.2.1 d_HM_step_82 (by decide) ?_
          refine lv_iadd S.1 S.2.1 d_HM_step_83 ?_
          rw [nI_1]
          refine hm_p167 S K P hS M.2.2.2 hmp (k.2.2 mp + 1) d_HM_step_84 (fun σ1 H locs P hS M1 F1 => ?_)
          refine lv_iload_n S.1 S.2.1 d_HM_step_87 rfl (lv_at hl 0 rfl) ?_
          refine W_imp (fun t h => MQ.toT h) (so_iret S hr hlk P hS (Nat.zero_le _) (Nat.zero_le _) ?_ d_HM_step_88)
          exact ⟨⟨mp, en, hmp, rfl, hw1, hw2, hen, rfl, M.agT hmp F1 M1⟩, F1.mono (tC_M hmp)⟩
        · have hn : (lsE L sl mp)[k.2.2 mp]? = none := by
            cases hq : (lsE L sl mp)[k.2.2 mp]? with
            | none => rfl
            | some en =>
              rw [hq] at h64
              exact absurd (show nI en.2.1 < 0 by rw [show nI en.2.1 = -1 from h64]; decide) (nI_pos (hky mp en hmp (List.mem_of_getElem? hq)))
          exact thr_N S E hX hex hlk hl.1 P (tx := "the walk is at its end") (by decide +kernel) (Or.inr (Or.inr ⟨rfl, mp, hmp, rfl, hw1, hw2, hn⟩)) (by decide) (by decide) (by decide) (Nat.le_of_ble_eq_true rfl) d_HM_step_67 d_HM_step_70 d_HM_step_71 d_HM_step_73 d_HM_step_76
      · have hw2 : k.2.1 mp = true := by
          cases hq : k.2.1 mp with
          | true => rfl
          | false => rw [hq] at h40; exact absurd rfl h40
        exact thr_S S E hX hex hlk hl.1 P (tx := "the map was changed since the walk began") (by decide +kernel) (Or.inr (Or.inl ⟨rfl, mp, hmp, rfl, hw1, hw2⟩)) (by decide) (by decide) (by decide) (Nat.le_of_ble_eq_true rfl) d_HM_step_43 d_HM_step_46 d_HM_step_47 d_HM_step_49 d_HM_step_52
    · exact thr_A S E hX hex hlk hl.1 P (tx := "no such map, or no walk of it") (by decide +kernel) (Or.inl ⟨rfl, Or.inr ⟨mp, hmp, rfl, (bI_0 _).mp h16⟩⟩) (by decide) (by decide) (by decide) (Nat.le_of_ble_eq_true rfl) d_HM_step_19 d_HM_step_22 d_HM_step_23 d_HM_step_25 d_HM_step_28
set_option maxHeartbeats 400000 in
set_option maxRecDepth 100000 in
theorem c_HM_entry (l : Launch) {s0 : State} {D : va_G} {ca : Nat → ClassId} (hB : so_B tbl s0 D vcl (tyl ca)) {σ : so_S} (hX : exX l s0) {DE hm : Nat} {B : Bx} {X : Hx} {k : Wks} {bk tm : Nat} {L : Nat → List En} {sl : Nat → Option En} {o : Obs} (M : HMR ca DE σ hm B X k bk tm L sl) (so1 : simO X o) (hLn : ∀ i, (L i).length ≤ 32) (hky : ∀ mp x, mp < 5 → x ∈ lsE L sl mp → x.2.1 < 2 ^ 31 ∧ x.2.2.2.1 < 2 ^ 31) (x kx wx : Int32) : so_T l s0 D vcl y_HM_entry b_HM_entry 5 (some .int) 9 1 6 [.ref hm, .int x, .int kx, .int wx] σ (fun v σ1 => (∃ mp en, mp < 5 ∧ x = nI mp ∧ atI (lsE L sl mp) kx = some en ∧ ((wx = 0 ∧ v = some (.int (nI en.2.1))) ∨ (wx = 1 ∧ v = some (.int (nI en.2.2.2.1))))) ∧ σ1 = σ) (fun C => C = xN ∧ (is_M x = false ∨ wx < 0 ∨ 1 < wx ∨ ∃ mp, mp < 5 ∧ x = nI mp ∧ atI (lsE L sl mp) kx = none)) := by
  refine so_ofT hB (by decide) (Nat.le_of_ble_eq_true rfl) ?_
  intro p e s m below meth c ls S K E hr hlk hex P hS hl
  have hl : lv_has ls 5 [(0, .ref hm), (1, .int x), (2, .int kx), (3, .int wx)] := hl
  obtain ⟨f, hf1, hf2⟩ := M.2.1
  refine lv_iload_n S.1 S.2.1 d_HM_entry_0 rfl (lv_at hl 1 rfl) ?_
  refine so_callR (cs_HM_143 S hB E P hS (c_HM_isMap l hB x) rfl (by decide) (Nat.zero_le _) (Nat.zero_le _) hl.1 rfl (Nat.le_of_ble_eq_true rfl) d_HM_entry_1) (fun v hv => ?_)
  subst hv
  refine lv_if_eq (tgt := 16) S.1 S.2.1 d_HM_entry_4 rfl (fun h4 => ?_) (fun h4 => ?_)
  · exact thr_N S E hX hex hlk hl.1 P (tx := "no such map or part of an entry") (by decide +kernel) (⟨rfl, Or.inl ((bI_0 _).mp h4)⟩) (by decide) (by decide) (by decide) (Nat.le_of_ble_eq_true rfl) d_HM_entry_16 d_HM_entry_19 d_HM_entry_20 d_HM_entry_22 d_HM_entry_25
  · have hM : is_M x = true := by
      cases hq : is_M x with
      | true => rfl
      | false => rw [hq] at h4; exact absurd rfl h4
    obtain ⟨mp, hmp, rfl⟩ := isM_c hM
    refine lv_iload_n S.1 S.2.1 d_HM_entry_7 rfl (lv_at hl 3 rfl) ?_
    refine lv_if_lt (tgt := 16) S.1 S.2.1 d_HM_entry_8 rfl (fun h8 => ?_) (fun h8 => ?_)
    · exact thr_N S E hX hex hlk hl.1 P (tx := "no such map or part of an entry") (by decide +kernel) (⟨rfl, Or.inr (Or.inl h8)⟩) (by decide) (by decide) (by decide) (Nat.le_of_ble_eq_true rfl) d_HM_entry_16 d_HM_entry_19 d_HM_entry_20 d_HM_entry_22 d_HM_entry_25
    · refine lv_iload_n S.1 S.2.1 d_HM_entry_11 rfl (lv_at hl 3 rfl) ?_
      refine lv_iconst (v := 1) S.1 S.2.1 d_HM_entry_12 (by decide) ?_
      refine lv_icmp_le (tgt := 26) S.1 S.2.1 d_HM_entry_13 rfl (fun h13 => ?_) (fun h13 => ?_)
      · have h01 : wx = 0 ∨ wx = 1 := by
          obtain ⟨j, hj, rfl⟩ := nI_of2 (M := 1) (n := 1) (by decide) h8 h13
          rcases Nat.lt_or_ge j 1 with h | h
          · exact Or.inl (by rw [show j = 0 by omega]; rfl)
          · exact Or.inr (by rw [show j = 1 by omega]; rfl)
        refine lv_iload_n S.1 S.2.1 d_HM_entry_26 rfl (lv_at hl 3 rfl) ?_
        refine lv_if_ne (tgt := 43) S.1 S.2.1 d_HM_entry_27 rfl (fun h27 => ?_) (fun h27 => ?_)
        · refine lv_aload_n S.1 S.2.1 d_HM_entry_43 rfl (lv_at hl 0 rfl) ?_
          refine gf_HM_32_HM S K P M.1 rfl d_HM_entry_44 ?_
          refine lv_iload_n S.1 S.2.1 d_HM_entry_47 rfl (lv_at hl 1 rfl) ?_
          refine so_aaldN S K P hf1 4 rfl hmp (by decide) d_HM_entry_48 ?_
          rw [hf2 mp hmp]
          show W p l e _ s m _ below meth c _ _ _ _ _ (F0 m _ ls (.ref (B.A.1 mp) :: _))
          refine lv_iload_n S.1 S.2.1 d_HM_entry_49 rfl (lv_at hl 2 rfl) ?_
          refine so_callR (hm_val S hB K E P hS M.2.2.2 hmp hLn kx (by decide) (Nat.zero_le _) (Nat.zero_le _) hl.1 (Nat.le_of_ble_eq_true rfl) d_HM_entry_50) (fun v hv2 => ?_)
          subst hv2
          refine lv_istore S.1 S.2.1 d_HM_entry_53 hl (by decide) rfl (fun ls hl => ?_)
          refine lv_iload S.1 S.2.1 d_HM_entry_55 (lv_at hl 0 rfl) ?_
          refine lv_iconst (v := (-1)) S.1 S.2.1 d_HM_entry_57 (by decide) ?_
          refine lv_icmp_ne (tgt := 71) S.1 S.2.1 d_HM_entry_58 rfl (fun h58 => ?_) (fun h58 => ?_)
          · obtain ⟨en, hen⟩ : ∃ en, atI (lsE L sl mp) kx = some en := by
              cases hq : atI (lsE L sl mp) kx with
              | none => rw [hq] at h58; exact absurd rfl h58
              | some en => exact ⟨en, rfl⟩
            rw [hen] at hl
            have hl : lv_has ls 5 [(4, .int (nI (en.2.2.2.1))), (0, .ref hm), (1, .int (nI mp)), (2, .int kx), (3, .int wx)] := hl
            refine lv_iload S.1 S.2.1 d_HM_entry_71 (lv_at hl 0 rfl) ?_
            refine W_imp (fun t h => MQ.toT h) (so_iret S hr hlk P hS (Nat.zero_le _) (Nat.zero_le _) ?_ d_HM_entry_73)
            refine ⟨⟨mp, en, hmp, rfl, hen, ?_⟩, rfl⟩
            exact Or.inr ⟨h01.resolve_left h27, rfl⟩
          · have hn : atI (lsE L sl mp) kx = none := by
              cases hq : atI (lsE L sl mp) kx with
              | none => rfl
              | some en =>
                rw [hq] at h58
                have hb := hky mp en hmp (atI_mem hq)
                exact absurd (show nI (en.2.2.2.1) < 0 by rw [show nI (en.2.2.2.1) = -1 from h58]; decide) (nI_pos (hb.2))
            exact thr_N S E hX hex hlk hl.1 P (tx := "no such entry") (by decide +kernel) (⟨rfl, Or.inr (Or.inr (Or.inr ⟨mp, hmp, rfl, hn⟩))⟩) (by decide) (by decide) (by decide) (Nat.le_of_ble_eq_true rfl) d_HM_entry_61 d_HM_entry_64 d_HM_entry_65 d_HM_entry_67 d_HM_entry_70
        · refine lv_aload_n S.1 S.2.1 d_HM_entry_30 rfl (lv_at hl 0 rfl) ?_
          refine gf_HM_32_HM S K P M.1 rfl d_HM_entry_31 ?_
          refine lv_iload_n S.1 S.2.1 d_HM_entry_34 rfl (lv_at hl 1 rfl) ?_
          refine so_aaldN S K P hf1 4 rfl hmp (by decide) d_HM_entry_35 ?_
          rw [hf2 mp hmp]
          show W p l e _ s m _ below meth c _ _ _ _ _ (F0 m _ ls (.ref (B.A.1 mp) :: _))
          refine lv_iload_n S.1 S.2.1 d_HM_entry_36 rfl (lv_at hl 2 rfl) ?_
          refine so_callR (hm_key S hB K E P hS M.2.2.2 hmp hLn kx (by decide) (Nat.zero_le _) (Nat.zero_le _) hl.1 (Nat.le_of_ble_eq_true rfl) d_HM_entry_37) (fun v hv2 => ?_)
          subst hv2
          refine lv_goto (tgt := 53) S.1 S.2.1 d_HM_entry_40 rfl ?_
          refine lv_istore S.1 S.2.1 d_HM_entry_53 hl (by decide) rfl (fun ls hl => ?_)
          refine lv_iload S.1 S.2.1 d_HM_entry_55 (lv_at hl 0 rfl) ?_
          refine lv_iconst (v := (-1)) S.1 S.2.1 d_HM_entry_57 (by decide) ?_
          refine lv_icmp_ne (tgt := 71) S.1 S.2.1 d_HM_entry_58 rfl (fun h58 => ?_) (fun h58 => ?_)
          · obtain ⟨en, hen⟩ : ∃ en, atI (lsE L sl mp) kx = some en := by
              cases hq : atI (lsE L sl mp) kx with
              | none => rw [hq] at h58; exact absurd rfl h58
              | some en => exact ⟨en, rfl⟩
            rw [hen] at hl
            have hl : lv_has ls 5 [(4, .int (nI (en.2.1))), (0, .ref hm), (1, .int (nI mp)), (2, .int kx), (3, .int wx)] := hl
            refine lv_iload S.1 S.2.1 d_HM_entry_71 (lv_at hl 0 rfl) ?_
            refine W_imp (fun t h => MQ.toT h) (so_iret S hr hlk P hS (Nat.zero_le _) (Nat.zero_le _) ?_ d_HM_entry_73)
            refine ⟨⟨mp, en, hmp, rfl, hen, ?_⟩, rfl⟩
            exact Or.inl ⟨h27, rfl⟩
          · have hn : atI (lsE L sl mp) kx = none := by
              cases hq : atI (lsE L sl mp) kx with
              | none => rfl
              | some en =>
                rw [hq] at h58
                have hb := hky mp en hmp (atI_mem hq)
                exact absurd (show nI (en.2.1) < 0 by rw [show nI (en.2.1) = -1 from h58]; decide) (nI_pos (hb.1))
            exact thr_N S E hX hex hlk hl.1 P (tx := "no such entry") (by decide +kernel) (⟨rfl, Or.inr (Or.inr (Or.inr ⟨mp, hmp, rfl, hn⟩))⟩) (by decide) (by decide) (by decide) (Nat.le_of_ble_eq_true rfl) d_HM_entry_61 d_HM_entry_64 d_HM_entry_65 d_HM_entry_67 d_HM_entry_70
      · exact thr_N S E hX hex hlk hl.1 P (tx := "no such map or part of an entry") (by decide +kernel) (⟨rfl, Or.inr (Or.inr (Or.inl (Int32.not_le.mp h13)))⟩) (by decide) (by decide) (by decide) (Nat.le_of_ble_eq_true rfl) d_HM_entry_16 d_HM_entry_19 d_HM_entry_20 d_HM_entry_22 d_HM_entry_25

/-! The law's cases: from a case's first instruction to the loop's end (wip/tools/m_law2.py). -/
/-- what stays through the law -/
def LF (p : Program) (l : Launch) (s : State) (m : MethodId) (c : Code) (b L : Nat) (xs : Nat → Int32) (D : va_G) (ca : Nat → ClassId) (DE mi : Nat) : Prop :=
  CallFix p m c code 7 s #[Value.ref b] tbl "HoldMapsLaw" ∧ so_B tbl s D vcl (tyl ca) ∧ va_K D vcl (tyl ca) s ∧ so_Kn s s ∧ exX l s ∧ jX s D ca DE mi ∧ va_X b L xs s s.heap ∧ b < s.heap.size ∧ L ≤ 2048
/-- behind t calls both stand for the model's state st -/
def LI (s : State) (D : va_G) (ca : Nat → ClassId) (DE hm mo out : Nat) (B : Bx) (ar : Nat → Nat) (t : Nat) (st : Mst) (σ : so_S) (H : Heap) (locs : List Loc) : Prop :=
  so_P D vcl s.heap.size σ H ∧ va_S (so_A s.heap.size) s.heap H locs ∧ HmM ca DE σ hm B st ∧ (∃ r0, MoM ca σ mo ar r0 st) ∧ (∃ f, outR ca σ out f) ∧ invS t st
def LV (ls : Array Slot) (b hm mo out t : Nat) : Prop := lv_has ls 7 [(0, .ref b), (1, .ref hm), (2, .ref mo), (3, .ref out), (4, .int (nI (4 * t)))]
theorem MoM.cell {ca : Nat → ClassId} {σ : so_S} {mo : Nat} {ar : Nat → Nat} {r : Nat} {s : Mst} (h : MoM ca σ mo ar r s) : ∃ z, σ mo = some (50, oMo z ar) := by
  obtain ⟨R, h1, -⟩ := h
  exact ⟨R.1, h1.1⟩
theorem HmM.cell {ca : Nat → ClassId} {DE : Nat} {σ : so_S} {hm : Nat} {B : Bx} {s : Mst} (h : HmM ca DE σ hm B s) : σ hm = some (0, oHM B.he (B.A.1 0) (B.A.1 1) B.tb) := by
  obtain ⟨X, L, sl, h1, -⟩ := h
  exact h1.1
theorem tL_Mo {t : Nat} (h : tMo t) : ¬ tL7 t := fun z => by
  rcases z with z | z
  · exact tC_Mo h z
  · unfold tMo at h; omega
theorem iv_entry {c : Nat} {s t : Mst} {x kx wx v : Int32} {r : Nat} (h : invS c s) (hs : sEntry s x kx wx r v t) : invS (c + 1) t := by
  obtain ⟨rfl, -⟩ := hs
  exact h.up
theorem r_0 {r : Nat} (h : r ≤ 3) (z : nI r = 0) : r = 0 := (nI_eq (b := 0) (by omega) (by decide)).mp z
section LC
variable {p : Program} {l : Launch} {e : Env} {s : State} {m : MethodId} {below : List Frame} {meth : Method} {c : Code} {H : Heap} {locs : List Loc} {cells slots : Nat} {Q : State → Prop} {R : Room}
variable {pc b L mi DE hm mo out t : Nat} {xs : Nat → Int32} {ls : Array Slot} {rest : List Value} {D : va_G} {ca : Nat → ClassId} {σ : so_S} {B : Bx} {ar : Nat → Nat} {st : Mst}
/-- the script's int at 4 * t + j -/
theorem sc_row (F : LF p l s m c b L xs D ca DE mi) (hS : va_S (so_A s.heap.size) s.heap H locs) (j : Nat) {v : Int32} (hv : nI (4 * t) + v = nI (4 * t + j)) (hj : 4 * t + j < L) (d1 : decode code pc = .ok (.iadd, 1)) (d2 : decode code (pc + 1) = .ok (.iaload, 1))
    (kk : W p l e R s m #[Value.ref b] below meth c H locs cells slots Q (F0 m (pc + 2) ls (.int (xs (4 * t + j)) :: rest))) : W p l e R s m #[Value.ref b] below meth c H locs cells slots Q (F0 m pc ls (.int v :: .int (nI (4 * t)) :: .ref b :: rest)) := by
  obtain ⟨S, hB, K, E, hX, J, Xs, hbl, hL⟩ := F
  refine lv_iadd S.1 S.2.1 d1 ?_
  rw [hv]
  refine va_sld S.1 S.2.1 Xs hbl (Nat.not_le.mpr hbl) hS (vp_in_nI hj (by omega)) d2 ?_
  rw [nI_clamp (by omega)]
  exact kk
/-- y != 0 -/
theorem nz_row (F : LF p l s m c b L xs D ca DE mi) {y : Int32} {pc1 pc2 : Nat} {o1 o2 : Int} (d0 : decode code pc = .ok (.ifCond .eq o1, 3)) (h1 : (pc : Int) + o1 = (pc1 : Int)) (d3 : decode code (pc + 3) = .ok (.iconst 1, 1)) (d4 : decode code (pc + 4) = .ok (.goto o2, 3)) (h2 : ((pc + 4 : Nat) : Int) + o2 = (pc2 : Int)) (d7 : decode code pc1 = .ok (.iconst 0, 1)) (h3 : pc1 + 1 = pc2)
    (kk : W p l e R s m #[Value.ref b] below meth c H locs cells slots Q (F0 m pc2 ls (.int (bI (decide (y ≠ 0))) :: rest))) : W p l e R s m #[Value.ref b] below meth c H locs cells slots Q (F0 m pc ls (.int y :: rest)) := by
  obtain ⟨S, -⟩ := F
  refine lv_if_eq (tgt := pc1) S.1 S.2.1 d0 h1 (fun h => ?_) (fun h => ?_)
  · refine lv_iconst (v := 0) S.1 S.2.1 d7 (by decide) ?_
    rw [decide_eq_false (fun z => z h)] at kk
    rw [h3]
    exact kk
  · refine lv_iconst (v := 1) S.1 S.2.1 d3 (by decide) ?_
    refine lv_goto (tgt := pc2) S.1 S.2.1 d4 h2 ?_
    rw [decide_eq_true h] at kk
    exact kk
/-- b ? 1L : 0L -/
theorem bj_row (F : LF p l s m c b L xs D ca DE mi) {y : Bool} {pc1 pc2 : Nat} {o1 o2 : Int} (d0 : decode code pc = .ok (.ifCond .eq o1, 3)) (h1 : (pc : Int) + o1 = (pc1 : Int)) (d3 : decode code (pc + 3) = .ok (.lconst 1, 1)) (d4 : decode code (pc + 4) = .ok (.goto o2, 3)) (h2 : ((pc + 4 : Nat) : Int) + o2 = (pc2 : Int)) (d7 : decode code pc1 = .ok (.lconst 0, 1)) (h3 : pc1 + 1 = pc2)
    (kk : W p l e R s m #[Value.ref b] below meth c H locs cells slots Q (F0 m pc2 ls (.long (bJ y) :: rest))) : W p l e R s m #[Value.ref b] below meth c H locs cells slots Q (F0 m pc ls (.int (bI y) :: rest)) := by
  obtain ⟨S, -⟩ := F
  refine lv_if_eq (tgt := pc1) S.1 S.2.1 d0 h1 (fun h => ?_) (fun h => ?_)
  · refine lv_lconst (v := 0) S.1 S.2.1 d7 (by decide) ?_
    have hb : y = false := (bI_0 _).mp h
    rw [hb] at kk
    rw [h3]
    exact kk
  · refine lv_lconst (v := 1) S.1 S.2.1 d3 (by decide) ?_
    refine lv_goto (tgt := pc2) S.1 S.2.1 d4 h2 ?_
    have hb : y = true := by cases y with
      | true => rfl
      | false => exact absurd rfl h
    rw [hb] at kk
    exact kk
set_option maxHeartbeats 400000 in
theorem lc_make (F : LF p l s m c b L xs D ca DE mi) (I : LI s D ca DE hm mo out B ar t st σ H locs) (hl : LV ls b hm mo out t) (ht : 4 * t + 3 < L) (hc : cells + 82 ≤ 604221) (hs : slots + 5188 ≤ 7283442) (kk : ∀ (ls1 : Array Slot) (st1 : Mst) (σ1 : so_S) (H1 : Heap) (locs1 : List Loc), LV ls1 b hm mo out t → LI s D ca DE hm mo out B ar (t + 1) st1 σ1 H1 locs1 → W p l e (so_rm 13 604221 7283442) s m #[Value.ref b] below meth c H1 locs1 (cells + 82) (slots + 5188) Q (F0 m 850 ls1 [])) : W p l e (so_rm 13 604221 7283442) s m #[Value.ref b] below meth c H locs cells slots Q (F0 m 104 ls []) := by
  have F0 := F
  obtain ⟨S, hB, K, E, hX, J, Xs, hbl, hL⟩ := F0
  obtain ⟨P, hS, M, ⟨r0, N⟩, ⟨f, O⟩, hi⟩ := I
  have hl : lv_has ls 7 [(0, .ref b), (1, .ref hm), (2, .ref mo), (3, .ref out), (4, .int (nI (4 * t)))] := hl
  refine lv_aload_n S.1 S.2.1 d_Lw_law_104 rfl (lv_at hl 1 rfl) ?_
  refine lv_aload_n S.1 S.2.1 d_Lw_law_105 rfl (lv_at hl 0 rfl) ?_
  refine lv_iload S.1 S.2.1 d_Lw_law_106 (lv_at hl 4 rfl) ?_
  refine lv_iconst (v := 1) S.1 S.2.1 d_Lw_law_108 (by decide) ?_
  refine sc_row F hS 1 (nI_add _ 1) (by omega) d_Lw_law_109 d_Lw_law_110 ?_
  refine lv_aload_n S.1 S.2.1 d_Lw_law_111 rfl (lv_at hl 3 rfl) ?_
  refine so_call (cw_Lw_54 S hB E P hS (c_Lw_make l hB hX M O hi (xs (4 * t + 1))) rfl (by decide) (by omega) (by omega) hl.1 rfl (Nat.le_of_ble_eq_true rfl) d_Lw_law_112) hS (fun v σ1 H1 locs1 hv P1 hS1 => ?_)
  obtain ⟨r, w1, t1, f1, rfl, hs1, hM1, O1, hf1, hr3, hF1⟩ := hv
  have N1 : MoM ca σ1 mo ar r0 st := N.ag (hF1.ag (fun t h => tL_Mo h))
  refine lv_istore S.1 S.2.1 d_Lw_law_115 hl (by decide) rfl (fun ls hl => ?_)
  refine lv_aload_n S.1 S.2.1 d_Lw_law_117 rfl (lv_at hl 3 rfl) ?_
  refine lv_aload_n S.1 S.2.1 d_Lw_law_118 rfl (lv_at hl 1 rfl) ?_
  refine lv_iload S.1 S.2.1 d_Lw_law_119 (lv_at hl 5 rfl) ?_
  refine lv_iconst (v := 1) S.1 S.2.1 d_Lw_law_121 (by decide) ?_
  refine sc_row F hS1 1 (nI_add _ 1) (by omega) d_Lw_law_122 d_Lw_law_123 ?_
  obtain ⟨z, hmo⟩ := N1.cell
  refine so_call (cv_Lw_59_Mo S hB K E P1 hS1 hmo (m_make l hB N1 (xs (4 * t + 1))) rfl (by decide) (by omega) (by omega) hl.1 rfl (Nat.le_of_ble_eq_true rfl) d_Lw_law_124) hS1 (fun v σ2 H2 locs2 hv P2 hS2 => ?_)
  obtain ⟨r2, w2, t2, rfl, hs2, N2, hF2⟩ := hv
  obtain ⟨e1, e2, e3⟩ := sMake_u hs1 hs2
  subst e1
  subst e2
  have hM2 := hM1.ag (hF2.T.ag (fun t h z => tC_Mo z h))
  have O2 : outR ca σ2 out f1 := hF2 _ _ O1 (Or.inl (show 7 < 50 by decide))
  refine lv_istore S.1 S.2.1 d_Lw_law_127 hl (by decide) rfl (fun ls hl => ?_)
  refine lv_aload_n S.1 S.2.1 d_Lw_law_129 rfl (lv_at hl 4 rfl) ?_
  obtain ⟨z2, hmo2⟩ := N2.cell
  refine so_callR (cv_Lw_60_Mo S hB K E P2 hS2 hmo2 (m_thrown l hB N2) rfl (by decide) (by omega) (by omega) hl.1 rfl (Nat.le_of_ble_eq_true rfl) d_Lw_law_130) (fun v hv => ?_)
  subst hv
  refine lv_iload S.1 S.2.1 d_Lw_law_133 (lv_at hl 1 rfl) ?_
  refine lv_icmp_eq (tgt := 140) S.1 S.2.1 d_Lw_law_135 rfl (fun _ => ?_) (fun h => absurd rfl h)
  refine lv_iload S.1 S.2.1 d_Lw_law_140 (lv_at hl 1 rfl) ?_
  refine lv_if_ne (tgt := 157) S.1 S.2.1 d_Lw_law_142 rfl (fun _ => ?_) (fun h0 => ?_)
  · refine lv_goto (tgt := 850) S.1 S.2.1 d_Lw_law_157 rfl ?_
    exact W.widen (by omega) (by omega) (kk ls t1 σ2 H2 locs2 (lv_sub hl [2, 3, 4, 5, 6] rfl) ⟨P2, hS2, hM2, ⟨r, N2⟩, ⟨f1, O2⟩, iv_make hi hs1⟩)
  · have hr := r_0 hr3 h0
    refine lv_aload_n S.1 S.2.1 d_Lw_law_145 rfl (lv_at hl 5 rfl) ?_
    refine lv_iconst (v := 0) S.1 S.2.1 d_Lw_law_146 (by decide) ?_
    refine so_lald S K P2 O2 2 rfl in_01 d_Lw_law_147 ?_
    refine lv_iload S.1 S.2.1 d_Lw_law_148 (lv_at hl 0 rfl) ?_
    refine lv_i2l S.1 S.2.1 d_Lw_law_150 rfl ?_
    refine lv_lcmp0 S.1 S.2.1 (show f1 0 = w2.toInt64 by rw [← e3 hr]; exact hf1 hr) d_Lw_law_151 ?_
    refine lv_if_eq (tgt := 157) S.1 S.2.1 d_Lw_law_152 rfl (fun _ => ?_) (fun h => absurd rfl h)
    refine lv_goto (tgt := 850) S.1 S.2.1 d_Lw_law_157 rfl ?_
    exact W.widen (by omega) (by omega) (kk ls t1 σ2 H2 locs2 (lv_sub hl [2, 3, 4, 5, 6] rfl) ⟨P2, hS2, hM2, ⟨r, N2⟩, ⟨f1, O2⟩, iv_make hi hs1⟩)
set_option maxHeartbeats 400000 in
theorem lc_refer (F : LF p l s m c b L xs D ca DE mi) (I : LI s D ca DE hm mo out B ar t st σ H locs) (hl : LV ls b hm mo out t) (ht : 4 * t + 3 < L) (hc : cells + 82 ≤ 604221) (hs : slots + 5188 ≤ 7283442) (kk : ∀ (ls1 : Array Slot) (st1 : Mst) (σ1 : so_S) (H1 : Heap) (locs1 : List Loc), LV ls1 b hm mo out t → LI s D ca DE hm mo out B ar (t + 1) st1 σ1 H1 locs1 → W p l e (so_rm 13 604221 7283442) s m #[Value.ref b] below meth c H1 locs1 (cells + 82) (slots + 5188) Q (F0 m 850 ls1 [])) : W p l e (so_rm 13 604221 7283442) s m #[Value.ref b] below meth c H locs cells slots Q (F0 m 160 ls []) := by
  have F0 := F
  obtain ⟨S, hB, K, E, hX, J, Xs, hbl, hL⟩ := F0
  obtain ⟨P, hS, M, ⟨r0, N⟩, ⟨f, O⟩, hi⟩ := I
  have hl : lv_has ls 7 [(0, .ref b), (1, .ref hm), (2, .ref mo), (3, .ref out), (4, .int (nI (4 * t)))] := hl
  refine lv_aload_n S.1 S.2.1 d_Lw_law_160 rfl (lv_at hl 1 rfl) ?_
  refine lv_aload_n S.1 S.2.1 d_Lw_law_161 rfl (lv_at hl 0 rfl) ?_
  refine lv_iload S.1 S.2.1 d_Lw_law_162 (lv_at hl 4 rfl) ?_
  refine lv_iconst (v := 1) S.1 S.2.1 d_Lw_law_164 (by decide) ?_
  refine sc_row F hS 1 (nI_add _ 1) (by omega) d_Lw_law_165 d_Lw_law_166 ?_
  refine lv_aload_n S.1 S.2.1 d_Lw_law_167 rfl (lv_at hl 0 rfl) ?_
  refine lv_iload S.1 S.2.1 d_Lw_law_168 (lv_at hl 4 rfl) ?_
  refine lv_iconst (v := 2) S.1 S.2.1 d_Lw_law_170 (by decide) ?_
  refine sc_row F hS 2 (nI_add _ 2) (by omega) d_Lw_law_171 d_Lw_law_172 ?_
  refine lv_aload_n S.1 S.2.1 d_Lw_law_173 rfl (lv_at hl 0 rfl) ?_
  refine lv_iload S.1 S.2.1 d_Lw_law_174 (lv_at hl 4 rfl) ?_
  refine lv_iconst (v := 3) S.1 S.2.1 d_Lw_law_176 (by decide) ?_
  refine sc_row F hS 3 (nI_add _ 3) (by omega) d_Lw_law_177 d_Lw_law_178 ?_
  refine lv_aload_n S.1 S.2.1 d_Lw_law_179 rfl (lv_at hl 3 rfl) ?_
  refine so_call (cw_Lw_64 S hB E P hS (c_Lw_refer l hB hX M O (xs (4 * t + 1)) (xs (4 * t + 2)) (xs (4 * t + 3))) rfl (by decide) (by omega) (by omega) hl.1 rfl (Nat.le_of_ble_eq_true rfl) d_Lw_law_180) hS (fun v σ1 H1 locs1 hv P1 hS1 => ?_)
  obtain ⟨r, w1, t1, f1, rfl, hs1, hM1, O1, hf1, hr3, hF1⟩ := hv
  have N1 : MoM ca σ1 mo ar r0 st := N.ag (hF1.ag (fun t h => tL_Mo h))
  refine lv_istore S.1 S.2.1 d_Lw_law_183 hl (by decide) rfl (fun ls hl => ?_)
  refine lv_aload_n S.1 S.2.1 d_Lw_law_185 rfl (lv_at hl 3 rfl) ?_
  refine lv_aload_n S.1 S.2.1 d_Lw_law_186 rfl (lv_at hl 1 rfl) ?_
  refine lv_iload S.1 S.2.1 d_Lw_law_187 (lv_at hl 5 rfl) ?_
  refine lv_iconst (v := 1) S.1 S.2.1 d_Lw_law_189 (by decide) ?_
  refine sc_row F hS1 1 (nI_add _ 1) (by omega) d_Lw_law_190 d_Lw_law_191 ?_
  refine lv_aload_n S.1 S.2.1 d_Lw_law_192 rfl (lv_at hl 1 rfl) ?_
  refine lv_iload S.1 S.2.1 d_Lw_law_193 (lv_at hl 5 rfl) ?_
  refine lv_iconst (v := 2) S.1 S.2.1 d_Lw_law_195 (by decide) ?_
  refine sc_row F hS1 2 (nI_add _ 2) (by omega) d_Lw_law_196 d_Lw_law_197 ?_
  refine lv_aload_n S.1 S.2.1 d_Lw_law_198 rfl (lv_at hl 1 rfl) ?_
  refine lv_iload S.1 S.2.1 d_Lw_law_199 (lv_at hl 5 rfl) ?_
  refine lv_iconst (v := 3) S.1 S.2.1 d_Lw_law_201 (by decide) ?_
  refine sc_row F hS1 3 (nI_add _ 3) (by omega) d_Lw_law_202 d_Lw_law_203 ?_
  obtain ⟨z, hmo⟩ := N1.cell
  refine so_call (cv_Lw_67_Mo S hB K E P1 hS1 hmo (m_refer l hB N1 (xs (4 * t + 1)) (xs (4 * t + 2)) (xs (4 * t + 3))) rfl (by decide) (by omega) (by omega) hl.1 rfl (Nat.le_of_ble_eq_true rfl) d_Lw_law_204) hS1 (fun v σ2 H2 locs2 hv P2 hS2 => ?_)
  obtain ⟨r2, w2, t2, rfl, hs2, N2, hF2⟩ := hv
  obtain ⟨e1, e2, e3⟩ := sRefer_u hs1 hs2
  subst e1
  subst e2
  have hM2 := hM1.ag (hF2.T.ag (fun t h z => tC_Mo z h))
  have O2 : outR ca σ2 out f1 := hF2 _ _ O1 (Or.inl (show 7 < 50 by decide))
  refine lv_istore S.1 S.2.1 d_Lw_law_207 hl (by decide) rfl (fun ls hl => ?_)
  refine lv_aload_n S.1 S.2.1 d_Lw_law_209 rfl (lv_at hl 4 rfl) ?_
  obtain ⟨z2, hmo2⟩ := N2.cell
  refine so_callR (cv_Lw_60_Mo S hB K E P2 hS2 hmo2 (m_thrown l hB N2) rfl (by decide) (by omega) (by omega) hl.1 rfl (Nat.le_of_ble_eq_true rfl) d_Lw_law_210) (fun v hv => ?_)
  subst hv
  refine lv_iload S.1 S.2.1 d_Lw_law_213 (lv_at hl 1 rfl) ?_
  refine lv_icmp_eq (tgt := 220) S.1 S.2.1 d_Lw_law_215 rfl (fun _ => ?_) (fun h => absurd rfl h)
  refine lv_iload S.1 S.2.1 d_Lw_law_220 (lv_at hl 1 rfl) ?_
  refine lv_if_ne (tgt := 237) S.1 S.2.1 d_Lw_law_222 rfl (fun _ => ?_) (fun h0 => ?_)
  · refine lv_goto (tgt := 850) S.1 S.2.1 d_Lw_law_237 rfl ?_
    exact W.widen (by omega) (by omega) (kk ls t1 σ2 H2 locs2 (lv_sub hl [2, 3, 4, 5, 6] rfl) ⟨P2, hS2, hM2, ⟨r, N2⟩, ⟨f1, O2⟩, iv_refer hi hs1⟩)
  · have hr := r_0 hr3 h0
    refine lv_aload_n S.1 S.2.1 d_Lw_law_225 rfl (lv_at hl 5 rfl) ?_
    refine lv_iconst (v := 0) S.1 S.2.1 d_Lw_law_226 (by decide) ?_
    refine so_lald S K P2 O2 2 rfl in_01 d_Lw_law_227 ?_
    refine lv_iload S.1 S.2.1 d_Lw_law_228 (lv_at hl 0 rfl) ?_
    refine lv_i2l S.1 S.2.1 d_Lw_law_230 rfl ?_
    refine lv_lcmp0 S.1 S.2.1 (show f1 0 = w2.toInt64 by rw [← e3 hr]; exact hf1 hr) d_Lw_law_231 ?_
    refine lv_if_eq (tgt := 237) S.1 S.2.1 d_Lw_law_232 rfl (fun _ => ?_) (fun h => absurd rfl h)
    refine lv_goto (tgt := 850) S.1 S.2.1 d_Lw_law_237 rfl ?_
    exact W.widen (by omega) (by omega) (kk ls t1 σ2 H2 locs2 (lv_sub hl [2, 3, 4, 5, 6] rfl) ⟨P2, hS2, hM2, ⟨r, N2⟩, ⟨f1, O2⟩, iv_refer hi hs1⟩)
set_option maxHeartbeats 400000 in
theorem lc_root (F : LF p l s m c b L xs D ca DE mi) (I : LI s D ca DE hm mo out B ar t st σ H locs) (hl : LV ls b hm mo out t) (ht : 4 * t + 3 < L) (hc : cells + 82 ≤ 604221) (hs : slots + 5188 ≤ 7283442) (kk : ∀ (ls1 : Array Slot) (st1 : Mst) (σ1 : so_S) (H1 : Heap) (locs1 : List Loc), LV ls1 b hm mo out t → LI s D ca DE hm mo out B ar (t + 1) st1 σ1 H1 locs1 → W p l e (so_rm 13 604221 7283442) s m #[Value.ref b] below meth c H1 locs1 (cells + 82) (slots + 5188) Q (F0 m 850 ls1 [])) : W p l e (so_rm 13 604221 7283442) s m #[Value.ref b] below meth c H locs cells slots Q (F0 m 240 ls []) := by
  have F0 := F
  obtain ⟨S, hB, K, E, hX, J, Xs, hbl, hL⟩ := F0
  obtain ⟨P, hS, M, ⟨r0, N⟩, ⟨f, O⟩, hi⟩ := I
  have hl : lv_has ls 7 [(0, .ref b), (1, .ref hm), (2, .ref mo), (3, .ref out), (4, .int (nI (4 * t)))] := hl
  refine lv_aload_n S.1 S.2.1 d_Lw_law_240 rfl (lv_at hl 1 rfl) ?_
  refine lv_aload_n S.1 S.2.1 d_Lw_law_241 rfl (lv_at hl 0 rfl) ?_
  refine lv_iload S.1 S.2.1 d_Lw_law_242 (lv_at hl 4 rfl) ?_
  refine lv_iconst (v := 1) S.1 S.2.1 d_Lw_law_244 (by decide) ?_
  refine sc_row F hS 1 (nI_add _ 1) (by omega) d_Lw_law_245 d_Lw_law_246 ?_
  refine lv_aload_n S.1 S.2.1 d_Lw_law_247 rfl (lv_at hl 0 rfl) ?_
  refine lv_iload S.1 S.2.1 d_Lw_law_248 (lv_at hl 4 rfl) ?_
  refine lv_iconst (v := 2) S.1 S.2.1 d_Lw_law_250 (by decide) ?_
  refine sc_row F hS 2 (nI_add _ 2) (by omega) d_Lw_law_251 d_Lw_law_252 ?_
  refine nz_row F (pc1 := 260) (pc2 := 261) d_Lw_law_253 rfl d_Lw_law_256 d_Lw_law_257 rfl d_Lw_law_260 rfl ?_
  refine lv_aload_n S.1 S.2.1 d_Lw_law_261 rfl (lv_at hl 3 rfl) ?_
  refine so_call (cw_Lw_68 S hB E P hS (c_Lw_root l hB hX M O (xs (4 * t + 1)) (decide (xs (4 * t + 2) ≠ 0))) rfl (by decide) (by omega) (by omega) hl.1 rfl (Nat.le_of_ble_eq_true rfl) d_Lw_law_262) hS (fun v σ1 H1 locs1 hv P1 hS1 => ?_)
  obtain ⟨r, w1, t1, f1, rfl, hs1, hM1, O1, hf1, hr3, hF1⟩ := hv
  have N1 : MoM ca σ1 mo ar r0 st := N.ag (hF1.ag (fun t h => tL_Mo h))
  refine lv_istore S.1 S.2.1 d_Lw_law_265 hl (by decide) rfl (fun ls hl => ?_)
  refine lv_aload_n S.1 S.2.1 d_Lw_law_267 rfl (lv_at hl 3 rfl) ?_
  refine lv_aload_n S.1 S.2.1 d_Lw_law_268 rfl (lv_at hl 1 rfl) ?_
  refine lv_iload S.1 S.2.1 d_Lw_law_269 (lv_at hl 5 rfl) ?_
  refine lv_iconst (v := 1) S.1 S.2.1 d_Lw_law_271 (by decide) ?_
  refine sc_row F hS1 1 (nI_add _ 1) (by omega) d_Lw_law_272 d_Lw_law_273 ?_
  refine lv_aload_n S.1 S.2.1 d_Lw_law_274 rfl (lv_at hl 1 rfl) ?_
  refine lv_iload S.1 S.2.1 d_Lw_law_275 (lv_at hl 5 rfl) ?_
  refine lv_iconst (v := 2) S.1 S.2.1 d_Lw_law_277 (by decide) ?_
  refine sc_row F hS1 2 (nI_add _ 2) (by omega) d_Lw_law_278 d_Lw_law_279 ?_
  refine nz_row F (pc1 := 287) (pc2 := 288) d_Lw_law_280 rfl d_Lw_law_283 d_Lw_law_284 rfl d_Lw_law_287 rfl ?_
  obtain ⟨z, hmo⟩ := N1.cell
  refine so_call (cv_Lw_71_Mo S hB K E P1 hS1 hmo (m_root l hB N1 (xs (4 * t + 1)) (decide (xs (4 * t + 2) ≠ 0))) rfl (by decide) (by omega) (by omega) hl.1 rfl (Nat.le_of_ble_eq_true rfl) d_Lw_law_288) hS1 (fun v σ2 H2 locs2 hv P2 hS2 => ?_)
  obtain ⟨r2, w2, t2, rfl, hs2, N2, hF2⟩ := hv
  obtain ⟨e1, e2, e3⟩ := sRoot_u hs1 hs2
  subst e1
  subst e2
  have hM2 := hM1.ag (hF2.T.ag (fun t h z => tC_Mo z h))
  have O2 : outR ca σ2 out f1 := hF2 _ _ O1 (Or.inl (show 7 < 50 by decide))
  refine lv_istore S.1 S.2.1 d_Lw_law_291 hl (by decide) rfl (fun ls hl => ?_)
  refine lv_aload_n S.1 S.2.1 d_Lw_law_293 rfl (lv_at hl 4 rfl) ?_
  obtain ⟨z2, hmo2⟩ := N2.cell
  refine so_callR (cv_Lw_60_Mo S hB K E P2 hS2 hmo2 (m_thrown l hB N2) rfl (by decide) (by omega) (by omega) hl.1 rfl (Nat.le_of_ble_eq_true rfl) d_Lw_law_294) (fun v hv => ?_)
  subst hv
  refine lv_iload S.1 S.2.1 d_Lw_law_297 (lv_at hl 1 rfl) ?_
  refine lv_icmp_eq (tgt := 304) S.1 S.2.1 d_Lw_law_299 rfl (fun _ => ?_) (fun h => absurd rfl h)
  refine lv_iload S.1 S.2.1 d_Lw_law_304 (lv_at hl 1 rfl) ?_
  refine lv_if_ne (tgt := 328) S.1 S.2.1 d_Lw_law_306 rfl (fun _ => ?_) (fun h0 => ?_)
  · refine lv_goto (tgt := 850) S.1 S.2.1 d_Lw_law_328 rfl ?_
    exact W.widen (by omega) (by omega) (kk ls t1 σ2 H2 locs2 (lv_sub hl [2, 3, 4, 5, 6] rfl) ⟨P2, hS2, hM2, ⟨r, N2⟩, ⟨f1, O2⟩, iv_root hi hs1⟩)
  · have hr := r_0 hr3 h0
    refine lv_aload_n S.1 S.2.1 d_Lw_law_309 rfl (lv_at hl 5 rfl) ?_
    refine lv_iconst (v := 0) S.1 S.2.1 d_Lw_law_310 (by decide) ?_
    refine so_lald S K P2 O2 2 rfl in_01 d_Lw_law_311 ?_
    refine lv_iload S.1 S.2.1 d_Lw_law_312 (lv_at hl 0 rfl) ?_
    refine bj_row F (pc1 := 321) (pc2 := 322) d_Lw_law_314 rfl d_Lw_law_317 d_Lw_law_318 rfl d_Lw_law_321 rfl ?_
    have e4 : w1 = w2 := by
      have := e3 hr
      revert this
      cases w1 <;> cases w2 <;> intro h <;> first | rfl | exact absurd h (by decide)
    refine lv_lcmp0 S.1 S.2.1 (show f1 0 = bJ w2 by rw [← e4]; exact hf1 hr) d_Lw_law_322 ?_
    refine lv_if_eq (tgt := 328) S.1 S.2.1 d_Lw_law_323 rfl (fun _ => ?_) (fun h => absurd rfl h)
    refine lv_goto (tgt := 850) S.1 S.2.1 d_Lw_law_328 rfl ?_
    exact W.widen (by omega) (by omega) (kk ls t1 σ2 H2 locs2 (lv_sub hl [2, 3, 4, 5, 6] rfl) ⟨P2, hS2, hM2, ⟨r, N2⟩, ⟨f1, O2⟩, iv_root hi hs1⟩)
set_option maxHeartbeats 400000 in
theorem lc_put (F : LF p l s m c b L xs D ca DE mi) (I : LI s D ca DE hm mo out B ar t st σ H locs) (hl : LV ls b hm mo out t) (ht : 4 * t + 3 < L) (hc : cells + 82 ≤ 604221) (hs : slots + 5188 ≤ 7283442) (kk : ∀ (ls1 : Array Slot) (st1 : Mst) (σ1 : so_S) (H1 : Heap) (locs1 : List Loc), LV ls1 b hm mo out t → LI s D ca DE hm mo out B ar (t + 1) st1 σ1 H1 locs1 → W p l e (so_rm 13 604221 7283442) s m #[Value.ref b] below meth c H1 locs1 (cells + 82) (slots + 5188) Q (F0 m 850 ls1 [])) : W p l e (so_rm 13 604221 7283442) s m #[Value.ref b] below meth c H locs cells slots Q (F0 m 331 ls []) := by
  have F0 := F
  obtain ⟨S, hB, K, E, hX, J, Xs, hbl, hL⟩ := F0
  obtain ⟨P, hS, M, ⟨r0, N⟩, ⟨f, O⟩, hi⟩ := I
  have hl : lv_has ls 7 [(0, .ref b), (1, .ref hm), (2, .ref mo), (3, .ref out), (4, .int (nI (4 * t)))] := hl
  refine lv_aload_n S.1 S.2.1 d_Lw_law_331 rfl (lv_at hl 1 rfl) ?_
  refine lv_aload_n S.1 S.2.1 d_Lw_law_332 rfl (lv_at hl 0 rfl) ?_
  refine lv_iload S.1 S.2.1 d_Lw_law_333 (lv_at hl 4 rfl) ?_
  refine lv_iconst (v := 1) S.1 S.2.1 d_Lw_law_335 (by decide) ?_
  refine sc_row F hS 1 (nI_add _ 1) (by omega) d_Lw_law_336 d_Lw_law_337 ?_
  refine lv_aload_n S.1 S.2.1 d_Lw_law_338 rfl (lv_at hl 0 rfl) ?_
  refine lv_iload S.1 S.2.1 d_Lw_law_339 (lv_at hl 4 rfl) ?_
  refine lv_iconst (v := 2) S.1 S.2.1 d_Lw_law_341 (by decide) ?_
  refine sc_row F hS 2 (nI_add _ 2) (by omega) d_Lw_law_342 d_Lw_law_343 ?_
  refine lv_aload_n S.1 S.2.1 d_Lw_law_344 rfl (lv_at hl 0 rfl) ?_
  refine lv_iload S.1 S.2.1 d_Lw_law_345 (lv_at hl 4 rfl) ?_
  refine lv_iconst (v := 3) S.1 S.2.1 d_Lw_law_347 (by decide) ?_
  refine sc_row F hS 3 (nI_add _ 3) (by omega) d_Lw_law_348 d_Lw_law_349 ?_
  refine lv_aload_n S.1 S.2.1 d_Lw_law_350 rfl (lv_at hl 3 rfl) ?_
  refine so_call (cw_Lw_72 S hB E P hS (c_Lw_put l hB hX J M O hi (xs (4 * t + 1)) (xs (4 * t + 2)) (xs (4 * t + 3))) rfl (by decide) (by omega) (by omega) hl.1 rfl (Nat.le_of_ble_eq_true rfl) d_Lw_law_351) hS (fun v σ1 H1 locs1 hv P1 hS1 => ?_)
  obtain ⟨r, w1, t1, f1, rfl, hs1, hM1, O1, hf1, hr3, hF1⟩ := hv
  have N1 : MoM ca σ1 mo ar r0 st := N.ag (hF1.ag (fun t h => tL_Mo h))
  refine lv_istore S.1 S.2.1 d_Lw_law_354 hl (by decide) rfl (fun ls hl => ?_)
  refine lv_aload_n S.1 S.2.1 d_Lw_law_356 rfl (lv_at hl 3 rfl) ?_
  refine lv_aload_n S.1 S.2.1 d_Lw_law_357 rfl (lv_at hl 1 rfl) ?_
  refine lv_iload S.1 S.2.1 d_Lw_law_358 (lv_at hl 5 rfl) ?_
  refine lv_iconst (v := 1) S.1 S.2.1 d_Lw_law_360 (by decide) ?_
  refine sc_row F hS1 1 (nI_add _ 1) (by omega) d_Lw_law_361 d_Lw_law_362 ?_
  refine lv_aload_n S.1 S.2.1 d_Lw_law_363 rfl (lv_at hl 1 rfl) ?_
  refine lv_iload S.1 S.2.1 d_Lw_law_364 (lv_at hl 5 rfl) ?_
  refine lv_iconst (v := 2) S.1 S.2.1 d_Lw_law_366 (by decide) ?_
  refine sc_row F hS1 2 (nI_add _ 2) (by omega) d_Lw_law_367 d_Lw_law_368 ?_
  refine lv_aload_n S.1 S.2.1 d_Lw_law_369 rfl (lv_at hl 1 rfl) ?_
  refine lv_iload S.1 S.2.1 d_Lw_law_370 (lv_at hl 5 rfl) ?_
  refine lv_iconst (v := 3) S.1 S.2.1 d_Lw_law_372 (by decide) ?_
  refine sc_row F hS1 3 (nI_add _ 3) (by omega) d_Lw_law_373 d_Lw_law_374 ?_
  obtain ⟨z, hmo⟩ := N1.cell
  refine so_call (cv_Lw_74_Mo S hB K E P1 hS1 hmo (m_put l hB N1 hi (xs (4 * t + 1)) (xs (4 * t + 2)) (xs (4 * t + 3))) rfl (by decide) (by omega) (by omega) hl.1 rfl (Nat.le_of_ble_eq_true rfl) d_Lw_law_375) hS1 (fun v σ2 H2 locs2 hv P2 hS2 => ?_)
  obtain ⟨r2, w2, t2, rfl, hs2, N2, hF2⟩ := hv
  obtain ⟨e1, e2, e3⟩ := sPut_u hi.1.1 hs1 hs2
  subst e1
  subst e2
  have hM2 := hM1.ag (hF2.T.ag (fun t h z => tC_Mo z h))
  have O2 : outR ca σ2 out f1 := hF2 _ _ O1 (Or.inl (show 7 < 50 by decide))
  refine lv_istore S.1 S.2.1 d_Lw_law_378 hl (by decide) rfl (fun ls hl => ?_)
  refine lv_aload_n S.1 S.2.1 d_Lw_law_380 rfl (lv_at hl 4 rfl) ?_
  obtain ⟨z2, hmo2⟩ := N2.cell
  refine so_callR (cv_Lw_60_Mo S hB K E P2 hS2 hmo2 (m_thrown l hB N2) rfl (by decide) (by omega) (by omega) hl.1 rfl (Nat.le_of_ble_eq_true rfl) d_Lw_law_381) (fun v hv => ?_)
  subst hv
  refine lv_iload S.1 S.2.1 d_Lw_law_384 (lv_at hl 1 rfl) ?_
  refine lv_icmp_eq (tgt := 391) S.1 S.2.1 d_Lw_law_386 rfl (fun _ => ?_) (fun h => absurd rfl h)
  refine lv_iload S.1 S.2.1 d_Lw_law_391 (lv_at hl 1 rfl) ?_
  refine lv_if_ne (tgt := 408) S.1 S.2.1 d_Lw_law_393 rfl (fun _ => ?_) (fun h0 => ?_)
  · refine lv_goto (tgt := 850) S.1 S.2.1 d_Lw_law_408 rfl ?_
    exact W.widen (by omega) (by omega) (kk ls t1 σ2 H2 locs2 (lv_sub hl [2, 3, 4, 5, 6] rfl) ⟨P2, hS2, hM2, ⟨r, N2⟩, ⟨f1, O2⟩, iv_put hi hs1⟩)
  · have hr := r_0 hr3 h0
    refine lv_aload_n S.1 S.2.1 d_Lw_law_396 rfl (lv_at hl 5 rfl) ?_
    refine lv_iconst (v := 0) S.1 S.2.1 d_Lw_law_397 (by decide) ?_
    refine so_lald S K P2 O2 2 rfl in_01 d_Lw_law_398 ?_
    refine lv_iload S.1 S.2.1 d_Lw_law_399 (lv_at hl 0 rfl) ?_
    refine lv_i2l S.1 S.2.1 d_Lw_law_401 rfl ?_
    refine lv_lcmp0 S.1 S.2.1 (show f1 0 = w2.toInt64 by rw [← e3 hr]; exact hf1 hr) d_Lw_law_402 ?_
    refine lv_if_eq (tgt := 408) S.1 S.2.1 d_Lw_law_403 rfl (fun _ => ?_) (fun h => absurd rfl h)
    refine lv_goto (tgt := 850) S.1 S.2.1 d_Lw_law_408 rfl ?_
    exact W.widen (by omega) (by omega) (kk ls t1 σ2 H2 locs2 (lv_sub hl [2, 3, 4, 5, 6] rfl) ⟨P2, hS2, hM2, ⟨r, N2⟩, ⟨f1, O2⟩, iv_put hi hs1⟩)
set_option maxHeartbeats 400000 in
theorem lc_get (F : LF p l s m c b L xs D ca DE mi) (I : LI s D ca DE hm mo out B ar t st σ H locs) (hl : LV ls b hm mo out t) (ht : 4 * t + 3 < L) (hc : cells + 82 ≤ 604221) (hs : slots + 5188 ≤ 7283442) (kk : ∀ (ls1 : Array Slot) (st1 : Mst) (σ1 : so_S) (H1 : Heap) (locs1 : List Loc), LV ls1 b hm mo out t → LI s D ca DE hm mo out B ar (t + 1) st1 σ1 H1 locs1 → W p l e (so_rm 13 604221 7283442) s m #[Value.ref b] below meth c H1 locs1 (cells + 82) (slots + 5188) Q (F0 m 850 ls1 [])) : W p l e (so_rm 13 604221 7283442) s m #[Value.ref b] below meth c H locs cells slots Q (F0 m 411 ls []) := by
  have F0 := F
  obtain ⟨S, hB, K, E, hX, J, Xs, hbl, hL⟩ := F0
  obtain ⟨P, hS, M, ⟨r0, N⟩, ⟨f, O⟩, hi⟩ := I
  have hl : lv_has ls 7 [(0, .ref b), (1, .ref hm), (2, .ref mo), (3, .ref out), (4, .int (nI (4 * t)))] := hl
  refine lv_aload_n S.1 S.2.1 d_Lw_law_411 rfl (lv_at hl 1 rfl) ?_
  refine lv_aload_n S.1 S.2.1 d_Lw_law_412 rfl (lv_at hl 0 rfl) ?_
  refine lv_iload S.1 S.2.1 d_Lw_law_413 (lv_at hl 4 rfl) ?_
  refine lv_iconst (v := 1) S.1 S.2.1 d_Lw_law_415 (by decide) ?_
  refine sc_row F hS 1 (nI_add _ 1) (by omega) d_Lw_law_416 d_Lw_law_417 ?_
  refine lv_aload_n S.1 S.2.1 d_Lw_law_418 rfl (lv_at hl 0 rfl) ?_
  refine lv_iload S.1 S.2.1 d_Lw_law_419 (lv_at hl 4 rfl) ?_
  refine lv_iconst (v := 2) S.1 S.2.1 d_Lw_law_421 (by decide) ?_
  refine sc_row F hS 2 (nI_add _ 2) (by omega) d_Lw_law_422 d_Lw_law_423 ?_
  refine lv_aload_n S.1 S.2.1 d_Lw_law_424 rfl (lv_at hl 3 rfl) ?_
  refine so_call (cw_Lw_75 S hB E P hS (c_Lw_get l hB hX J M O hi (xs (4 * t + 1)) (xs (4 * t + 2))) rfl (by decide) (by omega) (by omega) hl.1 rfl (Nat.le_of_ble_eq_true rfl) d_Lw_law_425) hS (fun v σ1 H1 locs1 hv P1 hS1 => ?_)
  obtain ⟨r, w1, t1, f1, rfl, hs1, hM1, O1, hf1, hr3, hF1⟩ := hv
  have N1 : MoM ca σ1 mo ar r0 st := N.ag (hF1.ag (fun t h => tL_Mo h))
  refine lv_istore S.1 S.2.1 d_Lw_law_428 hl (by decide) rfl (fun ls hl => ?_)
  refine lv_aload_n S.1 S.2.1 d_Lw_law_430 rfl (lv_at hl 3 rfl) ?_
  refine lv_aload_n S.1 S.2.1 d_Lw_law_431 rfl (lv_at hl 1 rfl) ?_
  refine lv_iload S.1 S.2.1 d_Lw_law_432 (lv_at hl 5 rfl) ?_
  refine lv_iconst (v := 1) S.1 S.2.1 d_Lw_law_434 (by decide) ?_
  refine sc_row F hS1 1 (nI_add _ 1) (by omega) d_Lw_law_435 d_Lw_law_436 ?_
  refine lv_aload_n S.1 S.2.1 d_Lw_law_437 rfl (lv_at hl 1 rfl) ?_
  refine lv_iload S.1 S.2.1 d_Lw_law_438 (lv_at hl 5 rfl) ?_
  refine lv_iconst (v := 2) S.1 S.2.1 d_Lw_law_440 (by decide) ?_
  refine sc_row F hS1 2 (nI_add _ 2) (by omega) d_Lw_law_441 d_Lw_law_442 ?_
  obtain ⟨z, hmo⟩ := N1.cell
  refine so_call (cv_Lw_78_Mo S hB K E P1 hS1 hmo (m_get l hB N1 hi (xs (4 * t + 1)) (xs (4 * t + 2))) rfl (by decide) (by omega) (by omega) hl.1 rfl (Nat.le_of_ble_eq_true rfl) d_Lw_law_443) hS1 (fun v σ2 H2 locs2 hv P2 hS2 => ?_)
  obtain ⟨r2, w2, t2, rfl, hs2, N2, hF2⟩ := hv
  obtain ⟨e1, e2, e3⟩ := sGet_u hi.1.1 hs1 hs2
  subst e1
  subst e2
  have hM2 := hM1.ag (hF2.T.ag (fun t h z => tC_Mo z h))
  have O2 : outR ca σ2 out f1 := hF2 _ _ O1 (Or.inl (show 7 < 50 by decide))
  refine lv_istore S.1 S.2.1 d_Lw_law_446 hl (by decide) rfl (fun ls hl => ?_)
  refine lv_aload_n S.1 S.2.1 d_Lw_law_448 rfl (lv_at hl 4 rfl) ?_
  obtain ⟨z2, hmo2⟩ := N2.cell
  refine so_callR (cv_Lw_60_Mo S hB K E P2 hS2 hmo2 (m_thrown l hB N2) rfl (by decide) (by omega) (by omega) hl.1 rfl (Nat.le_of_ble_eq_true rfl) d_Lw_law_449) (fun v hv => ?_)
  subst hv
  refine lv_iload S.1 S.2.1 d_Lw_law_452 (lv_at hl 1 rfl) ?_
  refine lv_icmp_eq (tgt := 459) S.1 S.2.1 d_Lw_law_454 rfl (fun _ => ?_) (fun h => absurd rfl h)
  refine lv_iload S.1 S.2.1 d_Lw_law_459 (lv_at hl 1 rfl) ?_
  refine lv_if_ne (tgt := 476) S.1 S.2.1 d_Lw_law_461 rfl (fun _ => ?_) (fun h0 => ?_)
  · refine lv_goto (tgt := 850) S.1 S.2.1 d_Lw_law_476 rfl ?_
    exact W.widen (by omega) (by omega) (kk ls t1 σ2 H2 locs2 (lv_sub hl [2, 3, 4, 5, 6] rfl) ⟨P2, hS2, hM2, ⟨r, N2⟩, ⟨f1, O2⟩, iv_get hi hs1⟩)
  · have hr := r_0 hr3 h0
    refine lv_aload_n S.1 S.2.1 d_Lw_law_464 rfl (lv_at hl 5 rfl) ?_
    refine lv_iconst (v := 0) S.1 S.2.1 d_Lw_law_465 (by decide) ?_
    refine so_lald S K P2 O2 2 rfl in_01 d_Lw_law_466 ?_
    refine lv_iload S.1 S.2.1 d_Lw_law_467 (lv_at hl 0 rfl) ?_
    refine lv_i2l S.1 S.2.1 d_Lw_law_469 rfl ?_
    refine lv_lcmp0 S.1 S.2.1 (show f1 0 = w2.toInt64 by rw [← e3 hr]; exact hf1 hr) d_Lw_law_470 ?_
    refine lv_if_eq (tgt := 476) S.1 S.2.1 d_Lw_law_471 rfl (fun _ => ?_) (fun h => absurd rfl h)
    refine lv_goto (tgt := 850) S.1 S.2.1 d_Lw_law_476 rfl ?_
    exact W.widen (by omega) (by omega) (kk ls t1 σ2 H2 locs2 (lv_sub hl [2, 3, 4, 5, 6] rfl) ⟨P2, hS2, hM2, ⟨r, N2⟩, ⟨f1, O2⟩, iv_get hi hs1⟩)
set_option maxHeartbeats 400000 in
theorem lc_remove (F : LF p l s m c b L xs D ca DE mi) (I : LI s D ca DE hm mo out B ar t st σ H locs) (hl : LV ls b hm mo out t) (ht : 4 * t + 3 < L) (hc : cells + 82 ≤ 604221) (hs : slots + 5188 ≤ 7283442) (kk : ∀ (ls1 : Array Slot) (st1 : Mst) (σ1 : so_S) (H1 : Heap) (locs1 : List Loc), LV ls1 b hm mo out t → LI s D ca DE hm mo out B ar (t + 1) st1 σ1 H1 locs1 → W p l e (so_rm 13 604221 7283442) s m #[Value.ref b] below meth c H1 locs1 (cells + 82) (slots + 5188) Q (F0 m 850 ls1 [])) : W p l e (so_rm 13 604221 7283442) s m #[Value.ref b] below meth c H locs cells slots Q (F0 m 479 ls []) := by
  have F0 := F
  obtain ⟨S, hB, K, E, hX, J, Xs, hbl, hL⟩ := F0
  obtain ⟨P, hS, M, ⟨r0, N⟩, ⟨f, O⟩, hi⟩ := I
  have hl : lv_has ls 7 [(0, .ref b), (1, .ref hm), (2, .ref mo), (3, .ref out), (4, .int (nI (4 * t)))] := hl
  refine lv_aload_n S.1 S.2.1 d_Lw_law_479 rfl (lv_at hl 1 rfl) ?_
  refine lv_aload_n S.1 S.2.1 d_Lw_law_480 rfl (lv_at hl 0 rfl) ?_
  refine lv_iload S.1 S.2.1 d_Lw_law_481 (lv_at hl 4 rfl) ?_
  refine lv_iconst (v := 1) S.1 S.2.1 d_Lw_law_483 (by decide) ?_
  refine sc_row F hS 1 (nI_add _ 1) (by omega) d_Lw_law_484 d_Lw_law_485 ?_
  refine lv_aload_n S.1 S.2.1 d_Lw_law_486 rfl (lv_at hl 0 rfl) ?_
  refine lv_iload S.1 S.2.1 d_Lw_law_487 (lv_at hl 4 rfl) ?_
  refine lv_iconst (v := 2) S.1 S.2.1 d_Lw_law_489 (by decide) ?_
  refine sc_row F hS 2 (nI_add _ 2) (by omega) d_Lw_law_490 d_Lw_law_491 ?_
  refine lv_aload_n S.1 S.2.1 d_Lw_law_492 rfl (lv_at hl 3 rfl) ?_
  refine so_call (cw_Lw_79 S hB E P hS (c_Lw_remove l hB hX M O hi (xs (4 * t + 1)) (xs (4 * t + 2))) rfl (by decide) (by omega) (by omega) hl.1 rfl (Nat.le_of_ble_eq_true rfl) d_Lw_law_493) hS (fun v σ1 H1 locs1 hv P1 hS1 => ?_)
  obtain ⟨r, w1, t1, f1, rfl, hs1, hM1, O1, hf1, hr3, hF1⟩ := hv
  have N1 : MoM ca σ1 mo ar r0 st := N.ag (hF1.ag (fun t h => tL_Mo h))
  refine lv_istore S.1 S.2.1 d_Lw_law_496 hl (by decide) rfl (fun ls hl => ?_)
  refine lv_aload_n S.1 S.2.1 d_Lw_law_498 rfl (lv_at hl 3 rfl) ?_
  refine lv_aload_n S.1 S.2.1 d_Lw_law_499 rfl (lv_at hl 1 rfl) ?_
  refine lv_iload S.1 S.2.1 d_Lw_law_500 (lv_at hl 5 rfl) ?_
  refine lv_iconst (v := 1) S.1 S.2.1 d_Lw_law_502 (by decide) ?_
  refine sc_row F hS1 1 (nI_add _ 1) (by omega) d_Lw_law_503 d_Lw_law_504 ?_
  refine lv_aload_n S.1 S.2.1 d_Lw_law_505 rfl (lv_at hl 1 rfl) ?_
  refine lv_iload S.1 S.2.1 d_Lw_law_506 (lv_at hl 5 rfl) ?_
  refine lv_iconst (v := 2) S.1 S.2.1 d_Lw_law_508 (by decide) ?_
  refine sc_row F hS1 2 (nI_add _ 2) (by omega) d_Lw_law_509 d_Lw_law_510 ?_
  obtain ⟨z, hmo⟩ := N1.cell
  refine so_call (cv_Lw_81_Mo S hB K E P1 hS1 hmo (m_remove l hB N1 hi (xs (4 * t + 1)) (xs (4 * t + 2))) rfl (by decide) (by omega) (by omega) hl.1 rfl (Nat.le_of_ble_eq_true rfl) d_Lw_law_511) hS1 (fun v σ2 H2 locs2 hv P2 hS2 => ?_)
  obtain ⟨r2, w2, t2, rfl, hs2, N2, hF2⟩ := hv
  obtain ⟨e1, e2, e3⟩ := sRemove_u hi.1.1 hs1 hs2
  subst e1
  subst e2
  have hM2 := hM1.ag (hF2.T.ag (fun t h z => tC_Mo z h))
  have O2 : outR ca σ2 out f1 := hF2 _ _ O1 (Or.inl (show 7 < 50 by decide))
  refine lv_istore S.1 S.2.1 d_Lw_law_514 hl (by decide) rfl (fun ls hl => ?_)
  refine lv_aload_n S.1 S.2.1 d_Lw_law_516 rfl (lv_at hl 4 rfl) ?_
  obtain ⟨z2, hmo2⟩ := N2.cell
  refine so_callR (cv_Lw_60_Mo S hB K E P2 hS2 hmo2 (m_thrown l hB N2) rfl (by decide) (by omega) (by omega) hl.1 rfl (Nat.le_of_ble_eq_true rfl) d_Lw_law_517) (fun v hv => ?_)
  subst hv
  refine lv_iload S.1 S.2.1 d_Lw_law_520 (lv_at hl 1 rfl) ?_
  refine lv_icmp_eq (tgt := 527) S.1 S.2.1 d_Lw_law_522 rfl (fun _ => ?_) (fun h => absurd rfl h)
  refine lv_iload S.1 S.2.1 d_Lw_law_527 (lv_at hl 1 rfl) ?_
  refine lv_if_ne (tgt := 544) S.1 S.2.1 d_Lw_law_529 rfl (fun _ => ?_) (fun h0 => ?_)
  · refine lv_goto (tgt := 850) S.1 S.2.1 d_Lw_law_544 rfl ?_
    exact W.widen (by omega) (by omega) (kk ls t1 σ2 H2 locs2 (lv_sub hl [2, 3, 4, 5, 6] rfl) ⟨P2, hS2, hM2, ⟨r, N2⟩, ⟨f1, O2⟩, iv_remove hi hs1⟩)
  · have hr := r_0 hr3 h0
    refine lv_aload_n S.1 S.2.1 d_Lw_law_532 rfl (lv_at hl 5 rfl) ?_
    refine lv_iconst (v := 0) S.1 S.2.1 d_Lw_law_533 (by decide) ?_
    refine so_lald S K P2 O2 2 rfl in_01 d_Lw_law_534 ?_
    refine lv_iload S.1 S.2.1 d_Lw_law_535 (lv_at hl 0 rfl) ?_
    refine lv_i2l S.1 S.2.1 d_Lw_law_537 rfl ?_
    refine lv_lcmp0 S.1 S.2.1 (show f1 0 = w2.toInt64 by rw [← e3 hr]; exact hf1 hr) d_Lw_law_538 ?_
    refine lv_if_eq (tgt := 544) S.1 S.2.1 d_Lw_law_539 rfl (fun _ => ?_) (fun h => absurd rfl h)
    refine lv_goto (tgt := 850) S.1 S.2.1 d_Lw_law_544 rfl ?_
    exact W.widen (by omega) (by omega) (kk ls t1 σ2 H2 locs2 (lv_sub hl [2, 3, 4, 5, 6] rfl) ⟨P2, hS2, hM2, ⟨r, N2⟩, ⟨f1, O2⟩, iv_remove hi hs1⟩)
set_option maxHeartbeats 400000 in
theorem lc_size (F : LF p l s m c b L xs D ca DE mi) (I : LI s D ca DE hm mo out B ar t st σ H locs) (hl : LV ls b hm mo out t) (ht : 4 * t + 3 < L) (hc : cells + 82 ≤ 604221) (hs : slots + 5188 ≤ 7283442) (kk : ∀ (ls1 : Array Slot) (st1 : Mst) (σ1 : so_S) (H1 : Heap) (locs1 : List Loc), LV ls1 b hm mo out t → LI s D ca DE hm mo out B ar (t + 1) st1 σ1 H1 locs1 → W p l e (so_rm 13 604221 7283442) s m #[Value.ref b] below meth c H1 locs1 (cells + 82) (slots + 5188) Q (F0 m 850 ls1 [])) : W p l e (so_rm 13 604221 7283442) s m #[Value.ref b] below meth c H locs cells slots Q (F0 m 547 ls []) := by
  have F0 := F
  obtain ⟨S, hB, K, E, hX, J, Xs, hbl, hL⟩ := F0
  obtain ⟨P, hS, M, ⟨r0, N⟩, ⟨f, O⟩, hi⟩ := I
  have hl : lv_has ls 7 [(0, .ref b), (1, .ref hm), (2, .ref mo), (3, .ref out), (4, .int (nI (4 * t)))] := hl
  refine lv_aload_n S.1 S.2.1 d_Lw_law_547 rfl (lv_at hl 1 rfl) ?_
  refine lv_aload_n S.1 S.2.1 d_Lw_law_548 rfl (lv_at hl 0 rfl) ?_
  refine lv_iload S.1 S.2.1 d_Lw_law_549 (lv_at hl 4 rfl) ?_
  refine lv_iconst (v := 1) S.1 S.2.1 d_Lw_law_551 (by decide) ?_
  refine sc_row F hS 1 (nI_add _ 1) (by omega) d_Lw_law_552 d_Lw_law_553 ?_
  refine so_callR (cv_Lw_82_HM S hB K E P hS M.cell (t_size l hB M (xs (4 * t + 1))) rfl (by decide) (by omega) (by omega) hl.1 rfl (Nat.le_of_ble_eq_true rfl) d_Lw_law_554) (fun v hv => ?_)
  subst hv
  refine lv_aload_n S.1 S.2.1 d_Lw_law_557 rfl (lv_at hl 2 rfl) ?_
  refine lv_aload_n S.1 S.2.1 d_Lw_law_558 rfl (lv_at hl 0 rfl) ?_
  refine lv_iload S.1 S.2.1 d_Lw_law_559 (lv_at hl 4 rfl) ?_
  refine lv_iconst (v := 1) S.1 S.2.1 d_Lw_law_561 (by decide) ?_
  refine sc_row F hS 1 (nI_add _ 1) (by omega) d_Lw_law_562 d_Lw_law_563 ?_
  obtain ⟨z, hmo⟩ := N.cell
  refine so_call (cv_Lw_85_Mo S hB K E P hS hmo (m_size l hB N (xs (4 * t + 1))) rfl (by decide) (by omega) (by omega) hl.1 rfl (Nat.le_of_ble_eq_true rfl) d_Lw_law_564) hS (fun v σ2 H2 locs2 hv P2 hS2 => ?_)
  obtain ⟨rfl, N2, hF2⟩ := hv
  refine lv_icmp_eq (tgt := 850) S.1 S.2.1 d_Lw_law_567 rfl (fun _ => ?_) (fun h => absurd rfl h)
  exact W.widen (by omega) (by omega) (kk ls st σ2 H2 locs2 hl ⟨P2, hS2, M.ag (hF2.T.ag (fun t h z => tC_Mo z h)), ⟨0, N2⟩, ⟨f, hF2 _ _ O (Or.inl (show 7 < 50 by decide))⟩, hi.up⟩)
set_option maxHeartbeats 400000 in
theorem lc_entry (F : LF p l s m c b L xs D ca DE mi) (I : LI s D ca DE hm mo out B ar t st σ H locs) (hl : LV ls b hm mo out t) (ht : 4 * t + 3 < L) (hc : cells + 82 ≤ 604221) (hs : slots + 5188 ≤ 7283442) (kk : ∀ (ls1 : Array Slot) (st1 : Mst) (σ1 : so_S) (H1 : Heap) (locs1 : List Loc), LV ls1 b hm mo out t → LI s D ca DE hm mo out B ar (t + 1) st1 σ1 H1 locs1 → W p l e (so_rm 13 604221 7283442) s m #[Value.ref b] below meth c H1 locs1 (cells + 82) (slots + 5188) Q (F0 m 850 ls1 [])) : W p l e (so_rm 13 604221 7283442) s m #[Value.ref b] below meth c H locs cells slots Q (F0 m 572 ls []) := by
  have F0 := F
  obtain ⟨S, hB, K, E, hX, J, Xs, hbl, hL⟩ := F0
  obtain ⟨P, hS, M, ⟨r0, N⟩, ⟨f, O⟩, hi⟩ := I
  have hl : lv_has ls 7 [(0, .ref b), (1, .ref hm), (2, .ref mo), (3, .ref out), (4, .int (nI (4 * t)))] := hl
  refine lv_aload_n S.1 S.2.1 d_Lw_law_572 rfl (lv_at hl 1 rfl) ?_
  refine lv_aload_n S.1 S.2.1 d_Lw_law_573 rfl (lv_at hl 0 rfl) ?_
  refine lv_iload S.1 S.2.1 d_Lw_law_574 (lv_at hl 4 rfl) ?_
  refine lv_iconst (v := 1) S.1 S.2.1 d_Lw_law_576 (by decide) ?_
  refine sc_row F hS 1 (nI_add _ 1) (by omega) d_Lw_law_577 d_Lw_law_578 ?_
  refine lv_aload_n S.1 S.2.1 d_Lw_law_579 rfl (lv_at hl 0 rfl) ?_
  refine lv_iload S.1 S.2.1 d_Lw_law_580 (lv_at hl 4 rfl) ?_
  refine lv_iconst (v := 2) S.1 S.2.1 d_Lw_law_582 (by decide) ?_
  refine sc_row F hS 2 (nI_add _ 2) (by omega) d_Lw_law_583 d_Lw_law_584 ?_
  refine lv_aload_n S.1 S.2.1 d_Lw_law_585 rfl (lv_at hl 0 rfl) ?_
  refine lv_iload S.1 S.2.1 d_Lw_law_586 (lv_at hl 4 rfl) ?_
  refine lv_iconst (v := 3) S.1 S.2.1 d_Lw_law_588 (by decide) ?_
  refine sc_row F hS 3 (nI_add _ 3) (by omega) d_Lw_law_589 d_Lw_law_590 ?_
  refine lv_aload_n S.1 S.2.1 d_Lw_law_591 rfl (lv_at hl 3 rfl) ?_
  refine so_call (cw_Lw_86 S hB E P hS (c_Lw_entry l hB hX M O hi (xs (4 * t + 1)) (xs (4 * t + 2)) (xs (4 * t + 3))) rfl (by decide) (by omega) (by omega) hl.1 rfl (Nat.le_of_ble_eq_true rfl) d_Lw_law_592) hS (fun v σ1 H1 locs1 hv P1 hS1 => ?_)
  obtain ⟨r, w1, t1, f1, rfl, hs1, hM1, O1, hf1, hr3, hF1⟩ := hv
  have N1 : MoM ca σ1 mo ar r0 st := N.ag (hF1.ag (fun t h => tL_Mo h))
  refine lv_istore S.1 S.2.1 d_Lw_law_595 hl (by decide) rfl (fun ls hl => ?_)
  refine lv_aload_n S.1 S.2.1 d_Lw_law_597 rfl (lv_at hl 3 rfl) ?_
  refine lv_aload_n S.1 S.2.1 d_Lw_law_598 rfl (lv_at hl 1 rfl) ?_
  refine lv_iload S.1 S.2.1 d_Lw_law_599 (lv_at hl 5 rfl) ?_
  refine lv_iconst (v := 1) S.1 S.2.1 d_Lw_law_601 (by decide) ?_
  refine sc_row F hS1 1 (nI_add _ 1) (by omega) d_Lw_law_602 d_Lw_law_603 ?_
  refine lv_aload_n S.1 S.2.1 d_Lw_law_604 rfl (lv_at hl 1 rfl) ?_
  refine lv_iload S.1 S.2.1 d_Lw_law_605 (lv_at hl 5 rfl) ?_
  refine lv_iconst (v := 2) S.1 S.2.1 d_Lw_law_607 (by decide) ?_
  refine sc_row F hS1 2 (nI_add _ 2) (by omega) d_Lw_law_608 d_Lw_law_609 ?_
  refine lv_aload_n S.1 S.2.1 d_Lw_law_610 rfl (lv_at hl 1 rfl) ?_
  refine lv_iload S.1 S.2.1 d_Lw_law_611 (lv_at hl 5 rfl) ?_
  refine lv_iconst (v := 3) S.1 S.2.1 d_Lw_law_613 (by decide) ?_
  refine sc_row F hS1 3 (nI_add _ 3) (by omega) d_Lw_law_614 d_Lw_law_615 ?_
  obtain ⟨z, hmo⟩ := N1.cell
  refine so_call (cv_Lw_88_Mo S hB K E P1 hS1 hmo (m_entry l hB N1 hi (xs (4 * t + 1)) (xs (4 * t + 2)) (xs (4 * t + 3))) rfl (by decide) (by omega) (by omega) hl.1 rfl (Nat.le_of_ble_eq_true rfl) d_Lw_law_616) hS1 (fun v σ2 H2 locs2 hv P2 hS2 => ?_)
  obtain ⟨r2, w2, t2, rfl, hs2, N2, hF2⟩ := hv
  obtain ⟨e1, e2, e3⟩ := sEntry_u hs1 hs2
  subst e1
  subst e2
  have hM2 := hM1.ag (hF2.T.ag (fun t h z => tC_Mo z h))
  have O2 : outR ca σ2 out f1 := hF2 _ _ O1 (Or.inl (show 7 < 50 by decide))
  refine lv_istore S.1 S.2.1 d_Lw_law_619 hl (by decide) rfl (fun ls hl => ?_)
  refine lv_aload_n S.1 S.2.1 d_Lw_law_621 rfl (lv_at hl 4 rfl) ?_
  obtain ⟨z2, hmo2⟩ := N2.cell
  refine so_callR (cv_Lw_60_Mo S hB K E P2 hS2 hmo2 (m_thrown l hB N2) rfl (by decide) (by omega) (by omega) hl.1 rfl (Nat.le_of_ble_eq_true rfl) d_Lw_law_622) (fun v hv => ?_)
  subst hv
  refine lv_iload S.1 S.2.1 d_Lw_law_625 (lv_at hl 1 rfl) ?_
  refine lv_icmp_eq (tgt := 632) S.1 S.2.1 d_Lw_law_627 rfl (fun _ => ?_) (fun h => absurd rfl h)
  refine lv_iload S.1 S.2.1 d_Lw_law_632 (lv_at hl 1 rfl) ?_
  refine lv_if_ne (tgt := 649) S.1 S.2.1 d_Lw_law_634 rfl (fun _ => ?_) (fun h0 => ?_)
  · refine lv_goto (tgt := 850) S.1 S.2.1 d_Lw_law_649 rfl ?_
    exact W.widen (by omega) (by omega) (kk ls t1 σ2 H2 locs2 (lv_sub hl [2, 3, 4, 5, 6] rfl) ⟨P2, hS2, hM2, ⟨r, N2⟩, ⟨f1, O2⟩, iv_entry hi hs1⟩)
  · have hr := r_0 hr3 h0
    refine lv_aload_n S.1 S.2.1 d_Lw_law_637 rfl (lv_at hl 5 rfl) ?_
    refine lv_iconst (v := 0) S.1 S.2.1 d_Lw_law_638 (by decide) ?_
    refine so_lald S K P2 O2 2 rfl in_01 d_Lw_law_639 ?_
    refine lv_iload S.1 S.2.1 d_Lw_law_640 (lv_at hl 0 rfl) ?_
    refine lv_i2l S.1 S.2.1 d_Lw_law_642 rfl ?_
    refine lv_lcmp0 S.1 S.2.1 (show f1 0 = w2.toInt64 by rw [← e3 hr]; exact hf1 hr) d_Lw_law_643 ?_
    refine lv_if_eq (tgt := 649) S.1 S.2.1 d_Lw_law_644 rfl (fun _ => ?_) (fun h => absurd rfl h)
    refine lv_goto (tgt := 850) S.1 S.2.1 d_Lw_law_649 rfl ?_
    exact W.widen (by omega) (by omega) (kk ls t1 σ2 H2 locs2 (lv_sub hl [2, 3, 4, 5, 6] rfl) ⟨P2, hS2, hM2, ⟨r, N2⟩, ⟨f1, O2⟩, iv_entry hi hs1⟩)
set_option maxHeartbeats 400000 in
theorem lc_walk (F : LF p l s m c b L xs D ca DE mi) (I : LI s D ca DE hm mo out B ar t st σ H locs) (hl : LV ls b hm mo out t) (ht : 4 * t + 3 < L) (hc : cells + 82 ≤ 604221) (hs : slots + 5188 ≤ 7283442) (kk : ∀ (ls1 : Array Slot) (st1 : Mst) (σ1 : so_S) (H1 : Heap) (locs1 : List Loc), LV ls1 b hm mo out t → LI s D ca DE hm mo out B ar (t + 1) st1 σ1 H1 locs1 → W p l e (so_rm 13 604221 7283442) s m #[Value.ref b] below meth c H1 locs1 (cells + 82) (slots + 5188) Q (F0 m 850 ls1 [])) : W p l e (so_rm 13 604221 7283442) s m #[Value.ref b] below meth c H locs cells slots Q (F0 m 652 ls []) := by
  have F0 := F
  obtain ⟨S, hB, K, E, hX, J, Xs, hbl, hL⟩ := F0
  obtain ⟨P, hS, M, ⟨r0, N⟩, ⟨f, O⟩, hi⟩ := I
  have hl : lv_has ls 7 [(0, .ref b), (1, .ref hm), (2, .ref mo), (3, .ref out), (4, .int (nI (4 * t)))] := hl
  refine lv_aload_n S.1 S.2.1 d_Lw_law_652 rfl (lv_at hl 1 rfl) ?_
  refine lv_aload_n S.1 S.2.1 d_Lw_law_653 rfl (lv_at hl 0 rfl) ?_
  refine lv_iload S.1 S.2.1 d_Lw_law_654 (lv_at hl 4 rfl) ?_
  refine lv_iconst (v := 1) S.1 S.2.1 d_Lw_law_656 (by decide) ?_
  refine sc_row F hS 1 (nI_add _ 1) (by omega) d_Lw_law_657 d_Lw_law_658 ?_
  refine so_call (cw_Lw_89 S hB E P hS (c_Lw_walk l hB hX M (xs (4 * t + 1))) rfl (by decide) (by omega) (by omega) hl.1 rfl (Nat.le_of_ble_eq_true rfl) d_Lw_law_659) hS (fun v σ1 H1 locs1 hv P1 hS1 => ?_)
  obtain ⟨r, t1, rfl, hs1, hM1, hF1⟩ := hv
  have N1 : MoM ca σ1 mo ar r0 st := N.ag (hF1.ag (fun t h => tC_Mo h))
  refine lv_istore S.1 S.2.1 d_Lw_law_662 hl (by decide) rfl (fun ls hl => ?_)
  refine lv_aload_n S.1 S.2.1 d_Lw_law_664 rfl (lv_at hl 3 rfl) ?_
  refine lv_aload_n S.1 S.2.1 d_Lw_law_665 rfl (lv_at hl 1 rfl) ?_
  refine lv_iload S.1 S.2.1 d_Lw_law_666 (lv_at hl 5 rfl) ?_
  refine lv_iconst (v := 1) S.1 S.2.1 d_Lw_law_668 (by decide) ?_
  refine sc_row F hS1 1 (nI_add _ 1) (by omega) d_Lw_law_669 d_Lw_law_670 ?_
  obtain ⟨z, hmo⟩ := N1.cell
  refine so_call (cv_Lw_92_Mo S hB K E P1 hS1 hmo (m_walk l hB N1 (xs (4 * t + 1))) rfl (by decide) (by omega) (by omega) hl.1 rfl (Nat.le_of_ble_eq_true rfl) d_Lw_law_671) hS1 (fun v σ2 H2 locs2 hv P2 hS2 => ?_)
  obtain ⟨rfl, r2, t2, hs2, N2, hF2⟩ := hv
  obtain ⟨e1, e2, e3⟩ := sWalk_u hs1 hs2
  subst e1
  subst e2
  have hM2 := hM1.ag (hF2.T.ag (fun t h z => tC_Mo z h))
  have O2 : outR ca σ2 out f := hF2 _ _ (hF1 _ _ O (fun z => tC_7 z)) (Or.inl (show 7 < 50 by decide))
  refine lv_aload_n S.1 S.2.1 d_Lw_law_674 rfl (lv_at hl 3 rfl) ?_
  obtain ⟨z2, hmo2⟩ := N2.cell
  refine so_callR (cv_Lw_60_Mo S hB K E P2 hS2 hmo2 (m_thrown l hB N2) rfl (by decide) (by omega) (by omega) hl.1 rfl (Nat.le_of_ble_eq_true rfl) d_Lw_law_675) (fun v hv => ?_)
  subst hv
  refine lv_iload S.1 S.2.1 d_Lw_law_678 (lv_at hl 0 rfl) ?_
  refine lv_icmp_eq (tgt := 685) S.1 S.2.1 d_Lw_law_680 rfl (fun _ => ?_) (fun h => absurd rfl h)
  refine lv_goto (tgt := 850) S.1 S.2.1 d_Lw_law_685 rfl ?_
  exact W.widen (by omega) (by omega) (kk ls t1 σ2 H2 locs2 (lv_sub hl [1, 2, 3, 4, 5] rfl) ⟨P2, hS2, hM2, ⟨r, N2⟩, ⟨f, O2⟩, iv_walk hi hs1⟩)
set_option maxHeartbeats 400000 in
theorem lc_step (F : LF p l s m c b L xs D ca DE mi) (I : LI s D ca DE hm mo out B ar t st σ H locs) (hl : LV ls b hm mo out t) (ht : 4 * t + 3 < L) (hc : cells + 82 ≤ 604221) (hs : slots + 5188 ≤ 7283442) (kk : ∀ (ls1 : Array Slot) (st1 : Mst) (σ1 : so_S) (H1 : Heap) (locs1 : List Loc), LV ls1 b hm mo out t → LI s D ca DE hm mo out B ar (t + 1) st1 σ1 H1 locs1 → W p l e (so_rm 13 604221 7283442) s m #[Value.ref b] below meth c H1 locs1 (cells + 82) (slots + 5188) Q (F0 m 850 ls1 [])) : W p l e (so_rm 13 604221 7283442) s m #[Value.ref b] below meth c H locs cells slots Q (F0 m 688 ls []) := by
  have F0 := F
  obtain ⟨S, hB, K, E, hX, J, Xs, hbl, hL⟩ := F0
  obtain ⟨P, hS, M, ⟨r0, N⟩, ⟨f, O⟩, hi⟩ := I
  have hl : lv_has ls 7 [(0, .ref b), (1, .ref hm), (2, .ref mo), (3, .ref out), (4, .int (nI (4 * t)))] := hl
  refine lv_aload_n S.1 S.2.1 d_Lw_law_688 rfl (lv_at hl 1 rfl) ?_
  refine lv_aload_n S.1 S.2.1 d_Lw_law_689 rfl (lv_at hl 0 rfl) ?_
  refine lv_iload S.1 S.2.1 d_Lw_law_690 (lv_at hl 4 rfl) ?_
  refine lv_iconst (v := 1) S.1 S.2.1 d_Lw_law_692 (by decide) ?_
  refine sc_row F hS 1 (nI_add _ 1) (by omega) d_Lw_law_693 d_Lw_law_694 ?_
  refine lv_aload_n S.1 S.2.1 d_Lw_law_695 rfl (lv_at hl 3 rfl) ?_
  refine so_call (cw_Lw_93 S hB E P hS (c_Lw_step l hB hX M O hi (by omega) (xs (4 * t + 1))) rfl (by decide) (by omega) (by omega) hl.1 rfl (Nat.le_of_ble_eq_true rfl) d_Lw_law_696) hS (fun v σ1 H1 locs1 hv P1 hS1 => ?_)
  obtain ⟨r, w1, t1, f1, rfl, hs1, hM1, O1, hf1, hr3, hF1⟩ := hv
  have N1 : MoM ca σ1 mo ar r0 st := N.ag (hF1.ag (fun t h => tL_Mo h))
  refine lv_istore S.1 S.2.1 d_Lw_law_699 hl (by decide) rfl (fun ls hl => ?_)
  refine lv_aload_n S.1 S.2.1 d_Lw_law_701 rfl (lv_at hl 3 rfl) ?_
  refine lv_aload_n S.1 S.2.1 d_Lw_law_702 rfl (lv_at hl 1 rfl) ?_
  refine lv_iload S.1 S.2.1 d_Lw_law_703 (lv_at hl 5 rfl) ?_
  refine lv_iconst (v := 1) S.1 S.2.1 d_Lw_law_705 (by decide) ?_
  refine sc_row F hS1 1 (nI_add _ 1) (by omega) d_Lw_law_706 d_Lw_law_707 ?_
  obtain ⟨z, hmo⟩ := N1.cell
  refine so_call (cv_Lw_95_Mo S hB K E P1 hS1 hmo (m_step l hB N1 hi (by omega) (xs (4 * t + 1))) rfl (by decide) (by omega) (by omega) hl.1 rfl (Nat.le_of_ble_eq_true rfl) d_Lw_law_708) hS1 (fun v σ2 H2 locs2 hv P2 hS2 => ?_)
  obtain ⟨r2, w2, t2, rfl, hs2, N2, hF2⟩ := hv
  obtain ⟨e1, e2, e3⟩ := sStep_u hs1 hs2
  subst e1
  subst e2
  have hM2 := hM1.ag (hF2.T.ag (fun t h z => tC_Mo z h))
  have O2 : outR ca σ2 out f1 := hF2 _ _ O1 (Or.inl (show 7 < 50 by decide))
  refine lv_istore S.1 S.2.1 d_Lw_law_711 hl (by decide) rfl (fun ls hl => ?_)
  refine lv_aload_n S.1 S.2.1 d_Lw_law_713 rfl (lv_at hl 4 rfl) ?_
  obtain ⟨z2, hmo2⟩ := N2.cell
  refine so_callR (cv_Lw_60_Mo S hB K E P2 hS2 hmo2 (m_thrown l hB N2) rfl (by decide) (by omega) (by omega) hl.1 rfl (Nat.le_of_ble_eq_true rfl) d_Lw_law_714) (fun v hv => ?_)
  subst hv
  refine lv_iload S.1 S.2.1 d_Lw_law_717 (lv_at hl 1 rfl) ?_
  refine lv_icmp_eq (tgt := 724) S.1 S.2.1 d_Lw_law_719 rfl (fun _ => ?_) (fun h => absurd rfl h)
  refine lv_iload S.1 S.2.1 d_Lw_law_724 (lv_at hl 1 rfl) ?_
  refine lv_if_ne (tgt := 741) S.1 S.2.1 d_Lw_law_726 rfl (fun _ => ?_) (fun h0 => ?_)
  · refine lv_goto (tgt := 850) S.1 S.2.1 d_Lw_law_741 rfl ?_
    exact W.widen (by omega) (by omega) (kk ls t1 σ2 H2 locs2 (lv_sub hl [2, 3, 4, 5, 6] rfl) ⟨P2, hS2, hM2, ⟨r, N2⟩, ⟨f1, O2⟩, iv_step hi hs1⟩)
  · have hr := r_0 hr3 h0
    refine lv_aload_n S.1 S.2.1 d_Lw_law_729 rfl (lv_at hl 5 rfl) ?_
    refine lv_iconst (v := 0) S.1 S.2.1 d_Lw_law_730 (by decide) ?_
    refine so_lald S K P2 O2 2 rfl in_01 d_Lw_law_731 ?_
    refine lv_iload S.1 S.2.1 d_Lw_law_732 (lv_at hl 0 rfl) ?_
    refine lv_i2l S.1 S.2.1 d_Lw_law_734 rfl ?_
    refine lv_lcmp0 S.1 S.2.1 (show f1 0 = w2.toInt64 by rw [← e3 hr]; exact hf1 hr) d_Lw_law_735 ?_
    refine lv_if_eq (tgt := 741) S.1 S.2.1 d_Lw_law_736 rfl (fun _ => ?_) (fun h => absurd rfl h)
    refine lv_goto (tgt := 850) S.1 S.2.1 d_Lw_law_741 rfl ?_
    exact W.widen (by omega) (by omega) (kk ls t1 σ2 H2 locs2 (lv_sub hl [2, 3, 4, 5, 6] rfl) ⟨P2, hS2, hM2, ⟨r, N2⟩, ⟨f1, O2⟩, iv_step hi hs1⟩)
set_option maxHeartbeats 400000 in
theorem lc_collect (F : LF p l s m c b L xs D ca DE mi) (I : LI s D ca DE hm mo out B ar t st σ H locs) (hl : LV ls b hm mo out t) (ht : 4 * t + 3 < L) (hc : cells + 82 ≤ 604221) (hs : slots + 5188 ≤ 7283442) (kk : ∀ (ls1 : Array Slot) (st1 : Mst) (σ1 : so_S) (H1 : Heap) (locs1 : List Loc), LV ls1 b hm mo out t → LI s D ca DE hm mo out B ar (t + 1) st1 σ1 H1 locs1 → W p l e (so_rm 13 604221 7283442) s m #[Value.ref b] below meth c H1 locs1 (cells + 82) (slots + 5188) Q (F0 m 850 ls1 [])) : W p l e (so_rm 13 604221 7283442) s m #[Value.ref b] below meth c H locs cells slots Q (F0 m 744 ls []) := by
  have F0 := F
  obtain ⟨S, hB, K, E, hX, J, Xs, hbl, hL⟩ := F0
  obtain ⟨P, hS, M, ⟨r0, N⟩, ⟨f, O⟩, hi⟩ := I
  have hl : lv_has ls 7 [(0, .ref b), (1, .ref hm), (2, .ref mo), (3, .ref out), (4, .int (nI (4 * t)))] := hl
  refine lv_aload_n S.1 S.2.1 d_Lw_law_744 rfl (lv_at hl 1 rfl) ?_
  refine lv_aload_n S.1 S.2.1 d_Lw_law_745 rfl (lv_at hl 0 rfl) ?_
  refine lv_iload S.1 S.2.1 d_Lw_law_746 (lv_at hl 4 rfl) ?_
  refine lv_iconst (v := 1) S.1 S.2.1 d_Lw_law_748 (by decide) ?_
  refine sc_row F hS 1 (nI_add _ 1) (by omega) d_Lw_law_749 d_Lw_law_750 ?_
  refine lv_aload_n S.1 S.2.1 d_Lw_law_751 rfl (lv_at hl 3 rfl) ?_
  refine so_call (cw_Lw_96 S hB E P hS (c_Lw_collect l hB hX M O hi (by omega) (xs (4 * t + 1))) rfl (by decide) (by omega) (by omega) hl.1 rfl (Nat.le_of_ble_eq_true rfl) d_Lw_law_752) hS (fun v σ1 H1 locs1 hv P1 hS1 => ?_)
  obtain ⟨r, w1, t1, f1, rfl, hs1, hM1, O1, hf1, hr3, hF1⟩ := hv
  have N1 : MoM ca σ1 mo ar r0 st := N.ag (hF1.ag (fun t h => tL_Mo h))
  refine lv_istore S.1 S.2.1 d_Lw_law_755 hl (by decide) rfl (fun ls hl => ?_)
  refine lv_aload_n S.1 S.2.1 d_Lw_law_757 rfl (lv_at hl 3 rfl) ?_
  refine lv_aload_n S.1 S.2.1 d_Lw_law_758 rfl (lv_at hl 1 rfl) ?_
  refine lv_iload S.1 S.2.1 d_Lw_law_759 (lv_at hl 5 rfl) ?_
  refine lv_iconst (v := 1) S.1 S.2.1 d_Lw_law_761 (by decide) ?_
  refine sc_row F hS1 1 (nI_add _ 1) (by omega) d_Lw_law_762 d_Lw_law_763 ?_
  obtain ⟨z, hmo⟩ := N1.cell
  refine so_call (cv_Lw_98_Mo S hB K E P1 hS1 hmo (m_collect l hB N1 hi (by omega) (xs (4 * t + 1))) rfl (by decide) (by omega) (by omega) hl.1 rfl (Nat.le_of_ble_eq_true rfl) d_Lw_law_764) hS1 (fun v σ2 H2 locs2 hv P2 hS2 => ?_)
  obtain ⟨r2, w2, t2, rfl, hs2, N2, hF2⟩ := hv
  obtain ⟨e1, e2, e3⟩ := sCollect_u hs1 hs2
  subst e1
  subst e2
  have hM2 := hM1.ag (hF2.T.ag (fun t h z => tC_Mo z h))
  have O2 : outR ca σ2 out f1 := hF2 _ _ O1 (Or.inl (show 7 < 50 by decide))
  refine lv_istore S.1 S.2.1 d_Lw_law_767 hl (by decide) rfl (fun ls hl => ?_)
  refine lv_aload_n S.1 S.2.1 d_Lw_law_769 rfl (lv_at hl 4 rfl) ?_
  obtain ⟨z2, hmo2⟩ := N2.cell
  refine so_callR (cv_Lw_60_Mo S hB K E P2 hS2 hmo2 (m_thrown l hB N2) rfl (by decide) (by omega) (by omega) hl.1 rfl (Nat.le_of_ble_eq_true rfl) d_Lw_law_770) (fun v hv => ?_)
  subst hv
  refine lv_iload S.1 S.2.1 d_Lw_law_773 (lv_at hl 1 rfl) ?_
  refine lv_icmp_eq (tgt := 780) S.1 S.2.1 d_Lw_law_775 rfl (fun _ => ?_) (fun h => absurd rfl h)
  refine lv_iload S.1 S.2.1 d_Lw_law_780 (lv_at hl 1 rfl) ?_
  refine lv_if_ne (tgt := 797) S.1 S.2.1 d_Lw_law_782 rfl (fun _ => ?_) (fun h0 => ?_)
  · refine lv_goto (tgt := 850) S.1 S.2.1 d_Lw_law_797 rfl ?_
    exact W.widen (by omega) (by omega) (kk ls t1 σ2 H2 locs2 (lv_sub hl [2, 3, 4, 5, 6] rfl) ⟨P2, hS2, hM2, ⟨r, N2⟩, ⟨f1, O2⟩, iv_collect hi hs1⟩)
  · have hr := r_0 hr3 h0
    refine lv_aload_n S.1 S.2.1 d_Lw_law_785 rfl (lv_at hl 5 rfl) ?_
    refine lv_iconst (v := 0) S.1 S.2.1 d_Lw_law_786 (by decide) ?_
    refine so_lald S K P2 O2 2 rfl in_01 d_Lw_law_787 ?_
    refine lv_iload S.1 S.2.1 d_Lw_law_788 (lv_at hl 0 rfl) ?_
    refine lv_i2l S.1 S.2.1 d_Lw_law_790 rfl ?_
    refine lv_lcmp0 S.1 S.2.1 (show f1 0 = w2.toInt64 by rw [← e3 hr]; exact hf1 hr) d_Lw_law_791 ?_
    refine lv_if_eq (tgt := 797) S.1 S.2.1 d_Lw_law_792 rfl (fun _ => ?_) (fun h => absurd rfl h)
    refine lv_goto (tgt := 850) S.1 S.2.1 d_Lw_law_797 rfl ?_
    exact W.widen (by omega) (by omega) (kk ls t1 σ2 H2 locs2 (lv_sub hl [2, 3, 4, 5, 6] rfl) ⟨P2, hS2, hM2, ⟨r, N2⟩, ⟨f1, O2⟩, iv_collect hi hs1⟩)
set_option maxHeartbeats 400000 in
theorem lc_value (F : LF p l s m c b L xs D ca DE mi) (I : LI s D ca DE hm mo out B ar t st σ H locs) (hl : LV ls b hm mo out t) (ht : 4 * t + 3 < L) (hc : cells + 82 ≤ 604221) (hs : slots + 5188 ≤ 7283442) (kk : ∀ (ls1 : Array Slot) (st1 : Mst) (σ1 : so_S) (H1 : Heap) (locs1 : List Loc), LV ls1 b hm mo out t → LI s D ca DE hm mo out B ar (t + 1) st1 σ1 H1 locs1 → W p l e (so_rm 13 604221 7283442) s m #[Value.ref b] below meth c H1 locs1 (cells + 82) (slots + 5188) Q (F0 m 850 ls1 [])) : W p l e (so_rm 13 604221 7283442) s m #[Value.ref b] below meth c H locs cells slots Q (F0 m 800 ls []) := by
  have F0 := F
  obtain ⟨S, hB, K, E, hX, J, Xs, hbl, hL⟩ := F0
  obtain ⟨P, hS, M, ⟨r0, N⟩, ⟨f, O⟩, hi⟩ := I
  have hl : lv_has ls 7 [(0, .ref b), (1, .ref hm), (2, .ref mo), (3, .ref out), (4, .int (nI (4 * t)))] := hl
  refine lv_aload_n S.1 S.2.1 d_Lw_law_800 rfl (lv_at hl 1 rfl) ?_
  refine lv_aload_n S.1 S.2.1 d_Lw_law_801 rfl (lv_at hl 0 rfl) ?_
  refine lv_iload S.1 S.2.1 d_Lw_law_802 (lv_at hl 4 rfl) ?_
  refine lv_iconst (v := 1) S.1 S.2.1 d_Lw_law_804 (by decide) ?_
  refine sc_row F hS 1 (nI_add _ 1) (by omega) d_Lw_law_805 d_Lw_law_806 ?_
  refine so_callR (cv_Lw_99_HM S hB K E P hS M.cell (t_value l hB M (xs (4 * t + 1))) rfl (by decide) (by omega) (by omega) hl.1 rfl (Nat.le_of_ble_eq_true rfl) d_Lw_law_807) (fun v hv => ?_)
  subst hv
  refine lv_aload_n S.1 S.2.1 d_Lw_law_810 rfl (lv_at hl 2 rfl) ?_
  refine lv_aload_n S.1 S.2.1 d_Lw_law_811 rfl (lv_at hl 0 rfl) ?_
  refine lv_iload S.1 S.2.1 d_Lw_law_812 (lv_at hl 4 rfl) ?_
  refine lv_iconst (v := 1) S.1 S.2.1 d_Lw_law_814 (by decide) ?_
  refine sc_row F hS 1 (nI_add _ 1) (by omega) d_Lw_law_815 d_Lw_law_816 ?_
  obtain ⟨z, hmo⟩ := N.cell
  refine so_call (cv_Lw_102_Mo S hB K E P hS hmo (m_value l hB N (xs (4 * t + 1))) rfl (by decide) (by omega) (by omega) hl.1 rfl (Nat.le_of_ble_eq_true rfl) d_Lw_law_817) hS (fun v σ2 H2 locs2 hv P2 hS2 => ?_)
  obtain ⟨rfl, N2, hF2⟩ := hv
  refine lv_icmp_eq (tgt := 850) S.1 S.2.1 d_Lw_law_820 rfl (fun _ => ?_) (fun h => absurd rfl h)
  exact W.widen (by omega) (by omega) (kk ls st σ2 H2 locs2 hl ⟨P2, hS2, M.ag (hF2.T.ag (fun t h z => tC_Mo z h)), ⟨0, N2⟩, ⟨f, hF2 _ _ O (Or.inl (show 7 < 50 by decide))⟩, hi.up⟩)
set_option maxHeartbeats 400000 in
theorem lc_count (F : LF p l s m c b L xs D ca DE mi) (I : LI s D ca DE hm mo out B ar t st σ H locs) (hl : LV ls b hm mo out t) (ht : 4 * t + 3 < L) (hc : cells + 82 ≤ 604221) (hs : slots + 5188 ≤ 7283442) (kk : ∀ (ls1 : Array Slot) (st1 : Mst) (σ1 : so_S) (H1 : Heap) (locs1 : List Loc), LV ls1 b hm mo out t → LI s D ca DE hm mo out B ar (t + 1) st1 σ1 H1 locs1 → W p l e (so_rm 13 604221 7283442) s m #[Value.ref b] below meth c H1 locs1 (cells + 82) (slots + 5188) Q (F0 m 850 ls1 [])) : W p l e (so_rm 13 604221 7283442) s m #[Value.ref b] below meth c H locs cells slots Q (F0 m 825 ls []) := by
  have F0 := F
  obtain ⟨S, hB, K, E, hX, J, Xs, hbl, hL⟩ := F0
  obtain ⟨P, hS, M, ⟨r0, N⟩, ⟨f, O⟩, hi⟩ := I
  have hl : lv_has ls 7 [(0, .ref b), (1, .ref hm), (2, .ref mo), (3, .ref out), (4, .int (nI (4 * t)))] := hl
  refine lv_aload_n S.1 S.2.1 d_Lw_law_825 rfl (lv_at hl 1 rfl) ?_
  refine lv_aload_n S.1 S.2.1 d_Lw_law_826 rfl (lv_at hl 0 rfl) ?_
  refine lv_iload S.1 S.2.1 d_Lw_law_827 (lv_at hl 4 rfl) ?_
  refine lv_iconst (v := 1) S.1 S.2.1 d_Lw_law_829 (by decide) ?_
  refine sc_row F hS 1 (nI_add _ 1) (by omega) d_Lw_law_830 d_Lw_law_831 ?_
  refine so_callR (cv_Lw_103_HM S hB K E P hS M.cell (t_count l hB M (xs (4 * t + 1))) rfl (by decide) (by omega) (by omega) hl.1 rfl (Nat.le_of_ble_eq_true rfl) d_Lw_law_832) (fun v hv => ?_)
  subst hv
  refine lv_aload_n S.1 S.2.1 d_Lw_law_835 rfl (lv_at hl 2 rfl) ?_
  refine lv_aload_n S.1 S.2.1 d_Lw_law_836 rfl (lv_at hl 0 rfl) ?_
  refine lv_iload S.1 S.2.1 d_Lw_law_837 (lv_at hl 4 rfl) ?_
  refine lv_iconst (v := 1) S.1 S.2.1 d_Lw_law_839 (by decide) ?_
  refine sc_row F hS 1 (nI_add _ 1) (by omega) d_Lw_law_840 d_Lw_law_841 ?_
  obtain ⟨z, hmo⟩ := N.cell
  refine so_call (cv_Lw_106_Mo S hB K E P hS hmo (m_count l hB N (xs (4 * t + 1))) rfl (by decide) (by omega) (by omega) hl.1 rfl (Nat.le_of_ble_eq_true rfl) d_Lw_law_842) hS (fun v σ2 H2 locs2 hv P2 hS2 => ?_)
  obtain ⟨rfl, N2, hF2⟩ := hv
  refine lv_icmp_eq (tgt := 850) S.1 S.2.1 d_Lw_law_845 rfl (fun _ => ?_) (fun h => absurd rfl h)
  exact W.widen (by omega) (by omega) (kk ls st σ2 H2 locs2 hl ⟨P2, hS2, M.ag (hF2.T.ag (fun t h z => tC_Mo z h)), ⟨0, N2⟩, ⟨f, hF2 _ _ O (Or.inl (show 7 < 50 by decide))⟩, hi.up⟩)
end LC

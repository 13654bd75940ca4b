/-! The law's beginning, and its room. -/
theorem simO_0 : simO X_0 o_0 := fun i hi => ⟨rfl, fun h => by cases h⟩
theorem simM_0 : simM o_0 q_0 (fun _ => []) (fun _ => none) :=
  ⟨⟨rfl, fun x h => by cases h⟩, ⟨rfl, rfl, fun x h => by cases h⟩, ⟨rfl, fun s x h => by cases h⟩, ⟨rfl, fun x h => by cases h⟩, ⟨rfl, fun x h => by cases h⟩, fun _ _ _ _ _ => rfl⟩
theorem HmM_0 {ca : Nat → ClassId} {DE : Nat} {σ : so_S} {hm : Nat} {B : Bx} (h : HMR ca DE σ hm B X_0 k_0 4 0 (fun _ => []) (fun _ => none)) : HmM ca DE σ hm B (o_0, q_0, (4, 0, 0), k_0) := ⟨X_0, _, _, h, simO_0, rfl, simM_0⟩
theorem room_le {s : State} {pl : Platform} {r r' : Room} (hf : r.frames ≤ r'.frames) (hl : r.locals ≤ r'.locals) (hc : r.cells ≤ r'.cells) (hs : r.slots ≤ r'.slots) (h : s.hasRoom pl r' = true) : s.hasRoom pl r = true := by
  simp only [State.hasRoom, Bool.and_eq_true, decide_eq_true_eq] at h ⊢
  obtain ⟨⟨⟨⟨y, a, b, c, d, e⟩, f⟩, g⟩, i⟩ := h
  exact ⟨⟨⟨⟨by omega, by omega, by omega, by omega, by omega, e⟩, by omega⟩, by omega⟩, i⟩
section LB
variable {p : Program} {l : Launch} {e : Env} {s : State} {m : MethodId} {args : Array Value} {below : List Frame} {meth : Method} {c : Code} {Q : State → Prop}
theorem W_room {R R' : Room} {H : Heap} {locs : List Loc} {cells slots : Nat} {g : JFrame} (hf : R'.frames ≤ R.frames) (hl : R'.locals ≤ R.locals) (hc : R'.cells ≤ R.cells) (hs : R'.slots ≤ R.slots) (kk : W p l e R' s m args below meth c H locs cells slots Q g) : W p l e R s m args below meth c H locs cells slots Q g := fun T hT X => kk T hT { X with room := room_le hf hl hc hs X.room }
variable {b L mi DE : Nat} {xs : Nat → Int32} {D : va_G} {ca : Nat → ClassId} {ls : Array Slot}
set_option maxHeartbeats 1000000 in
theorem law_begin (F : LF p l s m c b L xs D ca DE mi) (hl : lv_has ls 7 [(0, .ref b)])
    (hend : ∀ (ls : Array Slot) (H : Heap) (locs : List Loc) (cells slots : Nat), va_S (so_A s.heap.size) s.heap H locs → cells ≤ 604221 → slots ≤ 7283442 → W p l e (so_rm 13 604221 7283442) s m #[Value.ref b] below meth c H locs cells slots Q (F0 m 856 ls [])) :
    W p l e (so_rm 13 604221 7283442) s m #[Value.ref b] below meth c s.heap [] 0 0 Q (F0 m 0 ls []) := by
  have F1 := F
  obtain ⟨S, hB, K, E, hX, J, Xs, hbl, hL⟩ := F1
  have P : so_P D vcl s.heap.size (fun _ => none) s.heap := fun a e h => by cases h
  have hS : va_S (so_A s.heap.size) s.heap s.heap [] := va_S.rf
  refine so_new (ci := 0) 0 S K P hS E.2.1 i_HM t_HM t_HM_ok (S.2.2.2.2 _ wd_28) (S.2.2.2.2 _ wd_29) (S.2.2.2.2 _ wd_1) rfl (fs := [.null, .null, .null, .null]) (fun j hj => by rcases j with _ | _ | _ | _ | j <;> first | rfl | omega) (Nat.le_of_ble_eq_true rfl) (Nat.le_of_ble_eq_true rfl) d_Lw_law_0 (fun hm H hq P hS => ?_)
  refine lv_dup S.1 S.2.1 d_Lw_law_3 rfl ?_
  refine so_call (ci_Lw_50 S hB E P hS (c_HM_init l hB J so_us) rfl (by decide) (Nat.le_of_ble_eq_true rfl) (Nat.le_of_ble_eq_true rfl) hl.1 rfl (Nat.le_of_ble_eq_true rfl) d_Lw_law_4) hS (fun v σ1 H locs hv P hS => ?_)
  obtain ⟨rfl, ⟨B, hH⟩, -⟩ := hv
  refine lv_astore_n S.1 S.2.1 d_Lw_law_7 rfl hl (by decide) rfl (fun ls hl => ?_)
  refine so_new (ci := 10) 50 S K P hS E.2.1 i_Mo t_Mo t_Mo_ok (S.2.2.2.2 _ wd_852) (S.2.2.2.2 _ wd_853) (S.2.2.2.2 _ wd_13) rfl (fs := [.int 0, .null, .null, .null, .null, .null, .null, .int 0, .null, .null, .null, .null, .int 0, .null, .int 0, .null, .null, .null]) (fun j hj => by rcases j with _ | _ | _ | _ | _ | _ | _ | _ | _ | _ | _ | _ | _ | _ | _ | _ | _ | _ | j <;> first | rfl | omega) (Nat.le_of_ble_eq_true rfl) (Nat.le_of_ble_eq_true rfl) d_Lw_law_8 (fun mo H hq P hS => ?_)
  have hH := hmr_ag hH (ag_nw hq (y := (50, .inr (10, [.int 0, .null, .null, .null, .null, .null, .null, .int 0, .null, .null, .null, .null, .int 0, .null, .int 0, .null, .null, .null]))))
  refine lv_dup S.1 S.2.1 d_Lw_law_11 rfl ?_
  refine so_call (ci_Lw_53 S hB E P hS (c_Mo_init l hB so_us) rfl (by decide) (Nat.le_of_ble_eq_true rfl) (Nat.le_of_ble_eq_true rfl) hl.1 rfl (Nat.le_of_ble_eq_true rfl) d_Lw_law_12) hS (fun v σ2 H locs hv P hS => ?_)
  obtain ⟨rfl, ar, R1, hR, hF2, hz, href⟩ := hv
  have hH := hmr_ag hH (hF2.T.ag (fun t h z => tC_Mo z h))
  refine lv_astore_n S.1 S.2.1 d_Lw_law_15 rfl hl (by decide) rfl (fun ls hl => ?_)
  refine lv_iconst (v := 1) S.1 S.2.1 d_Lw_law_16 (by decide) ?_
  refine so_newa (atype := .long) 7 S K P hS E.2.1 (S.2.2.2.2 _ wd_1069) 2 rfl rfl (fun C h => by cases h) (N' := 1) (a0 := (1, .inr (.inl (fun _ => 0)))) (fun _ => rfl) (by decide) (by decide) (by decide) (Nat.le_of_ble_eq_true rfl) (Nat.le_of_ble_eq_true rfl) d_Lw_law_17 (fun out H hq P hS => ?_)
  have hH := hmr_ag hH (ag_nw hq (y := (7, aJ ca 1 (fun _ => 0))))
  have hR := hR.ag (ag_nw hq (y := (7, aJ ca 1 (fun _ => 0))))
  refine lv_astore_n S.1 S.2.1 d_Lw_law_19 rfl hl (by decide) rfl (fun ls hl => ?_)
  refine lv_iconst (v := 0) S.1 S.2.1 d_Lw_law_20 (by decide) ?_
  refine lv_istore S.1 S.2.1 d_Lw_law_21 hl (by decide) rfl (fun ls hl => ?_)
  exact W.widen (Nat.le_of_ble_eq_true rfl) (Nat.le_of_ble_eq_true rfl) (law_loop F hend 512 0 ls _ _ H _ (by omega) (by decide) (lv_sub hl [4, 3, 2, 1, 0] rfl) ⟨P, hS, HmM_0 hH, ⟨0, R1, hR, href, hz⟩, ⟨_, so_us⟩, invS_0⟩)
end LB

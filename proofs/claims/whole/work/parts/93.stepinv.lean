/-! The invariant over steps; c counts the calls. -/
def invS (c : Nat) (s : Mst) : Prop := inv s.o s.q s.n ∧ s.n.2.1 ≤ c ∧ ∀ i, i < 5 → s.k.2.2 i ≤ c
section SI1
variable {c : Nat} {s t : Mst} {x kx vx wx w y v : Int32} {r : Nat} {b : Bool} {o : Obs} {q q1 : Mps} {n n1 : Nms} {mp key val : Nat}
theorem invS.up (h : invS c s) : invS (c + 1) s := ⟨h.1, Nat.le_succ_of_le h.2.1, fun i hi => Nat.le_succ_of_le (h.2.2 i hi)⟩
theorem tk_ge : n.2.1 ≤ (tk_M n mp).2.1 ∧ (tk_M n mp).2.1 ≤ n.2.1 + 1 := by
  unfold tk_M
  split
  · exact ⟨Nat.le_succ _, Nat.le_refl _⟩
  · exact ⟨Nat.le_refl _, Nat.le_succ _⟩
theorem tk_hu (h : inv o q n) : mp = 1 → 1 ≤ (tk_M n mp).2.1 ∧ (tk_M n mp).2.1 ∉ q.2.1.2 := by
  rintro rfl
  refine ⟨Nat.succ_le_succ (Nat.zero_le _), fun hm => ?_⟩
  have := (h.2.2.2.2.1.1 _ hm).2
  have e1 : (tk_M n 1).2.1 = n.2.1 + 1 := rfl
  omega
theorem uw_at {k : Wks} {j : Nat} : (uw_M q k mp j).2.2 = k.2.2 := by
  unfold uw_M
  split <;> rfl
theorem ad_tm (hm : mp < 5) (h : adR o q n mp key val q1 n1) : n1.2.1 = n.2.1 := by
  rcases (show mp = 0 ∨ mp = 1 ∨ mp = 2 ∨ mp = 3 ∨ mp = 4 by omega) with rfl | rfl | rfl | rfl | rfl
  · have h2 := h.2
    rw [h2]
  · have h2 := h.2
    rw [h2]
  · have h2 := h.2
    rw [h2]
  · have h2 := h.2
    rw [h2]
  · have h2 := h.2
    rw [h2]
theorem gk_8 (hk : key < 32) (h : gk_O o (nI 3) (nI key) = true) : o.2.1 key < 8 := by
  unfold gk_O at h
  rw [Bool.and_eq_true, Bool.and_eq_true, Bool.or_eq_true] at h
  rcases h.2.2 with z | z
  · exact absurd rfl (of_decide_eq_true z)
  · have := of_decide_eq_true z
    rw [nI_clamp (by omega)] at this
    omega
theorem iv_make (h : invS c s) (hs : sMake s x r v t) : invS (c + 1) t := by
  rcases hs with ⟨_, _, rfl⟩ | ⟨_, _, _, _, rfl⟩ | ⟨va, i, hv, _, hf, _, _, rfl⟩
  · exact h.up
  · exact h.up
  · exact ⟨inv_make h.1 hf.1 hf.2.1 hv, h.up.2⟩
theorem iv_refer (h : invS c s) (hs : sRefer s x w y r v t) : invS (c + 1) t := by
  rcases hs with ⟨_, _, rfl⟩ | ⟨j, wh, hj, hw, a, _, _, _, _, rfl⟩
  · exact h.up
  · exact ⟨inv_refer h.1 a, h.up.2⟩
theorem iv_root (h : invS c s) (hs : sRoot s x b r v t) : invS (c + 1) t := by
  rcases hs with ⟨_, _, rfl⟩ | ⟨j, hj, _, a, _, _, rfl⟩
  · exact h.up
  · exact ⟨inv_root h.1, h.up.2⟩
theorem iv_get (h : invS c s) (hs : sGet s x kx r v t) : invS (c + 1) t := by
  rcases hs with ⟨_, _, rfl⟩ | ⟨mp, key, hm, hk, _, _, hl, _, hn, _, _, rfl⟩ | ⟨mp, key, j, e, hm, hk, _, _, hl, _, hh, _, _, rfl⟩
  · exact h.up
  · exact ⟨inv_tick h.1, Nat.le_trans tk_ge.2 (Nat.succ_le_succ h.2.1), h.up.2.2⟩
  · refine ⟨inv_use (inv_tick h.1) hh (tk_hu h.1), Nat.le_trans tk_ge.2 (Nat.succ_le_succ h.2.1), ?_⟩
    show ∀ i, i < 5 → (uw_M s.q s.k mp j).2.2 i ≤ c + 1
    rw [uw_at]
    exact h.up.2.2
theorem iv_remove (h : invS c s) (hs : sRemove s x kx r v t) : invS (c + 1) t := by
  rcases hs with ⟨_, _, rfl⟩ | ⟨mp, key, hm, hk, _, _, hl, _, hn, _, _, rfl⟩ | ⟨mp, key, j, e, hm, hk, _, _, hl, _, hh, _, _, rfl⟩
  · exact h.up
  · exact h.up
  · exact ⟨inv_drop h.1 hm hh, h.up.2⟩
theorem iv_put (h : invS c s) (hs : sPut s x kx vx r v t) : invS (c + 1) t := by
  rcases hs with ⟨_, _, rfl⟩ | ⟨_, _, _, _, _, _, _, _, rfl⟩ | ⟨mp, key, val, q1, n1, hm, hk, hva, rfl, rfl, _, hl, hl', a, hn, h12, had, _, _, rfl⟩ | ⟨mp, key, val, j, e, hm, hk, hva, rfl, _, _, hl, hl', a, hh, _, _, rfl⟩
  · exact h.up
  · exact h.up
  · refine ⟨inv_add (inv_tick h.1) hm hn hk hl hva hl' h12 ?_ (tk_hu h.1) had, ?_, h.up.2.2⟩
    · rintro rfl
      unfold po_O at a
      rw [Bool.and_eq_true] at a
      exact gk_8 hk a.1
    · show n1.2.1 ≤ c + 1
      rw [ad_tm hm had]
      exact Nat.le_trans tk_ge.2 (Nat.succ_le_succ h.2.1)
  · obtain ⟨i1, i2⟩ := inv_set h.1 hm hh hva hl'
    refine ⟨inv_use (inv_tick i1) i2 (tk_hu i1), Nat.le_trans tk_ge.2 (Nat.succ_le_succ h.2.1), ?_⟩
    show ∀ i, i < 5 → (uw_M (st_M s.q mp j (e.1, val)) s.k mp j).2.2 i ≤ c + 1
    rw [uw_at]
    exact h.up.2.2
theorem iv_walk (h : invS c s) (hs : sWalk s x r v t) : invS (c + 1) t := by
  rcases hs with ⟨_, _, rfl⟩ | ⟨j, hj, _, _, _, rfl⟩
  · exact h.up
  · refine ⟨h.1, h.up.2.1, fun i hi => ?_⟩
    show va_up s.k.2.2 j 0 i ≤ c + 1
    unfold va_up
    split
    · exact Nat.zero_le _
    · exact h.up.2.2 i hi
theorem iv_step (h : invS c s) (hs : sStep s x r v t) : invS (c + 1) t := by
  rcases hs with ⟨_, _, rfl⟩ | ⟨_, _, _, _, _, _, rfl⟩ | ⟨_, _, _, _, _, _, _, rfl⟩ | ⟨mp, e, hm, _, _, _, _, _, _, _, rfl⟩
  · exact h.up
  · exact h.up
  · exact h.up
  · refine ⟨h.1, h.up.2.1, fun i hi => ?_⟩
    show va_up s.k.2.2 mp (s.k.2.2 mp + 1) i ≤ c + 1
    unfold va_up
    split
    · exact Nat.succ_le_succ (h.2.2 mp hm)
    · exact h.up.2.2 i hi
theorem zip_l : ∀ {l : List (Nat × Nat)} {u : List Nat}, u.length = l.length → ∃ L : List En, L.map kv = l ∧ L.map us = u
  | [], [], _ => ⟨[], rfl, rfl⟩
  | [], _ :: _, h => by cases h
  | _ :: _, [], h => by cases h
  | a :: l, b :: u, h => by
    obtain ⟨L, h1, h2⟩ := zip_l (l := l) (u := u) (Nat.succ.inj h)
    exact ⟨(0, a.1, 0, a.2, b) :: L, by rw [List.map_cons, h1], by rw [List.map_cons, h2]⟩
theorem iv_collect (h : invS c s) (hs : sCollect s x r v t) : invS (c + 1) t := by
  rcases hs with ⟨_, _, rfl⟩ | ⟨pr, hp, _, st, rfl, _, _, rfl⟩
  · exact h.up
  · obtain ⟨L, h1, h2⟩ := zip_l h.1.2.2.2.2.1.2.2
    exact ⟨(inv_coll (k := s.k) h.1 h1 h2 pr _).1, h.up.2⟩
/-- keys are live: a new object changes no mark -/
theorem sim_make {L : Nat → List En} {sl : Nat → Option En} (h : inv o q n) (sm : simM o q L sl) {i va : Nat} (hf : o.1 i = false) : simM (va_up o.1 i true, va_up o.2.1 i va, va_up o.2.2.1 i false, va_up o.2.2.2 i (fun _ => none)) q L sl := by
  have key : ∀ {L0 : List En} {l : List (Nat × Nat)}, L0.map kv = l → okR o l → mkR o L0 → mkR (va_up o.1 i true, va_up o.2.1 i va, va_up o.2.2.1 i false, va_up o.2.2.2 i (fun _ => none)) L0 := by
    intro L0 l e1 ho hm z hz
    have h1 := (ho (kv z) (by rw [← e1]; exact List.mem_map_of_mem hz)).1.2
    show z.2.2.1 = va_up o.2.1 i va z.2.1
    unfold va_up
    rw [if_neg (fun e => by rw [show (kv z).1 = i from e, hf] at h1; cases h1)]
    exact hm z hz
  exact ⟨⟨sm.1.1, key sm.1.1 h.1.2.1.1.1 sm.1.2⟩, ⟨sm.2.1.1, sm.2.1.2.1, key sm.2.1.1 h.1.2.1.2.1.1 sm.2.1.2.2⟩, sm.2.2.1, sm.2.2.2.1, ⟨sm.2.2.2.2.1.1, key sm.2.2.2.2.1.1 h.1.2.1.2.2.1 sm.2.2.2.2.1.2⟩, sm.2.2.2.2.2⟩
end SI1
theorem invS_0 : invS 0 (o_0, q_0, (4, 0, 0), k_0) := ⟨inv_0, Nat.le_refl _, fun _ _ => Nat.le_refl _⟩

/-! The reference's methods as steps of the model. -/
/-- the reference's object stands for the model's state s; its last refusal was r -/
def MoM (ca : Nat → ClassId) (σ : so_S) (mo : Nat) (ar : Nat → Nat) (r : Nat) (s : Mst) : Prop := ∃ R, MoR ca σ mo ar R ∧ refR R s.o s.q s.n s.k ∧ R.1 0 = nI r
theorem en_lt {o : Obs} {q : Mps} {n : Nms} {mp kk : Nat} {e : Nat × Nat} (h : inv o q n) (hm : mp < 5) (he : en_M q mp kk e) : kk < 2 ^ 31 := by
  have row : ∀ {l : List (Nat × Nat)}, okR o l → unR o l → l[kk]? = some e → kk < 2 ^ 31 := fun h1 h2 h3 => by
    have a := row_le h1 h2
    have b := (List.getElem?_eq_some_iff.mp h3).1
    omega
  rcases (show mp = 0 ∨ mp = 1 ∨ mp = 2 ∨ mp = 3 ∨ mp = 4 by omega) with rfl | rfl | rfl | rfl | rfl
  · exact row h.1.2.1.1.1 h.1.2.1.1.2 he
  · exact row h.1.2.1.2.1.1 h.1.2.1.2.1.2 he
  · obtain ⟨u, hu, -, rfl⟩ := he
    have := cn_le q.2.2.1 u
    omega
  · obtain ⟨hu, -, rfl⟩ := he
    have := cn_le q.2.2.2.1 e.1
    omega
  · exact row h.1.2.1.2.2.1 h.1.2.1.2.2.2 he
section RS1
variable {s0 : State} {D : va_G} {ca : Nat → ClassId} {σ : so_S} {mo r0 c : Nat} {ar : Nat → Nat} {s : Mst}
theorem m_make (l : Launch) (hB : so_B tbl s0 D vcl (tyl ca)) (M : MoM ca σ mo ar r0 s) (x : Int32) : so_C l s0 D vcl y_Mo_make b_Mo_make 3 (some .int) 1 0 0 [.ref mo, .int x] σ (fun v σ1 => ∃ r w1 t, v = some (.int w1) ∧ sMake s x r w1 t ∧ MoM ca σ1 mo ar r t ∧ fM σ σ1) := by
  obtain ⟨R, h1, h2, h3⟩ := M
  refine so_C.mono (c_Mo_make l hB h1 h2 x) (fun v σ1 hv => ?_)
  obtain ⟨R1, hv, hM, hF⟩ := hv
  rcases hv with ⟨z, rfl, h4, h5⟩ | ⟨z1, z2, z3, rfl, h4, h5⟩ | ⟨va, i, hva, rfl, hf, rfl, h4, h5⟩
  · exact ⟨1, _, s, rfl, Or.inl ⟨z, rfl, rfl⟩, ⟨R1, hM, h5, h4⟩, hF⟩
  · exact ⟨2, _, s, rfl, Or.inr (Or.inl ⟨z1, z2, z3, rfl, rfl⟩), ⟨R1, hM, h5, h4⟩, hF⟩
  · exact ⟨0, _, _, rfl, Or.inr (Or.inr ⟨va, i, hva, rfl, hf, rfl, rfl, rfl⟩), ⟨R1, hM, h5, h4⟩, hF⟩
theorem m_refer (l : Launch) (hB : so_B tbl s0 D vcl (tyl ca)) (M : MoM ca σ mo ar r0 s) (x w y : Int32) : so_C l s0 D vcl y_Mo_refer b_Mo_refer 5 (some .int) 1 0 0 [.ref mo, .int x, .int w, .int y] σ (fun v σ1 => ∃ r w1 t, v = some (.int w1) ∧ sRefer s x w y r w1 t ∧ MoM ca σ1 mo ar r t ∧ fM σ σ1) := by
  obtain ⟨R, h1, h2, h3⟩ := M
  refine so_C.mono (c_Mo_refer l hB h1 h2 x w y) (fun v σ1 hv => ?_)
  obtain ⟨R1, hv, hM, hF⟩ := hv
  rcases hv with ⟨z, rfl, h4, h5⟩ | ⟨j, wh, hj, hw, hok, rfl, rfl, rfl, h4, h5⟩
  · exact ⟨1, _, s, rfl, Or.inl ⟨z, rfl, rfl⟩, ⟨R1, hM, h5, h4⟩, hF⟩
  · exact ⟨0, _, _, rfl, Or.inr ⟨j, wh, hj, hw, hok, rfl, rfl, rfl, rfl, rfl⟩, ⟨R1, hM, h5, h4⟩, hF⟩
theorem m_root (l : Launch) (hB : so_B tbl s0 D vcl (tyl ca)) (M : MoM ca σ mo ar r0 s) (x : Int32) (b : Bool) : so_C l s0 D vcl y_Mo_root b_Mo_root 4 (some .boolean) 1 0 0 [.ref mo, .int x, .int (bI b)] σ (fun v σ1 => ∃ r b1 t, v = some (.int (bI b1)) ∧ sRoot s x b r (bI b1) t ∧ MoM ca σ1 mo ar r t ∧ fM σ σ1) := by
  obtain ⟨R, h1, h2, h3⟩ := M
  refine so_C.mono (c_Mo_root l hB h1 h2 x b) (fun v σ1 hv => ?_)
  obtain ⟨R1, hv, hM, hF⟩ := hv
  rcases hv with ⟨z, rfl, h4, h5⟩ | ⟨j, hj, rfl, ha, rfl, h4, h5⟩
  · exact ⟨1, false, s, rfl, Or.inl ⟨z, rfl, rfl⟩, ⟨R1, hM, h5, h4⟩, hF⟩
  · exact ⟨0, _, _, rfl, Or.inr ⟨j, hj, rfl, ha, rfl, rfl, rfl⟩, ⟨R1, hM, h5, h4⟩, hF⟩
theorem m_walk (l : Launch) (hB : so_B tbl s0 D vcl (tyl ca)) (M : MoM ca σ mo ar r0 s) (x : Int32) : so_C l s0 D vcl y_Mo_walk b_Mo_walk 2 none 1 0 0 [.ref mo, .int x] σ (fun v σ1 => v = none ∧ ∃ r t, sWalk s x r 0 t ∧ MoM ca σ1 mo ar r t ∧ fM σ σ1) := by
  obtain ⟨R, h1, h2, h3⟩ := M
  refine so_C.mono (c_Mo_walk l hB h1 h2 x) (fun v σ1 hv => ?_)
  obtain ⟨R1, hv, hM, hF⟩ := hv
  rcases hv with ⟨z, rfl, h4, h5⟩ | ⟨j, hj, rfl, rfl, h4, h5⟩
  · exact ⟨rfl, 1, s, Or.inl ⟨z, rfl, rfl⟩, ⟨R1, hM, h5, h4⟩, hF⟩
  · exact ⟨rfl, 0, _, Or.inr ⟨j, hj, rfl, rfl, rfl, rfl⟩, ⟨R1, hM, h5, h4⟩, hF⟩
theorem m_entry (l : Launch) (hB : so_B tbl s0 D vcl (tyl ca)) (M : MoM ca σ mo ar r0 s) (hi : invS c s) (x kx wx : Int32) : so_C l s0 D vcl y_Mo_entry b_Mo_entry 5 (some .int) 1 0 0 [.ref mo, .int x, .int kx, .int wx] σ (fun v σ1 => ∃ r w1 t, v = some (.int w1) ∧ sEntry s x kx wx r w1 t ∧ MoM ca σ1 mo ar r t ∧ fM σ σ1) := by
  obtain ⟨R, h1, h2, h3⟩ := M
  refine so_C.mono (c_Mo_entry l hB h1 h2 hi.1.1.K x kx wx) (fun v σ1 hv => ?_)
  obtain ⟨R1, hv, hM, hF⟩ := hv
  rcases hv with ⟨z, rfl, h4, h5⟩ | ⟨mp, kk, e, hm, rfl, rfl, heo, he, hw, h4, h5⟩
  · exact ⟨1, _, s, rfl, ⟨rfl, Or.inl ⟨z, rfl⟩⟩, ⟨R1, hM, h5, h4⟩, hF⟩
  · rcases hw with ⟨rfl, rfl⟩ | ⟨rfl, rfl⟩
    · exact ⟨0, _, s, rfl, ⟨rfl, Or.inr ⟨mp, kk, e, hm, rfl, en_lt hi.1 hm he, rfl, heo, he, Or.inl ⟨rfl, rfl⟩, rfl⟩⟩, ⟨R1, hM, h5, h4⟩, hF⟩
    · exact ⟨0, _, s, rfl, ⟨rfl, Or.inr ⟨mp, kk, e, hm, rfl, en_lt hi.1 hm he, rfl, heo, he, Or.inr ⟨rfl, rfl⟩, rfl⟩⟩, ⟨R1, hM, h5, h4⟩, hF⟩
theorem m_step (l : Launch) (hB : so_B tbl s0 D vcl (tyl ca)) (M : MoM ca σ mo ar r0 s) (hi : invS c s) (hc : c < 900) (x : Int32) : so_C l s0 D vcl y_Mo_step b_Mo_step 2 (some .int) 1 0 0 [.ref mo, .int x] σ (fun v σ1 => ∃ r w1 t, v = some (.int w1) ∧ sStep s x r w1 t ∧ MoM ca σ1 mo ar r t ∧ fM σ σ1) := by
  obtain ⟨R, h1, h2, h3⟩ := M
  refine so_C.mono (c_Mo_step l hB h1 h2 hi.1.1.K (fun i hi2 => Nat.lt_of_le_of_lt (hi.2.2 i hi2) hc) x) (fun v σ1 hv => ?_)
  obtain ⟨R1, hv, hM, hF⟩ := hv
  rcases hv with ⟨z, rfl, h4, h5⟩ | ⟨mp, hm, rfl, a, b, rfl, h4, h5⟩ | ⟨mp, hm, rfl, a, b, z, rfl, h4, h5⟩ | ⟨mp, e, hm, rfl, a, b, z, he, rfl, h4, h5⟩
  · exact ⟨1, _, s, rfl, Or.inl ⟨z, rfl, rfl⟩, ⟨R1, hM, h5, h4⟩, hF⟩
  · exact ⟨2, _, s, rfl, Or.inr (Or.inl ⟨mp, hm, rfl, a, b, rfl, rfl⟩), ⟨R1, hM, h5, h4⟩, hF⟩
  · exact ⟨3, _, s, rfl, Or.inr (Or.inr (Or.inl ⟨mp, hm, rfl, a, b, z, rfl, rfl⟩)), ⟨R1, hM, h5, h4⟩, hF⟩
  · exact ⟨0, _, _, rfl, Or.inr (Or.inr (Or.inr ⟨mp, e, hm, rfl, a, b, z, he, rfl, rfl, rfl⟩)), ⟨R1, hM, h5, h4⟩, hF⟩
theorem m_get (l : Launch) (hB : so_B tbl s0 D vcl (tyl ca)) (M : MoM ca σ mo ar r0 s) (hi : invS c s) (x kx : Int32) : so_C l s0 D vcl y_Mo_get b_Mo_get 5 (some .int) 3 0 0 [.ref mo, .int x, .int kx] σ (fun v σ1 => ∃ r w1 t, v = some (.int w1) ∧ sGet s x kx r w1 t ∧ MoM ca σ1 mo ar r t ∧ fM σ σ1) := by
  obtain ⟨R, h1, h2, h3⟩ := M
  refine so_C.mono (c_Mo_get l hB h1 h2 hi.1.1 x kx) (fun v σ1 hv => ?_)
  obtain ⟨R1, hv, hM, hF⟩ := hv
  rcases hv with ⟨z, rfl, h4, h5⟩ | ⟨mp, key, hm, hk, rfl, rfl, ha, hg, hn, rfl, h4, h5⟩ | ⟨mp, key, j, e, hm, hk, rfl, rfl, ha, hg, hh, rfl, h4, h5⟩
  · exact ⟨1, _, s, rfl, Or.inl ⟨z, rfl, rfl⟩, ⟨R1, hM, h5, h4⟩, hF⟩
  · exact ⟨0, _, _, rfl, Or.inr (Or.inl ⟨mp, key, hm, hk, rfl, rfl, ha, hg, hn, rfl, rfl, rfl⟩), ⟨R1, hM, h5, h4⟩, hF⟩
  · exact ⟨0, _, _, rfl, Or.inr (Or.inr ⟨mp, key, j, e, hm, hk, rfl, rfl, ha, hg, hh, rfl, rfl, rfl⟩), ⟨R1, hM, h5, h4⟩, hF⟩
theorem m_remove (l : Launch) (hB : so_B tbl s0 D vcl (tyl ca)) (M : MoM ca σ mo ar r0 s) (hi : invS c s) (x kx : Int32) : so_C l s0 D vcl y_Mo_remove b_Mo_remove 5 (some .int) 3 0 0 [.ref mo, .int x, .int kx] σ (fun v σ1 => ∃ r w1 t, v = some (.int w1) ∧ sRemove s x kx r w1 t ∧ MoM ca σ1 mo ar r t ∧ fM σ σ1) := by
  obtain ⟨R, h1, h2, h3⟩ := M
  refine so_C.mono (c_Mo_remove l hB h1 h2 hi.1.1 hi.1.2.2.1 x kx) (fun v σ1 hv => ?_)
  obtain ⟨R1, hv, hM, hF⟩ := hv
  rcases hv with ⟨z, rfl, h4, h5⟩ | ⟨mp, key, hm, hk, rfl, rfl, ha, hg, hn, rfl, h4, h5⟩ | ⟨mp, key, j, e, hm, hk, rfl, rfl, ha, hg, hh, rfl, h4, h5⟩
  · exact ⟨1, _, s, rfl, Or.inl ⟨z, rfl, rfl⟩, ⟨R1, hM, h5, h4⟩, hF⟩
  · exact ⟨0, _, _, rfl, Or.inr (Or.inl ⟨mp, key, hm, hk, rfl, rfl, ha, hg, hn, rfl, rfl, rfl⟩), ⟨R1, hM, h5, h4⟩, hF⟩
  · exact ⟨0, _, _, rfl, Or.inr (Or.inr ⟨mp, key, j, e, hm, hk, rfl, rfl, ha, hg, hh, rfl, rfl, rfl⟩), ⟨R1, hM, h5, h4⟩, hF⟩
theorem m_put (l : Launch) (hB : so_B tbl s0 D vcl (tyl ca)) (M : MoM ca σ mo ar r0 s) (hi : invS c s) (x kx vx : Int32) : so_C l s0 D vcl y_Mo_put b_Mo_put 6 (some .int) 5 0 0 [.ref mo, .int x, .int kx, .int vx] σ (fun v σ1 => ∃ r w1 t, v = some (.int w1) ∧ sPut s x kx vx r w1 t ∧ MoM ca σ1 mo ar r t ∧ fM σ σ1) := by
  obtain ⟨R, h1, h2, h3⟩ := M
  refine so_C.mono (c_Mo_put l hB h1 h2 hi.1.1 hi.1.2.2.1 hi.1.2.2.2.1.le (fun key hk hl => ⟨fun z => row_lt hi.1.1.2.1.1.1 hi.1.1.2.1.1.2 hk z, fun z => row_lt hi.1.1.2.1.2.1.1 hi.1.1.2.1.2.1.2 hk z, Nat.lt_of_le_of_lt hi.1.2.2.2.2.2.1 (by decide)⟩) x kx vx) (fun v σ1 hv => ?_)
  obtain ⟨R1, hv, hM, hF⟩ := hv
  rcases hv with ⟨z, rfl, h4, h5⟩ | ⟨key, hk, rfl, rfl, ha, hg, hn, h12, rfl, h4, h5⟩ | ⟨mp, key, val, q1, n1, hm, hk, hva, rfl, rfl, rfl, ha, ha', hg, hn, h12, had, rfl, h4, h5⟩ | ⟨mp, key, val, j, e, hm, hk, hva, rfl, rfl, rfl, ha, ha', hg, hh, rfl, h4, h5⟩
  · exact ⟨1, _, s, rfl, Or.inl ⟨z, rfl, rfl⟩, ⟨R1, hM, h5, h4⟩, hF⟩
  · exact ⟨2, _, s, rfl, Or.inr (Or.inl ⟨key, hk, rfl, rfl, hg, hn, h12, rfl, rfl⟩), ⟨R1, hM, h5, h4⟩, hF⟩
  · exact ⟨0, _, _, rfl, Or.inr (Or.inr (Or.inl ⟨mp, key, val, q1, n1, hm, hk, hva, rfl, rfl, rfl, ha, ha', hg, hn, h12, had, rfl, rfl, rfl⟩)), ⟨R1, hM, h5, h4⟩, hF⟩
  · exact ⟨0, _, _, rfl, Or.inr (Or.inr (Or.inr ⟨mp, key, val, j, e, hm, hk, hva, rfl, rfl, rfl, ha, ha', hg, hh, rfl, rfl, rfl⟩)), ⟨R1, hM, h5, h4⟩, hF⟩
theorem m_collect (l : Launch) (hB : so_B tbl s0 D vcl (tyl ca)) (M : MoM ca σ mo ar r0 s) (hi : invS c s) (hc : c < 900) (x : Int32) : so_C l s0 D vcl y_Mo_collect b_Mo_collect 4 (some .int) 4 0 0 [.ref mo, .int x] σ (fun v σ1 => ∃ r w1 t, v = some (.int w1) ∧ sCollect s x r w1 t ∧ MoM ca σ1 mo ar r t ∧ fM σ σ1) := by
  obtain ⟨R, h1, h2, h3⟩ := M
  refine so_C.mono (c_Mo_collect l hB h1 h2 hi.1.1 hi.1.2.1 (fun u hu => (hi.1.2.2.2.2.1.1 u hu).2) (Nat.lt_of_le_of_lt hi.2.1 (by omega)) hi.1.2.2.1 x) (fun v σ1 hv => ?_)
  obtain ⟨R1, hv, hM, hF⟩ := hv
  rcases hv with ⟨z, rfl, h4, h5⟩ | ⟨pr, hp, rfl, st, hst, rfl, h4, h5⟩
  · exact ⟨1, _, s, rfl, Or.inl ⟨z, rfl, rfl⟩, ⟨R1, hM, h5, h4⟩, hF⟩
  · exact ⟨0, _, _, rfl, Or.inr ⟨pr, hp, rfl, st, hst, rfl, rfl, rfl⟩, ⟨R1, hM, h5, h4⟩, hF⟩
theorem m_thrown (l : Launch) (hB : so_B tbl s0 D vcl (tyl ca)) (M : MoM ca σ mo ar r0 s) : so_D l s0 D vcl y_Mo_thrown b_Mo_thrown 1 (some .int) 0 [.ref mo] σ (fun v => v = some (.int (nI r0))) := by
  obtain ⟨R, h1, h2, h3⟩ := M
  rw [← h3]
  exact c_Mo_thrown l hB h1
theorem m_size (l : Launch) (hB : so_B tbl s0 D vcl (tyl ca)) (M : MoM ca σ mo ar r0 s) (x : Int32) : so_C l s0 D vcl y_Mo_size b_Mo_size 2 (some .int) 1 0 0 [.ref mo, .int x] σ (fun v σ1 => v = some (.int (if is_M x = true then nI (sz_M s.q x.toNatClampNeg) else -1)) ∧ MoM ca σ1 mo ar 0 s ∧ fM σ σ1) := by
  obtain ⟨R, h1, h2, h3⟩ := M
  refine so_C.mono (c_Mo_size l hB h1 x) (fun v σ1 hv => ?_)
  obtain ⟨R1, ⟨rfl, rfl⟩, hM, hF⟩ := hv
  refine ⟨?_, ⟨_, hM, h2.s0 0, rfl⟩, hF⟩
  by_cases h : is_M x = true
  · rw [if_pos h, if_pos h]
    obtain ⟨mp, hm, rfl⟩ := isM_c h
    rw [nI_clamp (show mp < 2 ^ 31 by omega)]
    rcases (show mp = 0 ∨ mp = 1 ∨ mp = 2 ∨ mp = 3 ∨ mp = 4 by omega) with rfl | rfl | rfl | rfl | rfl
    · rw [h2.2.1.1.1]; rfl
    · rw [h2.2.1.2.1.1.1]; rfl
    · rw [h2.2.1.2.2.1.2]; rfl
    · rw [h2.2.1.2.2.2.1.2]; rfl
    · rw [h2.2.1.2.2.2.2.1]; rfl
  · rw [if_neg h, if_neg h]
theorem m_value (l : Launch) (hB : so_B tbl s0 D vcl (tyl ca)) (M : MoM ca σ mo ar r0 s) (x : Int32) : so_C l s0 D vcl y_Mo_value b_Mo_value 2 (some .int) 1 0 0 [.ref mo, .int x] σ (fun v σ1 => v = some (.int (if al_O s.o x = true then nI (s.o.2.1 x.toNatClampNeg) else -1)) ∧ MoM ca σ1 mo ar 0 s ∧ fM σ σ1) := by
  obtain ⟨R, h1, h2, h3⟩ := M
  refine so_C.mono (c_Mo_value l hB h1 x) (fun v σ1 hv => ?_)
  obtain ⟨R1, ⟨rfl, rfl⟩, hM, hF⟩ := hv
  refine ⟨?_, ⟨_, hM, h2.s0 0, rfl⟩, hF⟩
  rw [is_al2 h2.1]
  by_cases h : al_O s.o x = true
  · rw [if_pos h, if_pos h]
    obtain ⟨j, hj, rfl, ha⟩ := al_cases h
    rw [nI_clamp (show j < 2 ^ 31 by omega), ((h2.1 j hj).2 ha).1]
  · rw [if_neg h, if_neg h]
theorem m_count (l : Launch) (hB : so_B tbl s0 D vcl (tyl ca)) (M : MoM ca σ mo ar r0 s) (x : Int32) : so_C l s0 D vcl y_Mo_count b_Mo_count 4 (some .int) 0 0 0 [.ref mo, .int x] σ (fun v σ1 => v = some (.int (co_O s.o s.n x)) ∧ MoM ca σ1 mo ar 0 s ∧ fM σ σ1) := by
  obtain ⟨R, h1, h2, h3⟩ := M
  refine so_C.mono (c_Mo_count l hB h1 h2 x) (fun v σ1 hv => ?_)
  obtain ⟨R1, ⟨rfl, h4, h5⟩, hM, hF⟩ := hv
  exact ⟨rfl, ⟨R1, hM, h5, h4⟩, hF⟩
end RS1

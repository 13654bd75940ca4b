/-! The class's methods as steps of the model. -/
theorem so_T.mono {l : Launch} {s0 : State} {D : va_G} {cl : List vw_C} {y : MethodName} {b : ByteArray} {n : Nat} {r : Option FieldType} {k mc ms : Nat} {av : List Value} {σ : so_S} {post post2 : Option Value → so_S → Prop} {thr thr2 : String → Prop} (h : so_T l s0 D cl y b n r k mc ms av σ post thr) (hp : ∀ v σ1, post v σ1 → post2 v σ1) (ht : ∀ C, thr C → thr2 C) : so_T l s0 D cl y b n r k mc ms av σ post2 thr2 := by
  intro p e ha hc hk s m args below hf happ hP hK
  obtain ⟨j, o, h1, h2, h3, ⟨⟨h4, h7⟩, h8⟩⟩ := h p e ha hc hk s m args below hf happ hP hK
  refine ⟨j, o, h1, h2, h3, ⟨⟨?_, h7⟩, h8⟩⟩
  rcases h4 with ⟨v, σ1, a, b, c⟩ | ⟨x, cell, C, a, b, c⟩
  · exact Or.inl ⟨v, σ1, a, hp _ _ b, c⟩
  · exact Or.inr ⟨x, cell, C, a, ht _ b, c⟩
theorem so_D.mono {l : Launch} {s0 : State} {D : va_G} {cl : List vw_C} {y : MethodName} {b : ByteArray} {n : Nat} {r : Option FieldType} {k : Nat} {av : List Value} {σ : so_S} {post post2 : Option Value → Prop} (h : so_D l s0 D cl y b n r k av σ post) (hp : ∀ v, post v → post2 v) : so_D l s0 D cl y b n r k av σ post2 := by
  intro p e ha hc hk s m args below hf happ hP hK
  obtain ⟨j, o, h1, h2, h3, ⟨⟨v, h4, h5, h6⟩, h8⟩⟩ := h p e ha hc hk s m args below hf happ hP hK
  exact ⟨j, o, h1, h2, h3, ⟨⟨v, h4, hp v h5, h6⟩, h8⟩⟩
/-- the class's object stands for the model's state s -/
def HmM (ca : Nat → ClassId) (DE : Nat) (σ : so_S) (hm : Nat) (B : Bx) (s : Mst) : Prop := ∃ X L sl, HMR ca DE σ hm B X s.k s.n.1 s.n.2.1 L sl ∧ simO X s.o ∧ X.cd = nI s.n.2.2 ∧ simM s.o s.q L sl
theorem tkT_M {n : Nms} {mp : Nat} (h : mp < 5) : tkT mp n.2.1 = (tk_M n mp).2.1 ∧ (tk_M n mp).1 = n.1 ∧ (tk_M n mp).2.2 = n.2.2 := by
  rcases (show mp = 0 ∨ mp = 1 ∨ mp = 2 ∨ mp = 3 ∨ mp = 4 by omega) with rfl | rfl | rfl | rfl | rfl <;> exact ⟨rfl, rfl, rfl⟩
theorem atI_n {L : List En} {x : Int32} (hL : L.length < 2 ^ 31) (h : atI L x = none) : x < 0 ∨ nI L.length ≤ x := by
  by_cases h0 : x < 0
  · exact Or.inl h0
  · obtain ⟨j, hj, rfl⟩ := nI_of h0
    rw [atI_o hL hj, List.getElem?_eq_none_iff] at h
    exact Or.inr (nI_le h hj)
theorem atI_s {L : List En} {x : Int32} {en : En} (hL : L.length < 2 ^ 31) (h : atI L x = some en) : ∃ j, j < L.length ∧ x = nI j ∧ L[j]? = some en := by
  by_cases h0 : x < 0
  · rw [atI_neg h0] at h; cases h
  · obtain ⟨j, hj, rfl⟩ := nI_of h0
    rw [atI_o hL hj] at h
    exact ⟨j, (List.getElem?_eq_some_iff.mp h).1, rfl, h⟩
section CS1
variable {s0 : State} {D : va_G} {ca : Nat → ClassId} {σ : so_S} {DE hm mi c : Nat} {B : Bx} {s : Mst}
theorem t_make (l : Launch) (hB : so_B tbl s0 D vcl (tyl ca)) (hX : exX l s0) (M : HmM ca DE σ hm B s) (hi : invS c s) (x : Int32) : so_T l s0 D vcl y_HM_make b_HM_make 3 (some .int) 9 2 6 [.ref hm, .int x] σ (fun v σ1 => ∃ w t, v = some (.int w) ∧ sMake s x 0 w t ∧ HmM ca DE σ1 hm B t ∧ fT tC σ σ1) (fun C => (C = xA ∧ sMake s x 1 0 s) ∨ (C = xS ∧ sMake s x 2 0 s)) := by
  obtain ⟨X, L, sl, h1, h2, h3, h4⟩ := M
  refine (c_HM_make l hB hX h1 h2 x).mono (fun v σ1 hv => ?_) (fun C hC => ?_)
  · obtain ⟨⟨va, i, X1, hva, rfl, hf, rfl, hH, hcd, ho⟩, hF⟩ := hv
    exact ⟨_, _, rfl, Or.inr (Or.inr ⟨va, i, hva, rfl, hf, rfl, rfl, rfl⟩), ⟨X1, L, sl, hH, ho, hcd.trans h3, sim_make hi.1 h4 hf.2.1⟩, hF⟩
  · rcases hC with ⟨rfl, z⟩ | ⟨rfl, z1, z2, z3⟩
    · exact Or.inl ⟨rfl, Or.inl ⟨z, rfl, rfl⟩⟩
    · exact Or.inr ⟨rfl, Or.inr (Or.inl ⟨z1, z2, z3, rfl, rfl⟩)⟩
theorem t_refer (l : Launch) (hB : so_B tbl s0 D vcl (tyl ca)) (hX : exX l s0) (M : HmM ca DE σ hm B s) (x w y : Int32) : so_T l s0 D vcl y_HM_refer b_HM_refer 6 (some .int) 9 1 6 [.ref hm, .int x, .int w, .int y] σ (fun v σ1 => ∃ z t, v = some (.int z) ∧ sRefer s x w y 0 z t ∧ HmM ca DE σ1 hm B t ∧ fT tC σ σ1) (fun C => C = xA ∧ sRefer s x w y 1 0 s) := by
  obtain ⟨X, L, sl, h1, h2, h3, h4⟩ := M
  refine (c_HM_refer l hB hX h1 h2 x w y).mono (fun v σ1 hv => ?_) (fun C hC => ?_)
  · obtain ⟨⟨j, wh, X1, hj, hw, hok, rfl, rfl, rfl, hH, hcd, ho⟩, hF⟩ := hv
    exact ⟨_, _, rfl, Or.inr ⟨j, wh, hj, hw, hok, rfl, rfl, rfl, rfl, rfl⟩, ⟨X1, L, sl, hH, ho, hcd.trans h3, h4⟩, hF⟩
  · exact ⟨hC.1, Or.inl ⟨hC.2, rfl, rfl⟩⟩
theorem t_root (l : Launch) (hB : so_B tbl s0 D vcl (tyl ca)) (hX : exX l s0) (M : HmM ca DE σ hm B s) (x : Int32) (b : Bool) : so_T l s0 D vcl y_HM_root b_HM_root 5 (some .boolean) 9 1 6 [.ref hm, .int x, .int (bI b)] σ (fun v σ1 => ∃ b1 t, v = some (.int (bI b1)) ∧ sRoot s x b 0 (bI b1) t ∧ HmM ca DE σ1 hm B t ∧ fT tC σ σ1) (fun C => C = xA ∧ sRoot s x b 1 0 s) := by
  obtain ⟨X, L, sl, h1, h2, h3, h4⟩ := M
  refine (c_HM_root l hB hX h1 h2 x b).mono (fun v σ1 hv => ?_) (fun C hC => ?_)
  · obtain ⟨⟨j, X1, hj, rfl, ha, rfl, hH, hcd, ho⟩, hF⟩ := hv
    exact ⟨_, _, rfl, Or.inr ⟨j, hj, rfl, ha, rfl, rfl, rfl⟩, ⟨X1, L, sl, hH, ho, hcd.trans h3, h4⟩, hF⟩
  · exact ⟨hC.1, Or.inl ⟨hC.2, rfl, rfl⟩⟩
theorem t_walk (l : Launch) (hB : so_B tbl s0 D vcl (tyl ca)) (hX : exX l s0) (M : HmM ca DE σ hm B s) (x : Int32) : so_T l s0 D vcl y_HM_walk b_HM_walk 3 none 9 1 6 [.ref hm, .int x] σ (fun v σ1 => v = none ∧ ∃ t, sWalk s x 0 0 t ∧ HmM ca DE σ1 hm B t ∧ fT tC σ σ1) (fun C => C = xA ∧ sWalk s x 1 0 s) := by
  obtain ⟨X, L, sl, h1, h2, h3, h4⟩ := M
  refine (c_HM_walk l hB hX h1 h2 x).mono (fun v σ1 hv => ?_) (fun C hC => ?_)
  · obtain ⟨rfl, ⟨mp, hm, rfl, hH⟩, hF⟩ := hv
    exact ⟨rfl, _, Or.inr ⟨mp, hm, rfl, rfl, rfl, rfl⟩, ⟨X, L, sl, hH, h2, h3, h4⟩, hF⟩
  · exact ⟨hC.1, Or.inl ⟨hC.2, rfl, rfl⟩⟩
theorem t_step (l : Launch) (hB : so_B tbl s0 D vcl (tyl ca)) (hX : exX l s0) (M : HmM ca DE σ hm B s) (hi : invS c s) (hc : c < 900) (x : Int32) : so_T l s0 D vcl y_HM_step b_HM_step 4 (some .int) 9 1 6 [.ref hm, .int x] σ (fun v σ1 => ∃ w t, v = some (.int w) ∧ sStep s x 0 w t ∧ HmM ca DE σ1 hm B t ∧ fT tC σ σ1) (fun C => (C = xA ∧ sStep s x 1 0 s) ∨ (C = xS ∧ sStep s x 2 0 s) ∨ (C = xN ∧ sStep s x 3 0 s)) := by
  obtain ⟨X, L, sl, h1, h2, h3, h4⟩ := M
  refine (c_HM_step l hB hX h1 h2 (sim_ln hi.1 h4) (fun mp x hm hx => Nat.lt_of_lt_of_le (sim_bd hi.1 h4 mp x hm hx).1 (by decide)) (fun i hi2 => Nat.lt_of_le_of_lt (hi.2.2 i hi2) (by omega)) x).mono (fun v σ1 hv => ?_) (fun C hC => ?_)
  · obtain ⟨⟨mp, en, hm, rfl, a, b, hen, rfl, hH⟩, hF⟩ := hv
    have hlt : s.k.2.2 mp < sz_M s.q mp := by rw [sim_sz h4 hm]; exact (List.getElem?_eq_some_iff.mp hen).1
    exact ⟨_, _, rfl, Or.inr (Or.inr (Or.inr ⟨mp, kv en, hm, rfl, a, b, hlt, sim_en h4 hm hen, rfl, rfl, rfl⟩)), ⟨X, L, sl, hH, h2, h3, h4⟩, hF⟩
  · rcases hC with ⟨rfl, z⟩ | ⟨rfl, mp, hm, rfl, a, b⟩ | ⟨rfl, mp, hm, rfl, a, b, hen⟩
    · exact Or.inl ⟨rfl, Or.inl ⟨z, rfl, rfl⟩⟩
    · exact Or.inr (Or.inl ⟨rfl, Or.inr (Or.inl ⟨mp, hm, rfl, a, b, rfl, rfl⟩)⟩)
    · exact Or.inr (Or.inr ⟨rfl, Or.inr (Or.inr (Or.inl ⟨mp, hm, rfl, a, b, by rw [sim_sz h4 hm]; exact List.getElem?_eq_none_iff.mp hen, rfl, rfl⟩))⟩)
theorem t_entry (l : Launch) (hB : so_B tbl s0 D vcl (tyl ca)) (hX : exX l s0) (M : HmM ca DE σ hm B s) (hi : invS c s) (x kx wx : Int32) : so_T l s0 D vcl y_HM_entry b_HM_entry 5 (some .int) 9 1 6 [.ref hm, .int x, .int kx, .int wx] σ (fun v σ1 => ∃ w t, v = some (.int w) ∧ sEntry s x kx wx 0 w t ∧ HmM ca DE σ1 hm B t ∧ fT tC σ σ1) (fun C => C = xN ∧ sEntry s x kx wx 1 0 s) := by
  obtain ⟨X, L, sl, h1, h2, h3, h4⟩ := M
  have hln : ∀ mp, (lsE L sl mp).length < 2 ^ 31 := fun mp => Nat.lt_of_le_of_lt (lsE_len (sim_ln hi.1 h4) mp) (by decide)
  refine (c_HM_entry l hB hX h1 h2 (sim_ln hi.1 h4) (fun mp x hm hx => ⟨Nat.lt_of_lt_of_le (sim_bd hi.1 h4 mp x hm hx).1 (by decide), Nat.lt_of_lt_of_le (sim_bd hi.1 h4 mp x hm hx).2 (by decide)⟩) x kx wx).mono (fun v σ1 hv => ?_) (fun C hC => ?_)
  · obtain ⟨⟨mp, en, hm, rfl, hat, hw⟩, rfl⟩ := hv
    obtain ⟨j, hj, rfl, hen⟩ := atI_s (hln mp) hat
    have hj2 : j < 2 ^ 31 := Nat.lt_trans hj (hln mp)
    have heo : (¬ wx < 0 ∧ ¬ 1 < wx) → eo_O s.q (nI mp) (nI j) wx = true := fun z => by
      unfold eo_O
      rw [isM_n hm, nI_clamp (show mp < 2 ^ 31 by omega), decide_eq_true (nI_pos hj2), decide_eq_true (show ¬ nI (sz_M s.q mp) ≤ nI j by rw [sim_sz h4 hm]; exact nI_ge hj (hln mp)), decide_eq_true z.1, decide_eq_true z.2]
      rfl
    rcases hw with ⟨rfl, rfl⟩ | ⟨rfl, rfl⟩
    · exact ⟨_, s, rfl, ⟨rfl, Or.inr ⟨mp, j, kv en, hm, rfl, hj2, rfl, heo (by decide), sim_en h4 hm hen, Or.inl ⟨rfl, rfl⟩, rfl⟩⟩, ⟨X, L, sl, h1, h2, h3, h4⟩, fT.rf⟩
    · exact ⟨_, s, rfl, ⟨rfl, Or.inr ⟨mp, j, kv en, hm, rfl, hj2, rfl, heo (by decide), sim_en h4 hm hen, Or.inr ⟨rfl, rfl⟩, rfl⟩⟩, ⟨X, L, sl, h1, h2, h3, h4⟩, fT.rf⟩
  · refine ⟨hC.1, rfl, Or.inl ⟨?_, rfl⟩⟩
    unfold eo_O
    rcases hC.2 with z | z | z | ⟨mp, hm, rfl, z⟩
    · rw [z]; rfl
    · rw [decide_eq_false (p := ¬ wx < 0) (fun q => q z), Bool.false_and, Bool.and_false, Bool.and_false, Bool.and_false]
    · rw [decide_eq_false (p := ¬ 1 < wx) (fun q => q z), Bool.and_false, Bool.and_false, Bool.and_false, Bool.and_false]
    · rcases atI_n (hln mp) z with z | z
      · rw [decide_eq_false (fun q => q z), Bool.false_and, Bool.and_false]
      · rw [nI_clamp (show mp < 2 ^ 31 by omega), decide_eq_false (p := ¬ nI (sz_M s.q mp) ≤ kx) (fun q => q (by rw [sim_sz h4 hm]; exact z)), Bool.false_and, Bool.and_false, Bool.and_false]
theorem t_get (l : Launch) (hB : so_B tbl s0 D vcl (tyl ca)) (hX : exX l s0) (J : jX s0 D ca DE mi) (M : HmM ca DE σ hm B s) (hi : invS c s) (x kx : Int32) : so_T l s0 D vcl y_HM_get b_HM_get 6 (some .int) 9 1 64 [.ref hm, .int x, .int kx] σ (fun v σ1 => ∃ w t, v = some (.int w) ∧ sGet s x kx 0 w t ∧ HmM ca DE σ1 hm B t ∧ fT tC σ σ1) (fun C => C = xA ∧ sGet s x kx 1 0 s) := by
  obtain ⟨X, L, sl, h1, h2, h3, h4⟩ := M
  refine (c_HM_get l hB hX h1 h2 hi.1.1.1 (sim_ln hi.1 h4) J (sim_un hi.1 h4 1 (by decide) (by decide)) x kx).mono (fun v σ1 hv => ?_) (fun C hC => ⟨hC.1, Or.inl ⟨hC.2, rfl, rfl⟩⟩)
  obtain ⟨⟨mp, key, hm, hk, rfl, rfl, ha, hg, hv⟩, hF⟩ := hv
  obtain ⟨e1, e2, e3⟩ := tkT_M (n := s.n) hm
  rcases hv with ⟨hn, rfl, hH⟩ | ⟨j, en, hf, hen, rfl, hH⟩
  · refine ⟨_, _, rfl, Or.inr (Or.inl ⟨mp, key, hm, hk, rfl, rfl, ha, hg, fi_none h4 hm hn, rfl, rfl, rfl⟩), ⟨X, L, sl, ?_, h2, ?_, h4⟩, hF⟩
    · show HMR ca DE σ1 _ B X s.k (tk_M s.n mp).1 (tk_M s.n mp).2.1 L sl
      rw [e2, ← e1]; exact hH
    · show X.cd = nI (tk_M s.n mp).2.2
      rw [e3]; exact h3
  · obtain ⟨en', hen', hmk⟩ := fiM_get hf
    cases hen.symm.trans hen'
    obtain ⟨jj, hh, hix⟩ := fi_some h4 hm hen hmk
    obtain ⟨s1, s2⟩ := sim_use (k := s.k) (tm := (tk_M s.n mp).2.1) h4 hm hen hix
    refine ⟨_, _, rfl, Or.inr (Or.inr ⟨mp, key, jj, kv en, hm, hk, rfl, rfl, ha, hg, hh, rfl, rfl, rfl⟩), ⟨X, _, sl, ?_, h2, ?_, s1⟩, hF⟩
    · show HMR ca DE σ1 _ B X (uw_M s.q s.k mp jj) (tk_M s.n mp).1 (tk_M s.n mp).2.1 _ sl
      rw [e2, ← e1, s2]; exact hH
    · show X.cd = nI (tk_M s.n mp).2.2
      rw [e3]; exact h3
theorem t_remove (l : Launch) (hB : so_B tbl s0 D vcl (tyl ca)) (hX : exX l s0) (M : HmM ca DE σ hm B s) (hi : invS c s) (x kx : Int32) : so_T l s0 D vcl y_HM_remove b_HM_remove 6 (some .int) 9 1 6 [.ref hm, .int x, .int kx] σ (fun v σ1 => ∃ w t, v = some (.int w) ∧ sRemove s x kx 0 w t ∧ HmM ca DE σ1 hm B t ∧ fT tC σ σ1) (fun C => C = xA ∧ sRemove s x kx 1 0 s) := by
  obtain ⟨X, L, sl, h1, h2, h3, h4⟩ := M
  refine (c_HM_remove l hB hX h1 h2 hi.1.1.1 (sim_ln hi.1 h4) (sim_k2 hi.1 h4) x kx).mono (fun v σ1 hv => ?_) (fun C hC => ⟨hC.1, Or.inl ⟨hC.2, rfl, rfl⟩⟩)
  obtain ⟨⟨mp, key, hm, hk, rfl, rfl, ha, hg, hv⟩, hF⟩ := hv
  rcases hv with ⟨hn, rfl, hH⟩ | ⟨j, en, L', sl', hf, hen, rfl, hdr, hH⟩
  · exact ⟨_, _, rfl, Or.inr (Or.inl ⟨mp, key, hm, hk, rfl, rfl, ha, hg, fi_none h4 hm hn, rfl, rfl, rfl⟩), ⟨X, L, sl, hH, h2, h3, h4⟩, hF⟩
  · obtain ⟨en', hen', hmk⟩ := fiM_get hf
    cases hen.symm.trans hen'
    obtain ⟨jj, hh, hix⟩ := fi_some h4 hm hen hmk
    exact ⟨_, _, rfl, Or.inr (Or.inr ⟨mp, key, jj, kv en, hm, hk, rfl, rfl, ha, hg, hh, rfl, rfl, rfl⟩), ⟨X, L', sl', hH, h2, h3, sim_drop h4 hm hen hix hdr⟩, hF⟩
theorem st_get {L : Nat → List En} {sl sl' : Nat → Option En} {mp j jj : Nat} {en en2 : En} (hm : mp < 5) (hen : (lsE L sl mp)[j]? = some en) (hix : ixJ sl' j en2 jj mp) : (lsE (stL j en2 L mp) sl' mp)[j]? = some en2 := by
  have row : ∀ {i : Nat}, (L i)[j]? = some en → (va_up L i ((L i).set j en2) i)[j]? = some en2 := fun h => by
    rw [va_up_self, List.getElem?_set_self (List.getElem?_eq_some_iff.mp h).1]
  rcases (show mp = 0 ∨ mp = 1 ∨ mp = 2 ∨ mp = 3 ∨ mp = 4 by omega) with rfl | rfl | rfl | rfl | rfl
  · exact row hen
  · exact row hen
  · obtain ⟨h1, h2, h3⟩ := hix
    have h4 := idN_at h2 h1
    rw [h3] at h4
    exact h4
  · exact row hen
  · exact row hen
theorem t_put (l : Launch) (hB : so_B tbl s0 D vcl (tyl ca)) (hX : exX l s0) (J : jX s0 D ca DE mi) (M : HmM ca DE σ hm B s) (hi : invS c s) (x kx vx : Int32) : so_T l s0 D vcl y_HM_put b_HM_put 10 (some .int) 9 82 5188 [.ref hm, .int x, .int kx, .int vx] σ (fun v σ1 => ∃ w t, v = some (.int w) ∧ sPut s x kx vx 0 w t ∧ HmM ca DE σ1 hm B t ∧ fT tC σ σ1) (fun C => (C = xA ∧ sPut s x kx vx 1 0 s) ∨ (C = xS ∧ sPut s x kx vx 2 0 s)) := by
  obtain ⟨X, L, sl, h1, h2, h3, h4⟩ := M
  refine (c_HM_put l hB hX h1 h2 hi.1.1.1 (sim_ln hi.1 h4) J (Nat.lt_of_le_of_lt hi.1.2.2.2.1.le (by decide)) (sim_un hi.1 h4) (sim_ui hi.1 h4) (sim_k3 h4) x kx vx).mono (fun v σ1 hv => ?_) (fun C hC => ?_)
  · obtain ⟨⟨mp, key, val, hm, hk, hva, rfl, rfl, rfl, ha, ha', hg, hv⟩, hF⟩ := hv
    obtain ⟨e1, e2, e3⟩ := tkT_M (n := s.n) hm
    have ecn : cn s.q.2.2.1 16 = cn sl 16 := by rw [← h4.2.2.1.1, cn_slP]
    rcases hv with ⟨hn, h12, rfl, a, L', sl', bk', had, hH⟩ | ⟨j, en, sl', hf, hen, rfl, hs1, hs2, hH⟩
    · have had' : adE (tk_M s.n mp).1 (tk_M s.n mp).2.1 L sl (a, kyN mp key (s.o.2.1 key), mkN mp key (s.o.2.1 key), val, 0) L' sl' bk' mp := by rw [e2, ← e1]; exact had
      obtain ⟨q1, hq1, hq2⟩ := sim_add h4 hm (fi_none h4 hm hn) (by
        rintro rfl
        unfold po_O at hg
        rw [Bool.and_eq_true] at hg
        exact gk_8 hk hg.1) had'
      refine ⟨_, _, rfl, Or.inr (Or.inr (Or.inl ⟨mp, key, val, q1, _, hm, hk, hva, rfl, rfl, rfl, ha, ha', hg, fi_none h4 hm hn, fun z => by rw [ecn]; exact h12 z, hq1, rfl, rfl, rfl⟩)), ⟨X, L', sl', ?_, h2, ?_, hq2⟩, hF⟩
      · show HMR ca DE σ1 _ B X (wkB s.k mp) bk' (tk_M s.n mp).2.1 L' sl'
        rw [← e1]; exact hH
      · show X.cd = nI (tk_M s.n mp).2.2
        rw [e3]; exact h3
    · obtain ⟨en', hen', hmk⟩ := fiM_get hf
      cases hen.symm.trans hen'
      obtain ⟨jj, hh, hix⟩ := fi_some h4 hm hen hmk
      obtain ⟨g1, g2⟩ := sim_set (val := val) h4 hm hen hix hs1 hs2
      obtain ⟨s1, s2⟩ := sim_use (k := s.k) (tm := (tk_M s.n mp).2.1) g1 hm (st_get hm hen g2) g2
      refine ⟨_, _, rfl, Or.inr (Or.inr (Or.inr ⟨mp, key, val, jj, kv en, hm, hk, hva, rfl, rfl, rfl, ha, ha', hg, hh, rfl, rfl, rfl⟩)), ⟨X, _, sl', ?_, h2, ?_, s1⟩, hF⟩
      · show HMR ca DE σ1 _ B X (uw_M (st_M s.q mp jj (en.2.1, val)) s.k mp jj) (tk_M s.n mp).1 (tk_M s.n mp).2.1 _ sl'
        rw [e2, ← e1, s2]; exact hH
      · show X.cd = nI (tk_M s.n mp).2.2
        rw [e3]; exact h3
  · rcases hC with ⟨rfl, z⟩ | ⟨rfl, key, hk, rfl, rfl, ha, hg, hn, h12⟩
    · exact Or.inl ⟨rfl, Or.inl ⟨z, rfl, rfl⟩⟩
    · refine Or.inr ⟨rfl, Or.inr (Or.inl ⟨key, hk, rfl, rfl, hg, fi_none h4 (by decide) hn, ?_, rfl, rfl⟩)⟩
      have e1 : cn s.q.2.2.1 16 = cn sl 16 := by rw [← h4.2.2.1.1, cn_slP]
      have e2 := hi.1.2.2.1
      omega
theorem t_collect (l : Launch) (hB : so_B tbl s0 D vcl (tyl ca)) (hX : exX l s0) (M : HmM ca DE σ hm B s) (hi : invS c s) (hc : c < 900) (x : Int32) : so_T l s0 D vcl y_HM_collect b_HM_collect 2 (some .int) 9 1 6 [.ref hm, .int x] σ (fun v σ1 => ∃ w t, v = some (.int w) ∧ sCollect s x 0 w t ∧ HmM ca DE σ1 hm B t ∧ fT tC σ σ1) (fun C => C = xA ∧ sCollect s x 1 0 s) := by
  obtain ⟨X, L, sl, h1, h2, h3, h4⟩ := M
  have hus : ∀ z ∈ L 1, 1 ≤ us z ∧ us z ≤ s.n.2.1 := fun z hz => hi.1.2.2.2.2.1.1 _ (by rw [← h4.2.1.2.1]; exact List.mem_map_of_mem hz)
  refine (c_HM_collect l hB hX h1 h2 hi.1.2.1 (sim_ln hi.1 h4) (fun mp x hm hx => ⟨Nat.lt_of_lt_of_le (sim_bd hi.1 h4 mp x hm hx).1 (by decide), Nat.lt_of_lt_of_le (sim_bd hi.1 h4 mp x hm hx).2 (by decide)⟩) (fun z hz => (hus z hz).2) (Nat.lt_of_le_of_lt hi.2.1 (by omega)) (fun z hz => (hi.1.1.2.1.2.1.1 (kv z) (by rw [← h4.2.1.1]; exact List.mem_map_of_mem hz)).2) (fun z hz => (hi.1.1.2.1.1.1 (kv z) (by rw [← h4.1.1]; exact List.mem_map_of_mem hz)).1) (sim_rt hi.1 h4) x).mono (fun v σ1 hv => ?_) (fun C hC => ⟨hC.1, Or.inl ⟨hC.2, rfl, rfl⟩⟩)
  obtain ⟨⟨pr, L1, st, X5, hp, rfl, hst, rfl, hH, hk1, hk2, hk3, hk4, hO, hcd, -⟩, hF⟩ := hv
  have e1 : st = scM s.o s.q s.n s.k pr := by
    rw [hst]
    unfold scM
    rw [← h4.2.1.1, ← h4.2.1.2.1, List.length_map]
    exact (sf_01 (fun u hu => by
      obtain ⟨z, hz, rfl⟩ := List.mem_map.mp hu
      exact (hus z hz).1)).symm
  have e2 : (L 0).any (fun x => !st.2.2.1 x.2.1) = s.q.1.any (fun e => !st.2.2.1 e.1) := by rw [← h4.1.1, List.any_map]; rfl
  rw [e2] at hH
  refine ⟨_, _, rfl, Or.inr ⟨pr, hp, rfl, st, e1, rfl, rfl, rfl⟩, ⟨X5, va_up (va_up L 1 L1) 0 ((L 0).filter (fun x => st.2.2.1 x.2.1)), sl, hH, hO, ?_, ?_⟩, hF⟩
  · exact hcd.trans (by rw [h3, nI_add])
  · refine ⟨⟨?_, ?_⟩, ⟨?_, ?_, ?_⟩, h4.2.2.1, h4.2.2.2.1, h4.2.2.2.2.1, ?_⟩
    · show (va_up (va_up L 1 L1) 0 _ 0).map kv = s.q.1.filter _
      rw [va_up_self, ← h4.1.1, List.filter_map]; rfl
    · show mkR s.o (va_up (va_up L 1 L1) 0 _ 0)
      rw [va_up_self]
      exact fun z hz => h4.1.2 z (List.mem_filter.mp hz).1
    · exact hk1
    · exact hk2
    · exact fun z hz => h4.2.1.2.2 z (hk3 z hz)
    · intro i i0 i1 i3 i4
      show va_up (va_up L 1 L1) 0 _ i = []
      unfold va_up
      rw [if_neg i0, if_neg i1]
      exact h4.2.2.2.2.2 i i0 i1 i3 i4
theorem t_size (l : Launch) (hB : so_B tbl s0 D vcl (tyl ca)) (M : HmM ca DE σ hm B s) (x : Int32) : so_D l s0 D vcl y_HM_size b_HM_size 2 (some .int) 5 [.ref hm, .int x] σ (fun v => v = some (.int (if is_M x = true then nI (sz_M s.q x.toNatClampNeg) else -1))) := by
  obtain ⟨X, L, sl, h1, h2, h3, h4⟩ := M
  refine (c_HM_size l hB h1 h2 x).mono (fun v hv => ?_)
  rw [hv]
  by_cases h : is_M x = true
  · rw [if_pos h, if_pos h]
    obtain ⟨mp, hm, rfl⟩ := isM_c h
    rw [nI_clamp (show mp < 2 ^ 31 by omega), sim_sz h4 hm]
  · rw [if_neg h, if_neg h]
theorem t_value (l : Launch) (hB : so_B tbl s0 D vcl (tyl ca)) (M : HmM ca DE σ hm B s) (x : Int32) : so_D l s0 D vcl y_HM_value b_HM_value 2 (some .int) 5 [.ref hm, .int x] σ (fun v => v = some (.int (if al_O s.o x = true then nI (s.o.2.1 x.toNatClampNeg) else -1))) := by
  obtain ⟨X, L, sl, h1, h2, h3, h4⟩ := M
  exact c_HM_value l hB h1 h2 x
theorem t_count (l : Launch) (hB : so_B tbl s0 D vcl (tyl ca)) (M : HmM ca DE σ hm B s) (x : Int32) : so_D l s0 D vcl y_HM_count b_HM_count 2 (some .int) 5 [.ref hm, .int x] σ (fun v => v = some (.int (co_O s.o s.n x))) := by
  obtain ⟨X, L, sl, h1, h2, h3, h4⟩ := M
  exact c_HM_count l hB h1 h2 x h3
end CS1

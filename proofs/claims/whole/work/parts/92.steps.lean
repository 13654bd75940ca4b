/-! One call as a step of the model: the code of its refusal, its answer, the state behind it. -/
abbrev Mst : Type := Obs × Mps × Nms × Wks
abbrev Mst.o (s : Mst) : Obs := s.1
abbrev Mst.q (s : Mst) : Mps := s.2.1
abbrev Mst.n (s : Mst) : Nms := s.2.2.1
abbrev Mst.k (s : Mst) : Wks := s.2.2.2
def sMake (s : Mst) (x : Int32) (r : Nat) (v : Int32) (t : Mst) : Prop := ((x < 0 ∨ 99 < x) ∧ r = 1 ∧ t = s) ∨ (¬ x < 0 ∧ ¬ 99 < x ∧ (∀ j, j < 32 → s.o.1 j = true) ∧ r = 2 ∧ t = s) ∨ (∃ va i, va < 100 ∧ x = nI va ∧ isFr s.o.1 i ∧ r = 0 ∧ v = nI i ∧ t = ((va_up s.o.1 i true, va_up s.o.2.1 i va, va_up s.o.2.2.1 i false, va_up s.o.2.2.2 i (fun _ => none)), s.2))
def sRefer (s : Mst) (x w y : Int32) (r : Nat) (v : Int32) (t : Mst) : Prop := (rf_ok s.o x w y = false ∧ r = 1 ∧ t = s) ∨ (∃ j wh, j < 32 ∧ wh < 2 ∧ rf_ok s.o x w y = true ∧ x = nI j ∧ w = nI wh ∧ r = 0 ∧ v = rI (s.o.2.2.2 j wh) ∧ t = ((s.o.1, s.o.2.1, s.o.2.2.1, va_up s.o.2.2.2 j (va_up (s.o.2.2.2 j) wh (tI y))), s.2))
def sRoot (s : Mst) (x : Int32) (b : Bool) (r : Nat) (v : Int32) (t : Mst) : Prop := (al_O s.o x = false ∧ r = 1 ∧ t = s) ∨ (∃ j, j < 32 ∧ x = nI j ∧ s.o.1 j = true ∧ r = 0 ∧ v = bI (s.o.2.2.1 j) ∧ t = ((s.o.1, s.o.2.1, va_up s.o.2.2.1 j b, s.o.2.2.2), s.2))
def sPut (s : Mst) (x kx vx : Int32) (r : Nat) (v : Int32) (t : Mst) : Prop :=
  (po_O s.o x kx vx = false ∧ r = 1 ∧ t = s) ∨ (∃ key, key < 32 ∧ x = nI 2 ∧ kx = nI key ∧ po_O s.o x kx vx = true ∧ (∀ j e, ¬ hit s.o s.q 2 key j e) ∧ cn s.q.2.2.1 16 = 12 ∧ r = 2 ∧ t = s) ∨
  (∃ mp key val q1 n1, mp < 5 ∧ key < 32 ∧ val < 32 ∧ x = nI mp ∧ kx = nI key ∧ vx = nI val ∧ s.o.1 key = true ∧ s.o.1 val = true ∧ po_O s.o x kx vx = true ∧ (∀ j e, ¬ hit s.o s.q mp key j e) ∧ (mp = 2 → cn s.q.2.2.1 16 < 12) ∧ adR s.o s.q (tk_M s.n mp) mp key val q1 n1 ∧ r = 0 ∧ v = -1 ∧ t = (s.o, q1, n1, (s.k.1, va_up s.k.2.1 mp true, s.k.2.2))) ∨
  (∃ mp key val j e, mp < 5 ∧ key < 32 ∧ val < 32 ∧ x = nI mp ∧ kx = nI key ∧ vx = nI val ∧ s.o.1 key = true ∧ s.o.1 val = true ∧ po_O s.o x kx vx = true ∧ hit s.o s.q mp key j e ∧ r = 0 ∧ v = nI e.2 ∧ t = (s.o, us_M (st_M s.q mp j (e.1, val)) (tk_M s.n mp).2.1 mp j (e.1, val), tk_M s.n mp, uw_M (st_M s.q mp j (e.1, val)) s.k mp j))
def sGet (s : Mst) (x kx : Int32) (r : Nat) (v : Int32) (t : Mst) : Prop := (gk_O s.o x kx = false ∧ r = 1 ∧ t = s) ∨ (∃ mp key, mp < 5 ∧ key < 32 ∧ x = nI mp ∧ kx = nI key ∧ s.o.1 key = true ∧ gk_O s.o x kx = true ∧ (∀ j e, ¬ hit s.o s.q mp key j e) ∧ r = 0 ∧ v = -1 ∧ t = (s.o, s.q, tk_M s.n mp, s.k)) ∨ (∃ mp key j e, mp < 5 ∧ key < 32 ∧ x = nI mp ∧ kx = nI key ∧ s.o.1 key = true ∧ gk_O s.o x kx = true ∧ hit s.o s.q mp key j e ∧ r = 0 ∧ v = nI e.2 ∧ t = (s.o, us_M s.q (tk_M s.n mp).2.1 mp j e, tk_M s.n mp, uw_M s.q s.k mp j))
def sRemove (s : Mst) (x kx : Int32) (r : Nat) (v : Int32) (t : Mst) : Prop := (gk_O s.o x kx = false ∧ r = 1 ∧ t = s) ∨ (∃ mp key, mp < 5 ∧ key < 32 ∧ x = nI mp ∧ kx = nI key ∧ s.o.1 key = true ∧ gk_O s.o x kx = true ∧ (∀ j e, ¬ hit s.o s.q mp key j e) ∧ r = 0 ∧ v = -1 ∧ t = s) ∨ (∃ mp key j e, mp < 5 ∧ key < 32 ∧ x = nI mp ∧ kx = nI key ∧ s.o.1 key = true ∧ gk_O s.o x kx = true ∧ hit s.o s.q mp key j e ∧ r = 0 ∧ v = nI e.2 ∧ t = (s.o, dr_M s.q mp j, s.n, (s.k.1, va_up s.k.2.1 mp true, s.k.2.2)))
def sEntry (s : Mst) (x kx wx : Int32) (r : Nat) (v : Int32) (t : Mst) : Prop := t = s ∧ ((eo_O s.q x kx wx = false ∧ r = 1) ∨ (∃ mp kk e, mp < 5 ∧ x = nI mp ∧ kk < 2 ^ 31 ∧ kx = nI kk ∧ eo_O s.q x kx wx = true ∧ en_M s.q mp kk e ∧ ((wx = 0 ∧ v = nI e.1) ∨ (wx = 1 ∧ v = nI e.2)) ∧ r = 0))
def sWalk (s : Mst) (x : Int32) (r : Nat) (v : Int32) (t : Mst) : Prop := (is_M x = false ∧ r = 1 ∧ t = s) ∨ (∃ j, j < 5 ∧ x = nI j ∧ r = 0 ∧ v = 0 ∧ t = (s.o, s.q, s.n, (va_up s.k.1 j true, va_up s.k.2.1 j false, va_up s.k.2.2 j 0)))
def sStep (s : Mst) (x : Int32) (r : Nat) (v : Int32) (t : Mst) : Prop := ((is_M x = false ∨ ∃ mp, mp < 5 ∧ x = nI mp ∧ s.k.1 mp = false) ∧ r = 1 ∧ t = s) ∨ (∃ mp, mp < 5 ∧ x = nI mp ∧ s.k.1 mp = true ∧ s.k.2.1 mp = true ∧ r = 2 ∧ t = s) ∨ (∃ mp, mp < 5 ∧ x = nI mp ∧ s.k.1 mp = true ∧ s.k.2.1 mp = false ∧ sz_M s.q mp ≤ s.k.2.2 mp ∧ r = 3 ∧ t = s) ∨ (∃ mp e, mp < 5 ∧ x = nI mp ∧ s.k.1 mp = true ∧ s.k.2.1 mp = false ∧ s.k.2.2 mp < sz_M s.q mp ∧ en_M s.q mp (s.k.2.2 mp) e ∧ r = 0 ∧ v = nI e.1 ∧ t = (s.o, s.q, s.n, (s.k.1, s.k.2.1, va_up s.k.2.2 mp (s.k.2.2 mp + 1))))
def sCollect (s : Mst) (x : Int32) (r : Nat) (v : Int32) (t : Mst) : Prop := ((x < 0 ∨ 3 < x) ∧ r = 1 ∧ t = s) ∨ (∃ pr, pr ≤ 3 ∧ x = nI pr ∧ ∃ st, st = scM s.o s.q s.n s.k pr ∧ r = 0 ∧ v = nI (cb (fun x => s.o.1 x && !st.2.2.1 x) 32) ∧ t = ((st.2.2.1, s.o.2.1, s.o.2.2.1, s.o.2.2.2), (s.q.1.filter (fun e => st.2.2.1 e.1), (st.1, st.2.1), s.q.2.2), (s.n.1, s.n.2.1, s.n.2.2 + cb (fun x => s.o.1 x && !st.2.2.1 x) 32), (s.k.1, va_up (va_up s.k.2.1 1 st.2.2.2) 0 (s.k.2.1 0 || s.q.1.any (fun e => !st.2.2.1 e.1)), s.k.2.2)))
/-- two steps agree -/
def agS (r r2 : Nat) (v v2 : Int32) (t t2 : Mst) : Prop := r = r2 ∧ t = t2 ∧ (r = 0 → v = v2)
theorem mp_n {a b : Nat} (ha : a < 5) (hb : b < 5) (h : nI a = nI b) : a = b := (nI_eq (by omega) (by omega)).mp h
theorem k_n {a b : Nat} (ha : a < 32) (hb : b < 32) (h : nI a = nI b) : a = b := (nI_eq (by omega) (by omega)).mp h
theorem isFr_u {al : Nat → Bool} {i j : Nat} (h : isFr al i) (h2 : isFr al j) : i = j := by
  rcases Nat.lt_trichotomy i j with h3 | h3 | h3
  · have := h2.2.2 i h3; rw [h.2.1] at this; cases this
  · exact h3
  · have := h.2.2 j h3; rw [h2.2.1] at this; cases this
theorem sMake_u {s t t2 : Mst} {x v v2 : Int32} {r r2 : Nat} (h : sMake s x r v t) (h2 : sMake s x r2 v2 t2) : agS r r2 v v2 t t2 := by
  have lo : ∀ va, va < 100 → ¬ (nI va < 0 ∨ 99 < nI va) := fun va hv z => by
    rcases z with z | z
    · exact nI_pos (by omega) z
    · exact nI_nlt (a := 99) (b := va) (by omega) (by decide) z
  rcases h with ⟨a, rfl, rfl⟩ | ⟨a, b, c, rfl, rfl⟩ | ⟨va, i, hv, rfl, hf, rfl, rfl, rfl⟩
  · rcases h2 with ⟨a2, rfl, rfl⟩ | ⟨a2, b2, c2, rfl, rfl⟩ | ⟨va2, i2, hv2, rfl, hf2, rfl, rfl, rfl⟩
    · exact ⟨rfl, rfl, fun z => by cases z⟩
    · exact absurd a (fun z => z.elim a2 b2)
    · exact absurd a (lo va2 hv2)
  · rcases h2 with ⟨a2, rfl, rfl⟩ | ⟨a2, b2, c2, rfl, rfl⟩ | ⟨va2, i2, hv2, rfl, hf2, rfl, rfl, rfl⟩
    · exact absurd a2 (fun z => z.elim a b)
    · exact ⟨rfl, rfl, fun z => by cases z⟩
    · have := c i2 hf2.1; rw [hf2.2.1] at this; cases this
  · rcases h2 with ⟨a2, rfl, rfl⟩ | ⟨a2, b2, c2, rfl, rfl⟩ | ⟨va2, i2, hv2, e1, hf2, rfl, rfl, rfl⟩
    · exact absurd a2 (lo va hv)
    · have := c2 i hf.1; rw [hf.2.1] at this; cases this
    · have e2 : va = va2 := (nI_eq (by omega) (by omega)).mp e1
      subst e2
      have e3 := isFr_u hf hf2
      subst e3
      exact ⟨rfl, rfl, fun _ => rfl⟩
theorem bf {b : Bool} (h : b = false) (h2 : b = true) : False := by rw [h] at h2; cases h2
theorem sRefer_u {s t t2 : Mst} {x w y v v2 : Int32} {r r2 : Nat} (h : sRefer s x w y r v t) (h2 : sRefer s x w y r2 v2 t2) : agS r r2 v v2 t t2 := by
  rcases h with ⟨a, rfl, rfl⟩ | ⟨j, wh, hj, hw, a, rfl, rfl, rfl, rfl, rfl⟩
  · rcases h2 with ⟨a2, rfl, rfl⟩ | ⟨j2, wh2, hj2, hw2, a2, -⟩
    · exact ⟨rfl, rfl, fun z => by cases z⟩
    · exact (bf a a2).elim
  · rcases h2 with ⟨a2, rfl, rfl⟩ | ⟨j2, wh2, hj2, hw2, a2, e1, e2, rfl, rfl, rfl⟩
    · exact (bf a2 a).elim
    · have e3 := k_n hj hj2 e1
      have e4 : wh = wh2 := (nI_eq (by omega) (by omega)).mp e2
      subst e3; subst e4
      exact ⟨rfl, rfl, fun _ => rfl⟩
theorem sRoot_u {s t t2 : Mst} {x v v2 : Int32} {b : Bool} {r r2 : Nat} (h : sRoot s x b r v t) (h2 : sRoot s x b r2 v2 t2) : agS r r2 v v2 t t2 := by
  rcases h with ⟨a, rfl, rfl⟩ | ⟨j, hj, rfl, a, rfl, rfl, rfl⟩
  · rcases h2 with ⟨a2, rfl, rfl⟩ | ⟨j2, hj2, rfl, a2, -⟩
    · exact ⟨rfl, rfl, fun z => by cases z⟩
    · rw [al_nI hj2] at a; exact (bf a a2).elim
  · rcases h2 with ⟨a2, rfl, rfl⟩ | ⟨j2, hj2, e1, a2, rfl, rfl, rfl⟩
    · rw [al_nI hj] at a2; exact (bf a2 a).elim
    · have e3 := k_n hj hj2 e1
      subst e3
      exact ⟨rfl, rfl, fun _ => rfl⟩
theorem hit.val {o : Obs} {q : Mps} {mp key i : Nat} {a b : Nat × Nat} (hm : mp < 5) (h1 : hit o q mp key i a) (h2 : hit o q mp key i b) : a = b := by
  rcases (show mp = 0 ∨ mp = 1 ∨ mp = 2 ∨ mp = 3 ∨ mp = 4 by omega) with rfl | rfl | rfl | rfl | rfl
  · exact Option.some.inj (h1.1.symm.trans h2.1)
  · exact Option.some.inj (h1.1.symm.trans h2.1)
  · exact Option.some.inj (h1.2.1.symm.trans h2.2.1)
  · obtain ⟨-, a1, a2, -⟩ := h1
    obtain ⟨-, b1, b2, -⟩ := h2
    exact Prod.ext (a2.trans b2.symm) (Option.some.inj (a1.symm.trans b1))
  · exact Option.some.inj (h1.1.symm.trans h2.1)
theorem sGet_u {s t t2 : Mst} {x kx v v2 : Int32} {r r2 : Nat} (hk : okM s.o s.q) (h : sGet s x kx r v t) (h2 : sGet s x kx r2 v2 t2) : agS r r2 v v2 t t2 := by
  rcases h with ⟨a, rfl, rfl⟩ | ⟨mp, key, hm, hke, rfl, rfl, hl, a, hn, rfl, rfl, rfl⟩ | ⟨mp, key, j, e, hm, hke, rfl, rfl, hl, a, hh, rfl, rfl, rfl⟩
  · rcases h2 with ⟨a2, rfl, rfl⟩ | ⟨mp2, key2, hm2, hke2, e1, e2, hl2, a2, -⟩ | ⟨mp2, key2, j2, e2', hm2, hke2, e1, e2, hl2, a2, -⟩
    · exact ⟨rfl, rfl, fun z => by cases z⟩
    · exact (bf a a2).elim
    · exact (bf a a2).elim
  · rcases h2 with ⟨a2, rfl, rfl⟩ | ⟨mp2, key2, hm2, hke2, e1, e2, hl2, a2, hn2, rfl, rfl, rfl⟩ | ⟨mp2, key2, j2, e2', hm2, hke2, e1, e2, hl2, a2, hh2, rfl, rfl, rfl⟩
    · exact (bf a2 a).elim
    · have e3 := mp_n hm hm2 e1
      subst e3
      exact ⟨rfl, rfl, fun _ => rfl⟩
    · have e3 := mp_n hm hm2 e1
      have e4 := k_n hke hke2 e2
      subst e3; subst e4
      exact absurd hh2 (hn j2 e2')
  · rcases h2 with ⟨a2, rfl, rfl⟩ | ⟨mp2, key2, hm2, hke2, e1, e2, hl2, a2, hn2, rfl, rfl, rfl⟩ | ⟨mp2, key2, j2, e2', hm2, hke2, e1, e2, hl2, a2, hh2, rfl, rfl, rfl⟩
    · exact (bf a2 a).elim
    · have e3 := mp_n hm hm2 e1
      have e4 := k_n hke hke2 e2
      subst e3; subst e4
      exact absurd hh (hn2 j e)
    · have e3 := mp_n hm hm2 e1
      have e4 := k_n hke hke2 e2
      subst e3; subst e4
      have e5 := hit.uni hk hm hh hh2
      subst e5
      have e6 := hh.val hm hh2
      subst e6
      exact ⟨rfl, rfl, fun _ => rfl⟩
theorem sRemove_u {s t t2 : Mst} {x kx v v2 : Int32} {r r2 : Nat} (hk : okM s.o s.q) (h : sRemove s x kx r v t) (h2 : sRemove s x kx r2 v2 t2) : agS r r2 v v2 t t2 := by
  rcases h with ⟨a, rfl, rfl⟩ | ⟨mp, key, hm, hke, rfl, rfl, hl, a, hn, rfl, rfl, rfl⟩ | ⟨mp, key, j, e, hm, hke, rfl, rfl, hl, a, hh, rfl, rfl, rfl⟩
  · rcases h2 with ⟨a2, rfl, rfl⟩ | ⟨mp2, key2, hm2, hke2, e1, e2, hl2, a2, -⟩ | ⟨mp2, key2, j2, e2', hm2, hke2, e1, e2, hl2, a2, -⟩
    · exact ⟨rfl, rfl, fun z => by cases z⟩
    · exact (bf a a2).elim
    · exact (bf a a2).elim
  · rcases h2 with ⟨a2, rfl, rfl⟩ | ⟨mp2, key2, hm2, hke2, e1, e2, hl2, a2, hn2, rfl, rfl, rfl⟩ | ⟨mp2, key2, j2, e2', hm2, hke2, e1, e2, hl2, a2, hh2, rfl, rfl, rfl⟩
    · exact (bf a2 a).elim
    · exact ⟨rfl, rfl, fun _ => rfl⟩
    · have e3 := mp_n hm hm2 e1
      have e4 := k_n hke hke2 e2
      subst e3; subst e4
      exact absurd hh2 (hn j2 e2')
  · rcases h2 with ⟨a2, rfl, rfl⟩ | ⟨mp2, key2, hm2, hke2, e1, e2, hl2, a2, hn2, rfl, rfl, rfl⟩ | ⟨mp2, key2, j2, e2', hm2, hke2, e1, e2, hl2, a2, hh2, rfl, rfl, rfl⟩
    · exact (bf a2 a).elim
    · have e3 := mp_n hm hm2 e1
      have e4 := k_n hke hke2 e2
      subst e3; subst e4
      exact absurd hh (hn2 j e)
    · have e3 := mp_n hm hm2 e1
      have e4 := k_n hke hke2 e2
      subst e3; subst e4
      have e5 := hit.uni hk hm hh hh2
      subst e5
      have e6 := hh.val hm hh2
      subst e6
      exact ⟨rfl, rfl, fun _ => rfl⟩
theorem adR_u {o : Obs} {q q1 q2 : Mps} {n n1 n2 : Nms} {mp key val : Nat} (hm : mp < 5) (h : adR o q n mp key val q1 n1) (h2 : adR o q n mp key val q2 n2) : q1 = q2 ∧ n1 = n2 := by
  rcases (show mp = 0 ∨ mp = 1 ∨ mp = 2 ∨ mp = 3 ∨ mp = 4 by omega) with rfl | rfl | rfl | rfl | rfl
  · exact ⟨h.1.trans h2.1.symm, h.2.trans h2.2.symm⟩
  · exact ⟨h.1.trans h2.1.symm, h.2.trans h2.2.symm⟩
  · obtain ⟨⟨t, ht, hp, rfl⟩, rfl⟩ := h
    obtain ⟨⟨t2, ht2, hp2, rfl⟩, rfl⟩ := h2
    have e1 := isPr.uni hp hp2
    subst e1
    exact ⟨rfl, rfl⟩
  · exact ⟨h.1.trans h2.1.symm, h.2.trans h2.2.symm⟩
  · exact ⟨h.1.trans h2.1.symm, h.2.trans h2.2.symm⟩
theorem sPut_u {s t t2 : Mst} {x kx vx v v2 : Int32} {r r2 : Nat} (hk : okM s.o s.q) (h : sPut s x kx vx r v t) (h2 : sPut s x kx vx r2 v2 t2) : agS r r2 v v2 t t2 := by
  rcases h with ⟨a, rfl, rfl⟩ | ⟨key, hke, rfl, rfl, a, hn, h12, rfl, rfl⟩ | ⟨mp, key, val, q1, n1, hm, hke, hva, rfl, rfl, rfl, hl, hl', a, hn, h12, had, rfl, rfl, rfl⟩ | ⟨mp, key, val, j, e, hm, hke, hva, rfl, rfl, rfl, hl, hl', a, hh, rfl, rfl, rfl⟩
  · rcases h2 with ⟨a2, rfl, rfl⟩ | ⟨_, _, _, _, a2, -⟩ | ⟨_, _, _, _, _, _, _, _, _, _, _, _, _, a2, -⟩ | ⟨_, _, _, _, _, _, _, _, _, _, _, _, _, a2, -⟩
    · exact ⟨rfl, rfl, fun z => by cases z⟩
    · exact (bf a a2).elim
    · exact (bf a a2).elim
    · exact (bf a a2).elim
  · rcases h2 with ⟨a2, -⟩ | ⟨_, _, _, _, a2, _, _, rfl, rfl⟩ | ⟨mp2, key2, val2, q2, n2, hm2, hke2, hva2, e1, e2, e3, _, _, a2, hn2, h122, -⟩ | ⟨mp2, key2, val2, j2, e2', hm2, hke2, hva2, e1, e2, e3, _, _, a2, hh2, -⟩
    · exact (bf a2 a).elim
    · exact ⟨rfl, rfl, fun z => by cases z⟩
    · have := h122 (mp_n (by decide) hm2 e1).symm
      omega
    · have e4 := mp_n (by decide) hm2 e1
      have e5 := k_n hke hke2 e2
      subst e4; subst e5
      exact absurd hh2 (hn j2 e2')
  · rcases h2 with ⟨a2, -⟩ | ⟨key2, hke2, e1, e2, a2, hn2, h122, rfl, rfl⟩ | ⟨mp2, key2, val2, q2, n2, hm2, hke2, hva2, e1, e2, e3, _, _, a2, hn2, h122, had2, rfl, rfl, rfl⟩ | ⟨mp2, key2, val2, j2, e2', hm2, hke2, hva2, e1, e2, e3, _, _, a2, hh2, -⟩
    · exact (bf a2 a).elim
    · have := h12 (mp_n hm (by decide) e1)
      omega
    · have e4 := mp_n hm hm2 e1
      have e5 := k_n hke hke2 e2
      have e6 := k_n hva hva2 e3
      subst e4; subst e5; subst e6
      obtain ⟨e7, e8⟩ := adR_u hm had had2
      subst e7; subst e8
      exact ⟨rfl, rfl, fun _ => rfl⟩
    · have e4 := mp_n hm hm2 e1
      have e5 := k_n hke hke2 e2
      subst e4; subst e5
      exact absurd hh2 (hn j2 e2')
  · rcases h2 with ⟨a2, -⟩ | ⟨key2, hke2, e1, e2, a2, hn2, h122, rfl, rfl⟩ | ⟨mp2, key2, val2, q2, n2, hm2, hke2, hva2, e1, e2, e3, _, _, a2, hn2, h122, had2, rfl, rfl, rfl⟩ | ⟨mp2, key2, val2, j2, e2', hm2, hke2, hva2, e1, e2, e3, _, _, a2, hh2, rfl, rfl, rfl⟩
    · exact (bf a2 a).elim
    · have e4 := mp_n hm (by decide) e1
      have e5 := k_n hke hke2 e2
      subst e4; subst e5
      exact absurd hh (hn2 j e)
    · have e4 := mp_n hm hm2 e1
      have e5 := k_n hke hke2 e2
      subst e4; subst e5
      exact absurd hh (hn2 j e)
    · have e4 := mp_n hm hm2 e1
      have e5 := k_n hke hke2 e2
      have e6 := k_n hva hva2 e3
      subst e4; subst e5; subst e6
      have e7 := hit.uni hk hm hh hh2
      subst e7
      have e8 := hh.val hm hh2
      subst e8
      exact ⟨rfl, rfl, fun _ => rfl⟩
theorem cn_inJ {α : Type} {f : Nat → Option α} {u w : Nat} {x y : α} (hu : f u = some x) (hw : f w = some y) (h : cn f u = cn f w) : u = w := by
  rcases Nat.lt_trichotomy u w with h1 | h1 | h1
  · have := cn_mono (f := f) (show u + 1 ≤ w from h1); rw [cn_s hu] at this; omega
  · exact h1
  · have := cn_mono (f := f) (show w + 1 ≤ u from h1); rw [cn_s hw] at this; omega
theorem en_u {q : Mps} {mp k : Nat} {a b : Nat × Nat} (hm : mp < 5) (h1 : en_M q mp k a) (h2 : en_M q mp k b) : a = b := by
  rcases (show mp = 0 ∨ mp = 1 ∨ mp = 2 ∨ mp = 3 ∨ mp = 4 by omega) with rfl | rfl | rfl | rfl | rfl
  · exact Option.some.inj (h1.symm.trans h2)
  · exact Option.some.inj (h1.symm.trans h2)
  · obtain ⟨s1, _, a1, a2⟩ := h1
    obtain ⟨s2, _, b1, b2⟩ := h2
    have e1 := cn_inJ a1 b1 (a2.trans b2.symm)
    subst e1
    exact Option.some.inj (a1.symm.trans b1)
  · obtain ⟨_, a1, a2⟩ := h1
    obtain ⟨_, b1, b2⟩ := h2
    have e1 := cn_inJ a1 b1 (a2.trans b2.symm)
    refine Prod.ext e1 ?_
    rw [e1, b1] at a1
    exact (Option.some.inj a1).symm
  · exact Option.some.inj (h1.symm.trans h2)
theorem sEntry_u {s t t2 : Mst} {x kx wx v v2 : Int32} {r r2 : Nat} (h : sEntry s x kx wx r v t) (h2 : sEntry s x kx wx r2 v2 t2) : agS r r2 v v2 t t2 := by
  obtain ⟨rfl, h⟩ := h
  obtain ⟨rfl, h2⟩ := h2
  rcases h with ⟨a, rfl⟩ | ⟨mp, kk, e, hm, rfl, hkk, rfl, a, he, hw, rfl⟩
  · rcases h2 with ⟨a2, rfl⟩ | ⟨_, _, _, _, _, _, _, a2, -⟩
    · exact ⟨rfl, rfl, fun z => by cases z⟩
    · exact (bf a a2).elim
  · rcases h2 with ⟨a2, rfl⟩ | ⟨mp2, kk2, e2, hm2, e3, hkk2, e4, a2, he2, hw2, rfl⟩
    · exact (bf a2 a).elim
    · have e5 := mp_n hm hm2 e3
      have e6 : kk = kk2 := (nI_eq hkk hkk2).mp e4
      subst e5; subst e6
      have e7 := en_u hm he he2
      subst e7
      refine ⟨rfl, rfl, fun _ => ?_⟩
      rcases hw with ⟨w1, w2⟩ | ⟨w1, w2⟩ <;> rcases hw2 with ⟨z1, z2⟩ | ⟨z1, z2⟩
      · rw [w2, z2]
      · rw [w1] at z1; exact absurd z1 (by decide)
      · rw [w1] at z1; exact absurd z1 (by decide)
      · rw [w2, z2]
theorem sWalk_u {s t t2 : Mst} {x v v2 : Int32} {r r2 : Nat} (h : sWalk s x r v t) (h2 : sWalk s x r2 v2 t2) : agS r r2 v v2 t t2 := by
  rcases h with ⟨a, rfl, rfl⟩ | ⟨j, hj, rfl, rfl, rfl, rfl⟩
  · rcases h2 with ⟨a2, rfl, rfl⟩ | ⟨j2, hj2, rfl, -⟩
    · exact ⟨rfl, rfl, fun z => by cases z⟩
    · exact (bf a (isM_n hj2)).elim
  · rcases h2 with ⟨a2, rfl, rfl⟩ | ⟨j2, hj2, e1, rfl, rfl, rfl⟩
    · exact (bf a2 (isM_n hj)).elim
    · have e3 := mp_n hj hj2 e1
      subst e3
      exact ⟨rfl, rfl, fun _ => rfl⟩
theorem sStep_u {s t t2 : Mst} {x v v2 : Int32} {r r2 : Nat} (h : sStep s x r v t) (h2 : sStep s x r2 v2 t2) : agS r r2 v v2 t t2 := by
  have key : ∀ {r : Nat} {v : Int32} {t : Mst}, sStep s x r v t → (r = 1 ∧ t = s ∧ (is_M x = false ∨ ∃ mp, mp < 5 ∧ x = nI mp ∧ s.k.1 mp = false)) ∨ ∃ mp, mp < 5 ∧ x = nI mp ∧ s.k.1 mp = true ∧ ((s.k.2.1 mp = true ∧ r = 2 ∧ t = s) ∨ (s.k.2.1 mp = false ∧ ((sz_M s.q mp ≤ s.k.2.2 mp ∧ r = 3 ∧ t = s) ∨ (s.k.2.2 mp < sz_M s.q mp ∧ ∃ e, en_M s.q mp (s.k.2.2 mp) e ∧ r = 0 ∧ v = nI e.1 ∧ t = (s.o, s.q, s.n, (s.k.1, s.k.2.1, va_up s.k.2.2 mp (s.k.2.2 mp + 1))))))) := by
    intro r v t h
    rcases h with ⟨a, rfl, rfl⟩ | ⟨mp, hm, rfl, a, b, rfl, rfl⟩ | ⟨mp, hm, rfl, a, b, c, rfl, rfl⟩ | ⟨mp, e, hm, rfl, a, b, c, d, rfl, rfl, rfl⟩
    · exact Or.inl ⟨rfl, rfl, a⟩
    · exact Or.inr ⟨mp, hm, rfl, a, Or.inl ⟨b, rfl, rfl⟩⟩
    · exact Or.inr ⟨mp, hm, rfl, a, Or.inr ⟨b, Or.inl ⟨c, rfl, rfl⟩⟩⟩
    · exact Or.inr ⟨mp, hm, rfl, a, Or.inr ⟨b, Or.inr ⟨c, e, d, rfl, rfl, rfl⟩⟩⟩
  have ex : ∀ mp, mp < 5 → x = nI mp → s.k.1 mp = true → ¬ (is_M x = false ∨ ∃ mp, mp < 5 ∧ x = nI mp ∧ s.k.1 mp = false) := by
    rintro mp hm rfl ha (z | ⟨mp2, hm2, e1, z⟩)
    · exact bf z (isM_n hm)
    · have e2 := mp_n hm hm2 e1
      subst e2
      exact bf z ha
  rcases key h with ⟨rfl, rfl, a⟩ | ⟨mp, hm, e1, ha, hb⟩
  · rcases key h2 with ⟨rfl, rfl, a2⟩ | ⟨mp2, hm2, e2, ha2, -⟩
    · exact ⟨rfl, rfl, fun z => by cases z⟩
    · exact absurd a (ex mp2 hm2 e2 ha2)
  · rcases key h2 with ⟨rfl, rfl, a2⟩ | ⟨mp2, hm2, e2, ha2, hb2⟩
    · exact absurd a2 (ex mp hm e1 ha)
    · have e3 := mp_n hm hm2 (e1.symm.trans e2)
      subst e3
      rcases hb with ⟨b1, rfl, rfl⟩ | ⟨b1, hc⟩ <;> rcases hb2 with ⟨b2, rfl, rfl⟩ | ⟨b2, hc2⟩
      · exact ⟨rfl, rfl, fun z => by cases z⟩
      · exact (bf b2 b1).elim
      · exact (bf b1 b2).elim
      · rcases hc with ⟨c1, rfl, rfl⟩ | ⟨c1, e, he, rfl, rfl, rfl⟩ <;> rcases hc2 with ⟨c2, rfl, rfl⟩ | ⟨c2, e2', he2, rfl, rfl, rfl⟩
        · exact ⟨rfl, rfl, fun z => by cases z⟩
        · omega
        · omega
        · have e4 := en_u hm he he2
          subst e4
          exact ⟨rfl, rfl, fun _ => rfl⟩
theorem sCollect_u {s t t2 : Mst} {x v v2 : Int32} {r r2 : Nat} (h : sCollect s x r v t) (h2 : sCollect s x r2 v2 t2) : agS r r2 v v2 t t2 := by
  have lo : ∀ pr, pr ≤ 3 → ¬ (nI pr < 0 ∨ 3 < nI pr) := fun pr hp z => by
    rcases z with z | z
    · exact nI_pos (by omega) z
    · exact nI_nlt (a := 3) (b := pr) (by omega) (by decide) z
  rcases h with ⟨a, rfl, rfl⟩ | ⟨pr, hp, rfl, st, rfl, rfl, rfl, rfl⟩
  · rcases h2 with ⟨a2, rfl, rfl⟩ | ⟨pr2, hp2, rfl, -⟩
    · exact ⟨rfl, rfl, fun z => by cases z⟩
    · exact absurd a (lo pr2 hp2)
  · rcases h2 with ⟨a2, rfl, rfl⟩ | ⟨pr2, hp2, e1, st2, rfl, rfl, rfl, rfl⟩
    · exact absurd a2 (lo pr hp)
    · have e3 : pr = pr2 := (nI_eq (by omega) (by omega)).mp e1
      subst e3
      exact ⟨rfl, rfl, fun _ => rfl⟩

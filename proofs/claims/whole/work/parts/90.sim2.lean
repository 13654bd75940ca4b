/-! collect: the invariant, and what the maps hold. -/
theorem mh_live {o : Obs} {q : Mps} (h : okM o q) {x : Nat} (hx : mh_M q x) : x < 32 ∧ o.1 x = true := by
  obtain ⟨-, ⟨r0, r1, r4⟩, s1, p1⟩ := h
  obtain ⟨m, j, e, hm, h1, h2⟩ := hx
  unfold at_M at h1
  have row : ∀ {l : List (Nat × Nat)}, okR o l → l[j]? = some e → x < 32 ∧ o.1 x = true := fun hr hj => by
    have h3 := hr e (List.mem_of_getElem? hj)
    rcases h2 with ⟨-, rfl⟩ | ⟨-, rfl⟩
    · exact h3.1
    · exact h3.2
  rcases m with _ | _ | _ | _ | _ | m
  · exact row r0.1 h1
  · exact row r1.1 h1
  · rw [if_neg (by decide), if_neg (by decide), if_pos rfl] at h1
    split at h1
    · have h3 := s1.1 j e h1
      rcases h2 with ⟨-, rfl⟩ | ⟨-, rfl⟩
      · exact h3.1
      · exact h3.2
    · cases h1
  · rw [if_neg (by decide), if_neg (by decide), if_neg (by decide), if_pos rfl] at h1
    split at h1
    · obtain ⟨y, hy, rfl⟩ := Option.map_eq_some_iff.mp h1
      rcases h2 with ⟨⟨-, h5⟩, -⟩ | ⟨-, rfl⟩
      · exact absurd rfl h5
      · exact p1 j y hy
    · cases h1
  · exact row r4.1 h1
  · omega
theorem rt_live {o : Obs} {q : Mps} (h : okM o q) : ∀ i, i < 32 → rtM o q i = true → o.1 i = true := fun i hi hr => by
  unfold rtM at hr
  rcases (Bool.or_eq_true _ _).mp hr with h1 | h1
  · exact ((Bool.and_eq_true _ _).mp h1).1
  · exact (mh_live h (@of_decide_eq_true _ (Classical.propDecidable _) h1)).2
theorem rt_mh {o : Obs} {q : Mps} {x : Nat} (h : mh_M q x) : rtM o q x = true := by
  unfold rtM
  rw [@decide_eq_true _ (Classical.propDecidable _) h, Bool.or_true]
theorem inv_coll {o : Obs} {q : Mps} {n : Nms} {k : Wks} (h : inv o q n) {L : List En} (hL : L.map kv = q.2.1.1) (hU : L.map us = q.2.1.2) (pr c : Nat) : inv ((scM o q n k pr).2.2.1, o.2.1, o.2.2.1, o.2.2.2) (q.1.filter (fun e => (scM o q n k pr).2.2.1 e.1), ((scM o q n k pr).1, (scM o q n k pr).2.1), q.2.2) (n.1, n.2.1, n.2.2 + c) ∧ ∀ j, j < 32 → (scM o q n k pr).2.2.1 j = true → o.1 j = true := by
  obtain ⟨hk, hO, c12, b4, ⟨e1, e2, e3⟩, f6, g16, g8⟩ := h
  have hlen : q.2.1.1.length = L.length := by rw [← hL, List.length_map]
  have hst : scM o q n k pr = sfM o.2.2.2 n.2.1 (12 - 4 * pr) L.length 1 (L.map kv, L.map us, clF o.2.2.2 (rtM o q), k.2.1 1) := by
    unfold scM
    rw [sf_01 (fun u hu => (e1 u hu).1), hlen, hL, hU]
  obtain ⟨L1, r1, r2, r3, r4, r5, r6, r7⟩ := sf_ok hO (tm := n.2.1) (pat := 12 - 4 * pr) L.length 1 L (clF o.2.2.2 (rtM o q)) (k.2.1 1) (by rw [hU]; exact e2) clF_cl (fun i _ hs => (clF_in hO (rt_live hk) hs).2) (fun x hx => (hk.2.1.2.1.1 (kv x) (by rw [← hL]; exact List.mem_map_of_mem hx)).2) (fun x hx hl => absurd (e1 (us x) (by rw [← hU]; exact List.mem_map_of_mem hx)).1 (by omega)) List.countP_le_length
  rw [← hst] at r2 r3 r4 r5 r6 r7
  generalize scM o q n k pr = st at r2 r3 r4 r5 r6 r7 ⊢
  have held : ∀ {x : Nat}, mh_M q x → x < 32 ∧ st.2.2.1 x = true := fun hx => ⟨(mh_live hk hx).1, r4 _ (mh_live hk hx).1 (clF_le (mh_live hk hx).1 (rt_mh hx))⟩
  obtain ⟨a1, ⟨w0, w1, w4⟩, s1, p1⟩ := hk
  have hs1 : ∀ e ∈ L1.map kv, e ∈ q.2.1.1 := fun e he => by rw [← hL]; exact (r1.map kv).mem he
  refine ⟨⟨⟨fun i hi hl => a1 i hi (r6 i hi hl), ⟨⟨fun e he => ?_, unR.sub (o := o) w0.2 List.filter_sublist⟩, ⟨fun e he => ?_, ?_⟩, ⟨fun e he => ?_, w4.2⟩⟩, ⟨fun s e hs => ?_, s1.2⟩, fun v x hx => ?_⟩, fun i hi hl w hw j hj => ⟨(hO i hi (r6 i hi hl) w hw j hj).1, r5 i hi hl w hw j hj⟩, c12, b4, ⟨fun u hu => ?_, ?_, ?_⟩, f6, g16, g8⟩, r6⟩
  · obtain ⟨h1, h2⟩ := List.mem_filter.mp he
    obtain ⟨j, hj⟩ := List.mem_iff_getElem?.mp h1
    exact ⟨⟨(w0.1 e h1).1.1, h2⟩, held ⟨0, j, e, by decide, hj, Or.inr ⟨by decide, rfl⟩⟩⟩
  · have he : e ∈ st.1 := he
    rw [r2] at he
    obtain ⟨j, hj⟩ := List.mem_iff_getElem?.mp (hs1 e he)
    obtain ⟨x, hx, rfl⟩ := List.mem_map.mp he
    exact ⟨held ⟨1, j, kv x, by decide, hj, Or.inl ⟨⟨by decide, by decide⟩, rfl⟩⟩, (w1.1 _ (hs1 _ he)).2.1, r7 x hx⟩
  · show unR o st.1
    rw [r2]
    refine w1.2.sub ?_
    rw [← hL]
    exact r1.map kv
  · obtain ⟨j, hj⟩ := List.mem_iff_getElem?.mp he
    exact ⟨held ⟨4, j, e, by decide, hj, Or.inl ⟨⟨by decide, by decide⟩, rfl⟩⟩, held ⟨4, j, e, by decide, hj, Or.inr ⟨by decide, rfl⟩⟩⟩
  · have hs16 : s < 16 := Nat.not_le.mp fun z => by rw [g16 s z] at hs; cases hs
    have hat : at_M q 2 s = some e := by
      unfold at_M
      rw [if_neg (by decide), if_neg (by decide), if_pos rfl, if_pos hs16]
      exact hs
    exact ⟨held ⟨2, s, e, by decide, hat, Or.inl ⟨⟨by decide, by decide⟩, rfl⟩⟩, held ⟨2, s, e, by decide, hat, Or.inr ⟨by decide, rfl⟩⟩⟩
  · have hv8 : v < 8 := Nat.not_le.mp fun z => by rw [g8 v z] at hx; cases hx
    have hat : at_M q 3 v = some (v, x) := by
      unfold at_M
      rw [if_neg (by decide), if_neg (by decide), if_neg (by decide), if_pos rfl, if_pos hv8, show q.2.2.2.1 v = some x from hx]
      rfl
    exact held ⟨3, v, (v, x), by decide, hat, Or.inr ⟨by decide, rfl⟩⟩
  · have hu : u ∈ st.2.1 := hu
    rw [r3] at hu
    exact e1 u (by rw [← hU]; exact (r1.map us).mem hu)
  · show st.2.1.Nodup
    rw [r3]
    exact (r1.map us).nodup (by rw [hU]; exact e2)
  · show st.2.1.length = st.1.length
    rw [r2, r3, List.length_map, List.length_map]
/-- what the maps hold, by the class's rows -/
theorem sim_rt {o : Obs} {q : Mps} {n : Nms} {L : Nat → List En} {sl : Nat → Option En} (h : inv o q n) (sm : simM o q L sl) : ∀ j, j < 32 → (rtM o q j = true ↔ (o.1 j = true ∧ (((((((o.2.2.1 j = true ∨ kyS (lsE L sl 2) j) ∨ vlS (lsE L sl 2) j) ∨ kyS (lsE L sl 4) j) ∨ vlS (lsE L sl 4) j) ∨ vlS (lsE L sl 3) j) ∨ vlS (lsE L sl 0) j) ∨ kyS (lsE L sl 1) j))) := by
  intro j hj
  have hk := h.1
  obtain ⟨s0, s1, s2, s3, s4, -⟩ := sm
  have hrow : ∀ {L0 : List En} {l : List (Nat × Nat)} {i : Nat} {e : Nat × Nat}, L0.map kv = l → l[i]? = some e → ∃ x ∈ L0, kv x = e := fun h1 h2 => by
    obtain ⟨x, hx, hx2⟩ := mp_at h1 h2
    exact ⟨x, List.mem_of_getElem? hx, hx2⟩
  have hrow2 : ∀ {L0 : List En} {l : List (Nat × Nat)} {x : En}, L0.map kv = l → x ∈ L0 → ∃ i : Nat, l[i]? = some (kv x) := fun h1 h2 => by
    obtain ⟨i, hi⟩ := List.mem_iff_getElem?.mp h2
    exact ⟨i, mp_to h1 hi⟩
  have hid : ∀ {x : En}, x ∈ idN sl 16 → ∃ i, at_M q 2 i = some (kv x) := fun hx => by
    obtain ⟨i, hi, hs⟩ := idN_mem hx
    refine ⟨i, ?_⟩
    unfold at_M
    rw [if_neg (by decide), if_neg (by decide), if_pos rfl, if_pos hi]
    exact sl_to s2.1 hs
  constructor
  · intro hr
    refine ⟨rt_live hk j hj hr, ?_⟩
    unfold rtM at hr
    rcases (Bool.or_eq_true _ _).mp hr with h1 | h1
    · exact Or.inl (Or.inl (Or.inl (Or.inl (Or.inl (Or.inl (Or.inl ((Bool.and_eq_true _ _).mp h1).2))))))
    · obtain ⟨m, i, e, hm, h2, h3⟩ := @of_decide_eq_true _ (Classical.propDecidable _) h1
      unfold at_M at h2
      rcases m with _ | _ | _ | _ | _ | m
      · obtain ⟨x, hx, rfl⟩ := hrow s0.1 h2
        rcases h3 with ⟨⟨h5, -⟩, -⟩ | ⟨-, h5⟩
        · exact absurd rfl h5
        · exact Or.inl (Or.inr ⟨x, hx, h5⟩)
      · obtain ⟨x, hx, rfl⟩ := hrow s1.1 h2
        rcases h3 with ⟨-, h5⟩ | ⟨h5, -⟩
        · exact Or.inr ⟨x, hx, h5⟩
        · exact absurd rfl h5
      · rw [if_neg (by decide), if_neg (by decide), if_pos rfl] at h2
        split at h2
        · rename_i hi
          obtain ⟨x, hx, rfl⟩ := sl_at s2.1 h2
          have hmem : x ∈ idN sl 16 := List.mem_of_getElem? (idN_at hx hi)
          rcases h3 with ⟨-, h5⟩ | ⟨-, h5⟩
          · exact Or.inl (Or.inl (Or.inl (Or.inl (Or.inl (Or.inl (Or.inr ⟨x, hmem, h5⟩))))))
          · exact Or.inl (Or.inl (Or.inl (Or.inl (Or.inl (Or.inr ⟨x, hmem, h5⟩)))))
        · cases h2
      · rw [if_neg (by decide), if_neg (by decide), if_neg (by decide), if_pos rfl] at h2
        split at h2
        · rename_i hi
          obtain ⟨y, hy, rfl⟩ := Option.map_eq_some_iff.mp h2
          rcases h3 with ⟨⟨-, h5⟩, -⟩ | ⟨-, h5⟩
          · exact absurd rfl h5
          · have hm2 : (i, y) ∈ (L 3).map kv := by rw [s3.1]; exact plL_mem.mpr ⟨hi, hy⟩
            obtain ⟨x, hx, hx2⟩ := List.mem_map.mp hm2
            exact Or.inl (Or.inl (Or.inr ⟨x, hx, (congrArg Prod.snd hx2).trans h5⟩))
        · cases h2
      · obtain ⟨x, hx, rfl⟩ := hrow s4.1 h2
        rcases h3 with ⟨-, h5⟩ | ⟨-, h5⟩
        · exact Or.inl (Or.inl (Or.inl (Or.inl (Or.inr ⟨x, hx, h5⟩))))
        · exact Or.inl (Or.inl (Or.inl (Or.inr ⟨x, hx, h5⟩)))
      · omega
  · rintro ⟨ha, hs⟩
    rcases hs with ((((((h1 | ⟨x, hx, rfl⟩) | ⟨x, hx, rfl⟩) | ⟨x, hx, rfl⟩) | ⟨x, hx, rfl⟩) | ⟨x, hx, rfl⟩) | ⟨x, hx, rfl⟩) | ⟨x, hx, rfl⟩
    · unfold rtM
      rw [ha, h1]
      rfl
    · obtain ⟨i, hi⟩ := hid hx
      exact rt_mh ⟨2, i, kv x, by decide, hi, Or.inl ⟨⟨by decide, by decide⟩, rfl⟩⟩
    · obtain ⟨i, hi⟩ := hid hx
      exact rt_mh ⟨2, i, kv x, by decide, hi, Or.inr ⟨by decide, rfl⟩⟩
    · obtain ⟨i, hi⟩ := hrow2 s4.1 hx
      exact rt_mh ⟨4, i, kv x, by decide, hi, Or.inl ⟨⟨by decide, by decide⟩, rfl⟩⟩
    · obtain ⟨i, hi⟩ := hrow2 s4.1 hx
      exact rt_mh ⟨4, i, kv x, by decide, hi, Or.inr ⟨by decide, rfl⟩⟩
    · obtain ⟨i, hi⟩ := hrow2 s3.1 hx
      obtain ⟨h5, h6, -⟩ := plL_ix hi
      have hat : at_M q 3 x.2.1 = some (kv x) := by
        unfold at_M
        rw [if_neg (by decide), if_neg (by decide), if_neg (by decide), if_pos rfl, if_pos h5, h6]
        rfl
      exact rt_mh ⟨3, x.2.1, kv x, by decide, hat, Or.inr ⟨by decide, rfl⟩⟩
    · obtain ⟨i, hi⟩ := hrow2 s0.1 hx
      exact rt_mh ⟨0, i, kv x, by decide, hi, Or.inr ⟨by decide, rfl⟩⟩
    · obtain ⟨i, hi⟩ := hrow2 s1.1 hx
      exact rt_mh ⟨1, i, kv x, by decide, hi, Or.inl ⟨⟨by decide, by decide⟩, rfl⟩⟩

/-! CALL: feed -/
section Feed
variable {L : Nat} {scr : Nat → Int32} {d : Nat}
def shI : Nat → Int32
  | 0 => 24
  | 1 => 16
  | 2 => 8
  | 3 => 0
  | _ => -8
theorem shI_s {j : Nat} (h : j < 4) : shI j + (-8) = shI (j + 1) ∧ ¬ shI j < 0 := by
  have k : ∀ j : Fin 4, shI j.val + (-8) = shI (j.val + 1) ∧ ¬ shI j.val < 0 := by decide
  exact k ⟨j, h⟩
def byC (x : Int32) (j : Nat) : Int32 := (x >>> (shI j &&& 31)) &&& 255
def byM (x : Int32) (j : Nat) : Int32 := Int8.toInt32 (Int32.toInt8 (Int8.toInt32 (Int32.toInt8 (x >>> (shI j &&& 31)))))
theorem by_eq (x : Int32) (j : Nat) : byC x j = byM x j &&& 255 := (byte_eq _).symm
abbrev WTp : List (Nat × Nat) := STape
theorem c_append {h : MH} {k : Nat} (x : Int32) (hk : k + 4 ≤ 900) (e : hI h 701 0 0 = nI k) : ∃ h2, E L scr (d + 1) 65 [vR 900006 0, vI x] h = some (none, h2) ∧ Upd WTp h h2 ∧ hI h2 701 0 0 = nI (k + 4) ∧ hI h2 700000900 0 = stO (hI h 700000900 0) k (byC x) 4 ∧ hI h2 1303 0 = hI h 1303 0 ∧ hI h2 1322100900 0 = hI h 1322100900 0 := by
  obtain ⟨hh, hhh⟩ : ∃ hh : Nat → MH, hh = fun j => withR h [(700000900, 0, stO (hI h 700000900 0) k (byC x) j), (701, 0, up (hI h 701 0) 0 (nI (k + j)))] := ⟨_, rfl⟩
  have h0 : hh 0 = h := by
    rw [hhh]
    refine withR_id (fun q hq => ?_)
    simp only [List.mem_cons, List.not_mem_nil, or_false] at hq
    rcases hq with rfl | rfl
    · exact stO_0 _ _ _
    · exact up_id e
  have hs : ∀ j, hI (hh j) 701 0 0 = nI (k + j) := fun j => by
    rw [hhh]
    show hI (withR h [(_, 0, _), (_, 0, _)]) 701 0 0 = _
    rw [withR_miss (by decide), withR_hit, up_s]
  refine ⟨hh 4, r_Reader_append _ _ _ (Sm.step (t' := 1) (lo' := [some (vR 900006 0), some (vI x), some (vI (shI 0))]) (st' := []) (h' := hh 0) (by rw [t_Reader_append_0, h0]; rfl) ?_), ?_, hs 4, ?_, ?_, ?_⟩
  · refine Sm.for (lo := fun j => [some (vR 900006 0), some (vI x), some (vI (shI j))]) (hh := hh) 4 (fun j hj => ?_) (Sm.ret ?_)
    · rw [t_Reader_append_1, if_neg (shI_s hj).2, hs, if_neg (show ¬ (900 : Int32) ≤ nI (k + j) from nI_ge (b := 900) (by omega) (by decide)), wr_Reader_bytes (oob_nI (by omega) (by decide)), ix_nI (by omega), (shI_s hj).1, hhh]
      show some (Sum.inl (1, _, [], sI (sI (withR h [(700000900, 0, stO (hI h 700000900 0) k (byC x) j), (701, 0, up (hI h 701 0) 0 (nI (k + j)))]) 700000900 0 (k + j) (byC x j)) 701 0 0 (hI (sI (withR h [(700000900, 0, stO (hI h 700000900 0) k (byC x) j), (701, 0, up (hI h 701 0) 0 (nI (k + j)))]) 700000900 0 (k + j) (byC x j)) 701 0 0 + 1))) = some (Sum.inl (1, _, [], withR h [(700000900, 0, stO (hI h 700000900 0) k (byC x) (j + 1)), (701, 0, up (hI h 701 0) 0 (nI (k + (j + 1))))]))
      rw [withR_set, stO_s, withR_miss (by decide), withR_hit, up_s, nI_1, withR_sI (by decide) withR_set, up_up, Nat.add_assoc]
    · rw [t_Reader_append_1, if_pos (show shI 4 < 0 by decide)]
  · rw [hhh]
    exact withR_Upd (fun q hq => by
      simp only [List.mem_cons, List.not_mem_nil, or_false] at hq
      rcases hq with rfl | rfl <;> (dsimp only; decide))
  · rw [hhh]; exact withR_hit
  · rw [hhh]
    show hI (withR h [(_, 0, _), (_, 0, _)]) 1303 0 = _
    rw [withR_miss (by decide), withR_miss (by decide)]; rfl
  · rw [hhh]
    show hI (withR h [(_, 0, _), (_, 0, _)]) 1322100900 0 = _
    rw [withR_miss (by decide), withR_miss (by decide)]; rfl
theorem c_M_four {h : MH} {k : Nat} (x : Int32) (hk : k + 4 ≤ 900) (e : hI h 1303 0 0 = nI k) : ∃ h2, E L scr (d + 1) 207 [vR 900012 0, vI x] h = some (none, h2) ∧ Upd WTp h h2 ∧ hI h2 1303 0 0 = nI (k + 4) ∧ hI h2 1322100900 0 = stO (hI h 1322100900 0) k (byM x) 4 ∧ hI h2 701 0 = hI h 701 0 ∧ hI h2 700000900 0 = hI h 700000900 0 := by
  obtain ⟨hh, hhh⟩ : ∃ hh : Nat → MH, hh = fun j => withR h [(1322100900, 0, stO (hI h 1322100900 0) k (byM x) j), (1303, 0, up (hI h 1303 0) 0 (nI (k + j)))] := ⟨_, rfl⟩
  have h0 : hh 0 = h := by
    rw [hhh]
    refine withR_id (fun q hq => ?_)
    simp only [List.mem_cons, List.not_mem_nil, or_false] at hq
    rcases hq with rfl | rfl
    · exact stO_0 _ _ _
    · exact up_id e
  have hs : ∀ j, hI (hh j) 1303 0 0 = nI (k + j) := fun j => by
    rw [hhh]
    show hI (withR h [(_, 0, _), (_, 0, _)]) 1303 0 0 = _
    rw [withR_miss (by decide), withR_hit, up_s]
  refine ⟨hh 4, r_M_four _ _ _ (Sm.step (t' := 1) (lo' := [some (vR 900012 0), some (vI x), some (vI (shI 0))]) (st' := []) (h' := hh 0) (by rw [t_M_four_0, h0]; rfl) ?_), ?_, hs 4, ?_, ?_, ?_⟩
  · refine Sm.for (lo := fun j => [some (vR 900012 0), some (vI x), some (vI (shI j))]) (hh := hh) 4 (fun j hj => ?_) (Sm.ret ?_)
    · rw [t_M_four_1, if_neg (shI_s hj).2, hs, wr_M_tape (oob_nI (by omega) (by decide)), ix_nI (by omega), (shI_s hj).1, hhh]
      show some (Sum.inl (1, _, [], sI (sI (withR h [(1322100900, 0, stO (hI h 1322100900 0) k (byM x) j), (1303, 0, up (hI h 1303 0) 0 (nI (k + j)))]) 1322100900 0 (k + j) (byM x j)) 1303 0 0 (hI (sI (withR h [(1322100900, 0, stO (hI h 1322100900 0) k (byM x) j), (1303, 0, up (hI h 1303 0) 0 (nI (k + j)))]) 1322100900 0 (k + j) (byM x j)) 1303 0 0 + 1))) = some (Sum.inl (1, _, [], withR h [(1322100900, 0, stO (hI h 1322100900 0) k (byM x) (j + 1)), (1303, 0, up (hI h 1303 0) 0 (nI (k + (j + 1))))]))
      rw [withR_set, stO_s, withR_miss (by decide), withR_hit, up_s, nI_1, withR_sI (by decide) withR_set, up_up, Nat.add_assoc]
    · rw [t_M_four_1, if_pos (show shI 4 < 0 by decide)]
  · rw [hhh]
    exact withR_Upd (fun q hq => by
      simp only [List.mem_cons, List.not_mem_nil, or_false] at hq
      rcases hq with rfl | rfl <;> (dsimp only; decide))
  · rw [hhh]; exact withR_hit
  · rw [hhh]
    show hI (withR h [(_, 0, _), (_, 0, _)]) 701 0 = _
    rw [withR_miss (by decide), withR_miss (by decide)]; rfl
  · rw [hhh]
    show hI (withR h [(_, 0, _), (_, 0, _)]) 700000900 0 = _
    rw [withR_miss (by decide), withR_miss (by decide)]; rfl
theorem tape_add {B T V U : Nat → Int32} {k : Nat} (h : ∀ i, i < k → B i = T i &&& 255) (hv : ∀ j, V j = U j &&& 255) : ∀ i, i < k + 4 → stO B k V 4 i = stO T k U 4 i &&& 255 := by
  intro i hi
  unfold stO
  by_cases c : k ≤ i ∧ i < k + 4
  · rw [if_pos c, if_pos c]; exact hv _
  · rw [if_neg c, if_neg c]; exact h i (by omega)
theorem call_feed (x y z u v : Int32) (h : MH) (q : RTape h) : Both L scr (d + 40) STape RTape 124 206 [vR 900011 0, vI x, vI y, vI z, vI u, vI v] [vR 900012 0, vI x, vI y, vI z, vI u, vI v] h := by
  obtain ⟨k, hk, e, m, r⟩ := id q
  have e20 : nI k + 20 = nI (k + 20) := nI_add k 20
  by_cases c : k + 20 ≤ 900
  · obtain ⟨h1, a1, w1, s1, b1, t1, p1⟩ := c_append (L := L) (scr := scr) (d := d + 38) (h := h) (k := k) x (by omega) e
    obtain ⟨h2, a2, w2, s2, b2, t2, p2⟩ := c_append (L := L) (scr := scr) (d := d + 38) (h := h1) (k := k + 4) y (by omega) s1
    obtain ⟨h3, a3, w3, s3, b3, t3, p3⟩ := c_append (L := L) (scr := scr) (d := d + 38) (h := h2) (k := k + 4 + 4) z (by omega) s2
    obtain ⟨h4, a4, w4, s4, b4, t4, p4⟩ := c_append (L := L) (scr := scr) (d := d + 38) (h := h3) (k := k + 4 + 4 + 4) u (by omega) s3
    obtain ⟨h5, a5, w5, s5, b5, t5, p5⟩ := c_append (L := L) (scr := scr) (d := d + 38) (h := h4) (k := k + 4 + 4 + 4 + 4) v (by omega) s4
    have m5 : hI h5 1303 0 0 = nI k := by rw [t5, t4, t3, t2, t1]; exact m
    have pt : hI h5 1322100900 0 = hI h 1322100900 0 := by rw [p5, p4, p3, p2, p1]
    obtain ⟨g1, f1, v1, n1, c1, o1, l1⟩ := c_M_four (L := L) (scr := scr) (d := d + 38) (h := h5) (k := k) x (by omega) m5
    obtain ⟨g2, f2, v2, n2, c2, o2, l2⟩ := c_M_four (L := L) (scr := scr) (d := d + 38) (h := g1) (k := k + 4) y (by omega) n1
    obtain ⟨g3, f3, v3, n3, c3, o3, l3⟩ := c_M_four (L := L) (scr := scr) (d := d + 38) (h := g2) (k := k + 4 + 4) z (by omega) n2
    obtain ⟨g4, f4, v4, n4, c4, o4, l4⟩ := c_M_four (L := L) (scr := scr) (d := d + 38) (h := g3) (k := k + 4 + 4 + 4) u (by omega) n3
    obtain ⟨g5, f5, v5, n5, c5, o5, l5⟩ := c_M_four (L := L) (scr := scr) (d := d + 38) (h := g4) (k := k + 4 + 4 + 4 + 4) v (by omega) n4
    refine ⟨vI (nI (k + 4 + 4 + 4 + 4 + 4)), h5, g5, r_P_feed _ _ _ _ _ _ _ (Sm.ret ?_), r_M_feed _ _ _ _ _ _ _ (Sm.ret ?_), ((((((((w1.tr w2).tr w3).tr w4).tr w5).tr v1).tr v2).tr v3).tr v4).tr v5, ?_⟩
    · have er : E L scr (d + 39) 64 [vR 900006 0, vI 20] h = some (some (vI 1), h) := by
        refine r_Reader_hasRoom _ _ _ (Sm.ret ?_)
        rw [t_Reader_hasRoom_0, e, e20, if_neg (show ¬ (900 : Int32) < nI (k + 20) from nI_nlt (a := 900) (by omega) (by omega)), rtZ1]
      rw [t_P_feed_0, er, clI_ok, if_neg i0n1, a1, clV_ok, a2, clV_ok, a3, clV_ok, a4, clV_ok, a5, clV_ok, s5]
    · rw [t_M_feed_0, m5, e20, if_pos (show nI (k + 20) ≤ 900 from nI_le (b := 900) (by omega) (by omega)), f1, clV_ok, f2, clV_ok, f3, clV_ok, f4, clV_ok, f5, clV_ok, n5]
    · refine ⟨k + 4 + 4 + 4 + 4 + 4, by omega, by rw [o5, o4, o3, o2, o1]; exact s5, n5, ?_⟩
      have eb : hI g5 700000900 0 = hI h5 700000900 0 := by rw [l5, l4, l3, l2, l1]
      rw [eb, b5, b4, b3, b2, b1, c5, c4, c3, c2, c1, pt]
      exact tape_add (tape_add (tape_add (tape_add (tape_add r (by_eq x)) (by_eq y)) (by_eq z)) (by_eq u)) (by_eq v)
  · refine both0 (vI (-1)) (r_P_feed _ _ _ _ _ _ _ (Sm.ret ?_)) (r_M_feed _ _ _ _ _ _ _ (Sm.ret ?_)) q
    · have er : E L scr (d + 39) 64 [vR 900006 0, vI 20] h = some (some (vI 0), h) := by
        refine r_Reader_hasRoom _ _ _ (Sm.ret ?_)
        rw [t_Reader_hasRoom_0, e, e20, if_pos (show (900 : Int32) < nI (k + 20) from nI_lt (a := 900) (by omega) (by omega)), rtZ0]
      rw [t_P_feed_0, er, clI_ok, if_pos rfl]
    · rw [t_M_feed_0, m, e20, if_neg (show ¬ nI (k + 20) ≤ 900 from nI_ge (a := 900) (by omega) (by omega))]
end Feed

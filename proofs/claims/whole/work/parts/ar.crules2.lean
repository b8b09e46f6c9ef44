/-! RULES, on the class's side: those that say numbers -/
section CRules
variable {L : Nat} {scr : Nat → Int32} {d : Nat}
theorem bd_r {A B : Type} {x : A ⊕ Nat} {f : A → B ⊕ Nat} {g : Nat} (e : x = .inr g) : bdP x f = .inr g := by rw [e]; rfl
theorem bd_l {A B : Type} {x : A ⊕ Nat} {f : A → B ⊕ Nat} {a : A} (e : x = .inl a) : bdP x f = f a := by rw [e]; rfl
theorem c_readPrice {h : MH} {ls l : List (Nat × Nat)} {m b : Nat} {S : LSt} (cp : CP h ls (.inl l)) (gp : GapL l) (b3 : 3 * b ≤ hdP l) (lw : LwC h m b S) : ∃ h2, E L scr (d + 3) 80 [vR 900006 0, vR 900005 m] h = some (none, h2) ∧ Upd (WRu m) h h2 ∧ KO h2 ls m (pPrice S l) := by
  obtain ⟨h1, w1, e1, u1, c1, -, i1, v1⟩ := c_takeNumber (L := L) (scr := scr) (d := d) (lo := 0) (hi := 3) (by decide) (by decide) cp
  obtain ⟨h2, w2, e2, u2, c2, -, i2, v2⟩ := c_takeNumber (L := L) (scr := scr) (d := d) (lo := 0) (hi := 999) (by decide) (by decide) c1
  obtain ⟨h3, hh3⟩ : ∃ h3, h3 = sI h2 601000004 m w1 (nI w2) := ⟨_, rfl⟩
  have c3 := c2.nm (s := 601000004) (m := m) (k := w1) (v := nI w2) (by decide)
  rw [← hh3] at c3
  obtain ⟨h4, e4, u4, c4⟩ := c_takeN (L := L) (scr := scr) (d := d + 1) (k := 16) c3 (by decide)
  obtain ⟨h5, w3, e5, u5, c5, -, i5, v5⟩ := c_takeNumber (L := L) (scr := scr) (d := d) (lo := 1) (hi := 240) (by decide) (by decide) c4
  obtain ⟨h6, hh6⟩ : ∃ h6, h6 = sI h5 602000004 m w1 (nI w3) := ⟨_, rfl⟩
  have c6 := c5.nm (s := 602000004) (m := m) (k := w1) (v := nI w3) (by decide)
  rw [← hh6] at c6
  have l2 := (lw.rd u1).rd u2
  have l3 : LwC h3 m b (setN S w1 w2) := by rw [hh3]; exact l2.n1 (by decide) (LawEq.p1 (by omega) l2.1)
  have l5 := (l3.rd u4).rd u5
  have l6 : LwC h6 m b (setN (setN S w1 w2) (4 + w1) w3) := by rw [hh6]; exact l5.n1 (by decide) (LawEq.p2 (by omega) l5.1)
  have U : Upd (WRu m) h h6 := by
    rw [hh6]
    refine upd_nm (by decide) (Upd.tr ?_ ((u4.tr u5).mono WRu_rd))
    rw [hh3]
    exact upd_nm (by decide) ((u1.tr u2).mono WRu_rd)
  have r1 : ix (nI w1) = w1 := ix_nI (by omega)
  have ob1 : ¬ oob (nI w1) 4 := oob_nI (by omega) (by decide)
  refine ⟨h6, r_Reader_readPrice (d := d + 2) _ _ _ (Sm.ret ?_), U, ?_⟩
  · rw [t_Reader_readPrice_0, show (0 : Int32) = nI 0 from rfl, show (3 : Int32) = nI 3 from rfl, e1, clI_ok, show (999 : Int32) = nI 999 from rfl, e2, clI_ok, wr_Law_price ob1, r1, ← hh3, show (16 : Int32) = nI 16 from rfl, e4, clV_ok, show (1 : Int32) = nI 1 from rfl, show (240 : Int32) = nI 240 from rfl, e5, clI_ok, wr_Law_each ob1, r1, ← hh6]
  · unfold pPrice
    rcases pn_split (lo := 0) (hi := 3) cp.ok gp with ⟨t1, g1, r1, rfl, n1, ok1, gp1, h1', k1, p1⟩ | ⟨g, k1, p1⟩
    · rw [k1] at c6
      rw [bd_l p1]
      rcases pn_split (lo := 0) (hi := 999) ok1 gp1 with ⟨t2, g2, r2, rfl, n2, ok2, gp2, h2', k2, p2⟩ | ⟨g, k2, p2⟩
      · rw [k2] at c6
        rw [bd_l p2]
        rcases pk_split (k := 16) (by decide) ok2 gp2 with ⟨g3, r3, rfl, ok3, gp3, h3', k3, p3⟩ | ⟨g, k3, p3⟩
        · rw [k3] at c6
          rw [bd_l p3]
          rcases pn_split (lo := 1) (hi := 240) ok3 gp3 with ⟨t4, g4, r4, rfl, n4, ok4, gp4, h4', k4, p4⟩ | ⟨g, k4, p4⟩
          · rw [k4] at c6
            rw [bd_l p4]
            have q1 := v1 t1 g1 _ rfl n1
            have q2 := v2 t2 g2 _ k1 n2
            have q4 := v5 t4 g4 r4 (by rw [k1, k2, k3]) n4
            rw [q1, q2, q4] at l6
            exact ⟨c6, gp4, b, by show 3 * b ≤ hdP r4; omega, l6⟩
          · rw [k4] at c6
            rw [bd_r p4]; exact ⟨c6, l6.rf⟩
        · rw [k3] at c6
          rw [bd_r p3]; exact ⟨c6, l6.rf⟩
      · rw [k2] at c6
        rw [bd_r p2]; exact ⟨c6, l6.rf⟩
    · rw [k1] at c6
      rw [bd_r p1]; exact ⟨c6, l6.rf⟩
theorem c_readDeposit {h : MH} {ls l : List (Nat × Nat)} {m b : Nat} {S : LSt} (cp : CP h ls (.inl l)) (gp : GapL l) (b3 : 3 * b ≤ hdP l) (lw : LwC h m b S) : ∃ h2, E L scr (d + 3) 82 [vR 900006 0, vR 900005 m] h = some (none, h2) ∧ Upd (WRu m) h h2 ∧ KO h2 ls m (pDeposit S l) := by
  obtain ⟨h1, w1, e1, u1, c1, -, i1, v1⟩ := c_takeNumber (L := L) (scr := scr) (d := d) (lo := 0) (hi := 3) (by decide) (by decide) cp
  obtain ⟨h2, w2, e2, u2, c2, -, i2, v2⟩ := c_takeNumber (L := L) (scr := scr) (d := d) (lo := 0) (hi := 999) (by decide) (by decide) c1
  obtain ⟨h3, hh3⟩ : ∃ h3, h3 = sI h2 603000004 m w1 (nI w2) := ⟨_, rfl⟩
  have c3 := c2.nm (s := 603000004) (m := m) (k := w1) (v := nI w2) (by decide)
  rw [← hh3] at c3
  have l2 := (lw.rd u1).rd u2
  have l3 : LwC h3 m b (setN S (8 + w1) w2) := by rw [hh3]; exact l2.n1 (by decide) (LawEq.p3 (by omega) l2.1)
  have U : Upd (WRu m) h h3 := by
    rw [hh3]
    exact upd_nm (by decide) ((u1.tr u2).mono WRu_rd)
  have r1 : ix (nI w1) = w1 := ix_nI (by omega)
  have ob1 : ¬ oob (nI w1) 4 := oob_nI (by omega) (by decide)
  refine ⟨h3, r_Reader_readDeposit (d := d + 2) _ _ _ (Sm.ret ?_), U, ?_⟩
  · rw [t_Reader_readDeposit_0, show (0 : Int32) = nI 0 from rfl, show (3 : Int32) = nI 3 from rfl, e1, clI_ok, show (999 : Int32) = nI 999 from rfl, e2, clI_ok, wr_Law_deposit ob1, r1, ← hh3]
  · unfold pDeposit
    rcases pn_split (lo := 0) (hi := 3) cp.ok gp with ⟨t1, g1, r1, rfl, n1, ok1, gp1, h1', k1, p1⟩ | ⟨g, k1, p1⟩
    · rw [k1] at c3
      rw [bd_l p1]
      rcases pn_split (lo := 0) (hi := 999) ok1 gp1 with ⟨t2, g2, r2, rfl, n2, ok2, gp2, h2', k2, p2⟩ | ⟨g, k2, p2⟩
      · rw [k2] at c3
        rw [bd_l p2]
        have q1 := v1 t1 g1 _ rfl n1
        have q2 := v2 t2 g2 _ k1 n2
        rw [q1, q2] at l3
        exact ⟨c3, gp2, b, by show 3 * b ≤ hdP r2; omega, l3⟩
      · rw [k2] at c3
        rw [bd_r p2]; exact ⟨c3, l3.rf⟩
    · rw [k1] at c3
      rw [bd_r p1]; exact ⟨c3, l3.rf⟩
theorem c_readRight {h : MH} {ls l : List (Nat × Nat)} {m b : Nat} {S : LSt} (cp : CP h ls (.inl l)) (gp : GapL l) (b3 : 3 * b ≤ hdP l) (lw : LwC h m b S) : ∃ h2, E L scr (d + 3) 84 [vR 900006 0, vR 900005 m] h = some (none, h2) ∧ Upd (WRu m) h h2 ∧ KO h2 ls m (pRight S l) := by
  obtain ⟨h1, w1, e1, u1, c1, -, i1, v1⟩ := c_takeNumber (L := L) (scr := scr) (d := d) (lo := 0) (hi := 9) (by decide) (by decide) cp
  obtain ⟨h2, w2, e2, u2, c2, -, i2, v2⟩ := c_takeNumber (L := L) (scr := scr) (d := d) (lo := 0) (hi := 3) (by decide) (by decide) c1
  obtain ⟨h4, w3, e4, u4, c4, -, i4, v4⟩ := c_takeNumber (L := L) (scr := scr) (d := d) (lo := 1) (hi := 240) (by decide) (by decide) c2
  obtain ⟨h3, hh3⟩ : ∃ h3, h3 = sI h4 604000040 m (4 * w1 + w2) (nI w3) := ⟨_, rfl⟩
  have c3 := c4.nm (s := 604000040) (m := m) (k := 4 * w1 + w2) (v := nI w3) (by decide)
  rw [← hh3] at c3
  have l2 := ((lw.rd u1).rd u2).rd u4
  have l3 : LwC h3 m b (setN S (20 + (4 * w1 + w2)) w3) := by rw [hh3]; exact l2.n1 (by decide) (LawEq.p4 (by omega) l2.1)
  have U : Upd (WRu m) h h3 := by
    rw [hh3]
    exact upd_nm (by decide) ((u1.tr (u2.tr u4)).mono WRu_rd)
  have r1 : ix (nI (4 * w1 + w2)) = 4 * w1 + w2 := ix_nI (by omega)
  have ob1 : ¬ oob (nI (4 * w1 + w2)) 40 := oob_nI (by omega) (by decide)
  have ar : nI w1 * 4 + nI w2 = nI (4 * w1 + w2) := by rw [show (4 : Int32) = nI 4 from rfl, nI_mul, nI_add, Nat.mul_comm]
  refine ⟨h3, r_Reader_readRight (d := d + 2) _ _ _ (Sm.ret ?_), U, ?_⟩
  · rw [t_Reader_readRight_0, show (0 : Int32) = nI 0 from rfl, show (9 : Int32) = nI 9 from rfl, e1, clI_ok, show (3 : Int32) = nI 3 from rfl, e2, clI_ok, show (1 : Int32) = nI 1 from rfl, show (240 : Int32) = nI 240 from rfl, e4, clI_ok, ar, wr_Law_rights ob1, r1, ← hh3]
  · unfold pRight
    rcases pn_split (lo := 0) (hi := 9) cp.ok gp with ⟨t1, g1, r1, rfl, n1, ok1, gp1, h1', k1, p1⟩ | ⟨g, k1, p1⟩
    · rw [k1] at c3
      rw [bd_l p1]
      rcases pn_split (lo := 0) (hi := 3) ok1 gp1 with ⟨t2, g2, r2, rfl, n2, ok2, gp2, h2', k2, p2⟩ | ⟨g, k2, p2⟩
      · rw [k2] at c3
        rw [bd_l p2]
        rcases pn_split (lo := 1) (hi := 240) ok2 gp2 with ⟨t4, g4, r4, rfl, n4, ok4, gp4, h4', k4, p4⟩ | ⟨g, k4, p4⟩
        · rw [k4] at c3
          rw [bd_l p4]
          have q1 := v1 t1 g1 _ rfl n1
          have q2 := v2 t2 g2 _ k1 n2
          have q4 := v4 t4 g4 r4 (by rw [k1, k2]) n4
          rw [q1, q2, q4, ← Nat.add_assoc] at l3
          exact ⟨c3, gp4, b, by show 3 * b ≤ hdP r4; omega, l3⟩
        · rw [k4] at c3
          rw [bd_r p4]; exact ⟨c3, l3.rf⟩
      · rw [k2] at c3
        rw [bd_r p2]; exact ⟨c3, l3.rf⟩
    · rw [k1] at c3
      rw [bd_r p1]; exact ⟨c3, l3.rf⟩
theorem c_readLate {h : MH} {ls l : List (Nat × Nat)} {m b : Nat} {S : LSt} (cp : CP h ls (.inl l)) (gp : GapL l) (b3 : 3 * b ≤ hdP l) (lw : LwC h m b S) : ∃ h2, E L scr (d + 3) 83 [vR 900006 0, vR 900005 m] h = some (none, h2) ∧ Upd (WRu m) h h2 ∧ KO h2 ls m (pLate S l) := by
  obtain ⟨h1, w1, e1, u1, c1, -, i1, v1⟩ := c_takeNumber (L := L) (scr := scr) (d := d) (lo := 0) (hi := 999) (by decide) (by decide) cp
  obtain ⟨h2, hh2⟩ : ∃ h2, h2 = sI h1 605 m 0 (nI w1) := ⟨_, rfl⟩
  have c2 := c1.nm (s := 605) (m := m) (k := 0) (v := nI w1) (by decide)
  rw [← hh2] at c2
  obtain ⟨h3, e3, u3, c3⟩ := c_takeN (L := L) (scr := scr) (d := d + 1) (k := 16) c2 (by decide)
  obtain ⟨h4, w2, e4, u4, c4, -, i4, v4⟩ := c_takeNumber (L := L) (scr := scr) (d := d) (lo := 1) (hi := 240) (by decide) (by decide) c3
  obtain ⟨h5, hh5⟩ : ∃ h5, h5 = sI h4 606 m 0 (nI w2) := ⟨_, rfl⟩
  have c5 := c4.nm (s := 606) (m := m) (k := 0) (v := nI w2) (by decide)
  rw [← hh5] at c5
  obtain ⟨h6, e6, u6, c6⟩ := c_takeN (L := L) (scr := scr) (d := d + 1) (k := 18) c5 (by decide)
  obtain ⟨h7, w3, e7, u7, c7, -, i7, v7⟩ := c_takeNumber (L := L) (scr := scr) (d := d) (lo := 0) (hi := 240) (by decide) (by decide) c6
  obtain ⟨h8, hh8⟩ : ∃ h8, h8 = sI h7 607 m 0 (nI w3) := ⟨_, rfl⟩
  have c8 := c7.nm (s := 607) (m := m) (k := 0) (v := nI w3) (by decide)
  rw [← hh8] at c8
  have l1 := lw.rd u1
  have l2 : LwC h2 m b (setN S 12 w1) := by rw [hh2]; exact l1.n1 (by decide) (LawEq.s12 l1.1)
  have l4 := (l2.rd u3).rd u4
  have l5 : LwC h5 m b (setN (setN S 12 w1) 13 w2) := by rw [hh5]; exact l4.n1 (by decide) (LawEq.s13 l4.1)
  have l7 := (l5.rd u6).rd u7
  have l8 : LwC h8 m b (setN (setN (setN S 12 w1) 13 w2) 14 w3) := by rw [hh8]; exact l7.n1 (by decide) (LawEq.s14 l7.1)
  have U : Upd (WRu m) h h8 := by
    rw [hh8]
    refine upd_nm (by decide) (Upd.tr ?_ ((u6.tr u7).mono WRu_rd))
    rw [hh5]
    refine upd_nm (by decide) (Upd.tr ?_ ((u3.tr u4).mono WRu_rd))
    rw [hh2]
    exact upd_nm (by decide) (u1.mono WRu_rd)
  refine ⟨h8, r_Reader_readLate (d := d + 2) _ _ _ (Sm.ret ?_), U, ?_⟩
  · rw [t_Reader_readLate_0, show (0 : Int32) = nI 0 from rfl, show (999 : Int32) = nI 999 from rfl, e1, clI_ok, ← hh2, show (16 : Int32) = nI 16 from rfl, e3, clV_ok, show (1 : Int32) = nI 1 from rfl, show (240 : Int32) = nI 240 from rfl, e4, clI_ok, ← hh5, show (18 : Int32) = nI 18 from rfl, e6, clV_ok, e7, clI_ok, ← hh8]
  · unfold pLate
    rcases pn_split (lo := 0) (hi := 999) cp.ok gp with ⟨t1, g1, r1, rfl, n1, ok1, gp1, h1', k1, p1⟩ | ⟨g, k1, p1⟩
    · rw [k1] at c8
      rw [bd_l p1]
      rcases pk_split (k := 16) (by decide) ok1 gp1 with ⟨g2, r2, rfl, ok2, gp2, h2', k2, p2⟩ | ⟨g, k2, p2⟩
      · rw [k2] at c8
        rw [bd_l p2]
        rcases pn_split (lo := 1) (hi := 240) ok2 gp2 with ⟨t3, g3, r3, rfl, n3, ok3, gp3, h3', k3, p3⟩ | ⟨g, k3, p3⟩
        · rw [k3] at c8
          rw [bd_l p3]
          rcases pk_split (k := 18) (by decide) ok3 gp3 with ⟨g4, r4, rfl, ok4, gp4, h4', k4, p4⟩ | ⟨g, k4, p4⟩
          · rw [k4] at c8
            rw [bd_l p4]
            rcases pn_split (lo := 0) (hi := 240) ok4 gp4 with ⟨t5, g5, r5, rfl, n5, ok5, gp5, h5', k5, p5⟩ | ⟨g, k5, p5⟩
            · rw [k5] at c8
              rw [bd_l p5]
              have q1 := v1 t1 g1 _ rfl n1
              have q3 := v4 t3 g3 _ ((congrArg (tkP _) k1).trans k2) n3
              have q5 := v7 t5 g5 r5 (by rw [k1, k2, k3, k4]) n5
              rw [q1, q3, q5] at l8
              exact ⟨c8, gp5, b, by show 3 * b ≤ hdP r5; omega, l8⟩
            · rw [k5] at c8
              rw [bd_r p5]; exact ⟨c8, l8.rf⟩
          · rw [k4] at c8
            rw [bd_r p4]; exact ⟨c8, l8.rf⟩
        · rw [k3] at c8
          rw [bd_r p3]; exact ⟨c8, l8.rf⟩
      · rw [k2] at c8
        rw [bd_r p2]; exact ⟨c8, l8.rf⟩
    · rw [k1] at c8
      rw [bd_r p1]; exact ⟨c8, l8.rf⟩
end CRules

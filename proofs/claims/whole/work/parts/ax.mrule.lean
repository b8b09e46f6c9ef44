/-! RULES, on the reference's side: one, by its word -/
section MRule
variable {L : Nat} {scr : Nat → Int32} {d : Nat}
theorem m_rule {h : MH} {v : Nat → Nat} {n p b t g : Nat} {r : List (Nat × Nat)} {S : LSt} (hR : S.2.1 < 40) (a : AtM h v n p) (lw : LwM h b S) (e : lex v n p = (t, g) :: r) (b3 : 3 * b ≤ g + 6750) : ∃ h2, E L scr (d + 31) 227 [vR 900012 0] h = some (some (vI (zb (okR (pRule S ((t, g) :: r))))), h2) ∧ UM h h2 ∧ KM h2 v n (pRule S ((t, g) :: r)) := by
  obtain ⟨g0, hg0⟩ : ∃ g0, g0 = sI h 1306 0 0 0 := ⟨_, rfl⟩
  have a0 : AtM g0 v n p := by rw [hg0]; exact a.rw' (W := [(1306, 0)]) ((Upd.rf _ h).sI (by decide)) (by decide)
  have l0 : LwM g0 b S := by rw [hg0]; exact lw.dp
  have u0 : UM h g0 := by rw [hg0]; exact ⟨(Upd.rf _ h).sI (by decide), FrD.of (W := [(1306, 0)]) ((Upd.rf _ h).sI (by decide)) (by decide)⟩
  have d0 : hI g0 1306 0 0 = nI 0 := by rw [hg0, hI_rs, up_s]; rfl
  have e0 := e
  have pr : pRule S ((t, g) :: r) = if t = 8 then pPrice S r else if t = 9 then pBusy S r else if t = 10 then pDeposit S r else if t = 11 then pLate S r else if t = 1 then pOneN 15 100 S r else if t = 12 then pRight S r else if t = 13 then pOneN 16 999 S r else if t = 14 then pHarm S r else if t = 15 then pShutR S r else .inr g := rfl
  obtain ⟨g1, q1, u1, a1, ⟨e1, ⟨gz, lz⟩, -, y1⟩ | ⟨e1, -, lx1, no1⟩⟩ := m_wd (L := L) (scr := scr) (d := d + 27) (s := 8) (by decide) a0
  · replace e1 : E L scr (d + 30) 210 [vR 900012 0, vL 482955846501] g0 = some (some (vI 1), g1) := e1
    rw [e0] at lz y1
    injection lz with lz1 lz2
    injection lz1 with lz1 _
    have pe : pRule S ((t, g) :: r) = pPrice S (lex v n q1) := by rw [pr, if_pos lz1, lz2]
    rw [pe]
    replace y1 : g ≤ _ := y1
    obtain ⟨h2, eX, uX, mX⟩ := m_price (L := L) (scr := scr) (d := d + 25)  a1 (l0.lx u1) (by omega)
    replace eX : E L scr (d + 30) 221 [vR 900012 0] g1 = some (some (vI (zb (okR (pPrice S (lex v n q1))))), h2) := eX
    refine ⟨h2, r_M_rule_0 (d := d + 30) _ _ (Sm.ret ?_), (u0.tr u1.um).tr uX, mX⟩
    rw [t_M_rule_0_0, ← hg0, e1, clI_ok, if_neg i0n1, eX, clI_ok, rtZ_ok]
  replace e1 : E L scr (d + 30) 210 [vR 900012 0, vL 482955846501] g0 = some (some (vI 0), g1) := e1
  rw [e0] at lx1
  have t8 : t ≠ 8 := fun z => no1 g r (by rw [e0, z])
  clear e0 no1
  have e0 := lx1
  have l1 := l0.lx u1
  have d1 : hI g1 1306 0 0 = nI 0 := by rw [u1.2 _ _ (by decide)]; exact d0
  have uu1 : Upd WLx g0 g1 := u1
  obtain ⟨g2, q2, u2, a2, ⟨e2, ⟨gz, lz⟩, -, y2⟩ | ⟨e2, -, lx2, no2⟩⟩ := m_wd (L := L) (scr := scr) (d := d + 27) (s := 9) (by decide) a1
  · replace e2 : E L scr (d + 30) 210 [vR 900012 0, vL 1651864441] g1 = some (some (vI 1), g2) := e2
    rw [e0] at lz y2
    injection lz with lz1 lz2
    injection lz1 with lz1 _
    have pe : pRule S ((t, g) :: r) = pBusy S (lex v n q2) := by rw [pr, if_neg t8, if_pos lz1, lz2]
    rw [pe]
    replace y2 : g ≤ _ := y2
    obtain ⟨h2, eX, uX, mX⟩ := m_busy (L := L) (scr := scr) (d := d) hR a2 (l1.lx u2) (by omega)
    replace eX : E L scr (d + 30) 226 [vR 900012 0, vI 0] g2 = some (some (vI (zb (okR (pBusy S (lex v n q2))))), h2) := eX
    refine ⟨h2, r_M_rule_0 (d := d + 30) _ _ (Sm.ret ?_), (u0.tr (uu1.tr u2).um).tr uX, mX⟩
    rw [t_M_rule_0_0, ← hg0, e1, clI_ok, if_pos rfl, e2, clI_ok, if_neg i0n1, eX, clI_ok, rtZ_ok]
  replace e2 : E L scr (d + 30) 210 [vR 900012 0, vL 1651864441] g1 = some (some (vI 0), g2) := e2
  rw [e0] at lx2
  have t9 : t ≠ 9 := fun z => no2 g r (by rw [e0, z])
  clear e0 no2
  have e0 := lx2
  have l2 := l1.lx u2
  have d2 : hI g2 1306 0 0 = nI 0 := by rw [u2.2 _ _ (by decide)]; exact d1
  have uu2 : Upd WLx g0 g2 := uu1.tr u2
  obtain ⟨g3, q3, u3, a3, ⟨e3, ⟨gz, lz⟩, -, y3⟩ | ⟨e3, -, lx3, no3⟩⟩ := m_wd (L := L) (scr := scr) (d := d + 27) (s := 10) (by decide) a2
  · replace e3 : E L scr (d + 30) 210 [vR 900012 0, vL 28259031251642740] g2 = some (some (vI 1), g3) := e3
    rw [e0] at lz y3
    injection lz with lz1 lz2
    injection lz1 with lz1 _
    have pe : pRule S ((t, g) :: r) = pDeposit S (lex v n q3) := by rw [pr, if_neg t8, if_neg t9, if_pos lz1, lz2]
    rw [pe]
    replace y3 : g ≤ _ := y3
    obtain ⟨h2, eX, uX, mX⟩ := m_deposit (L := L) (scr := scr) (d := d + 25)  a3 (l2.lx u3) (by omega)
    replace eX : E L scr (d + 30) 222 [vR 900012 0] g3 = some (some (vI (zb (okR (pDeposit S (lex v n q3))))), h2) := eX
    refine ⟨h2, r_M_rule_0 (d := d + 30) _ _ (Sm.ret ?_), (u0.tr (uu2.tr u3).um).tr uX, mX⟩
    rw [t_M_rule_0_0, ← hg0, e1, clI_ok, if_pos rfl, e2, clI_ok, if_pos rfl, e3, clI_ok, if_neg i0n1, eX, clI_ok, rtZ_ok]
  replace e3 : E L scr (d + 30) 210 [vR 900012 0, vL 28259031251642740] g2 = some (some (vI 0), g3) := e3
  rw [e0] at lx3
  have t10 : t ≠ 10 := fun z => no3 g r (by rw [e0, z])
  clear e0 no3
  have e0 := lx3
  have l3 := l2.lx u3
  have d3 : hI g3 1306 0 0 = nI 0 := by rw [u3.2 _ _ (by decide)]; exact d2
  have uu3 : Upd WLx g0 g3 := uu2.tr u3
  obtain ⟨g4, q4, u4, a4, ⟨e4, ⟨gz, lz⟩, -, y4⟩ | ⟨e4, -, lx4, no4⟩⟩ := m_wd (L := L) (scr := scr) (d := d + 27) (s := 11) (by decide) a3
  · replace e4 : E L scr (d + 30) 210 [vR 900012 0, vL 1818326117] g3 = some (some (vI 1), g4) := e4
    rw [e0] at lz y4
    injection lz with lz1 lz2
    injection lz1 with lz1 _
    have pe : pRule S ((t, g) :: r) = pLate S (lex v n q4) := by rw [pr, if_neg t8, if_neg t9, if_neg t10, if_pos lz1, lz2]
    rw [pe]
    replace y4 : g ≤ _ := y4
    obtain ⟨h2, eX, uX, mX⟩ := m_late (L := L) (scr := scr) (d := d + 25)  a4 (l3.lx u4) (by omega)
    replace eX : E L scr (d + 30) 223 [vR 900012 0] g4 = some (some (vI (zb (okR (pLate S (lex v n q4))))), h2) := eX
    refine ⟨h2, r_M_rule_0 (d := d + 30) _ _ (Sm.ret ?_), (u0.tr (uu3.tr u4).um).tr uX, mX⟩
    rw [t_M_rule_0_0, ← hg0, e1, clI_ok, if_pos rfl, e2, clI_ok, if_pos rfl, e3, clI_ok, if_pos rfl, e4, clI_ok, if_neg i0n1, eX, clI_ok, rtZ_ok]
  replace e4 : E L scr (d + 30) 210 [vR 900012 0, vL 1818326117] g3 = some (some (vI 0), g4) := e4
  rw [e0] at lx4
  have t11 : t ≠ 11 := fun z => no4 g r (by rw [e0, z])
  clear e0 no4
  have e0 := lx4
  have l4 := l3.lx u4
  have d4 : hI g4 1306 0 0 = nI 0 := by rw [u4.2 _ _ (by decide)]; exact d3
  have uu4 : Upd WLx g0 g4 := uu3.tr u4
  obtain ⟨g5, q5, u5, a5, ⟨e5, ⟨gz, lz⟩, -, y5⟩ | ⟨e5, -, lx5, no5⟩⟩ := m_wd (L := L) (scr := scr) (d := d + 27) (s := 1) (by decide) a4
  · replace e5 : E L scr (d + 30) 210 [vR 900012 0, vL 1918986606] g4 = some (some (vI 1), g5) := e5
    rw [e0] at lz y5
    injection lz with lz1 lz2
    injection lz1 with lz1 _
    have pe : pRule S ((t, g) :: r) = pOneN 15 100 S (lex v n q5) := by rw [pr, if_neg t8, if_neg t9, if_neg t10, if_neg t11, if_pos lz1, lz2]
    rw [pe]
    replace y5 : g ≤ _ := y5
    obtain ⟨h2, eX, uX, mX⟩ := m_one (L := L) (scr := scr) (d := d + 25) (i := 15) (hi := 100) (by decide) (by decide) a5 (l4.lx u5) (by omega)
    replace eX : E L scr (d + 30) 225 [vR 900012 0, vI 15, vI 100] g5 = some (some (vI (zb (okR (pOneN 15 100 S (lex v n q5))))), h2) := eX
    refine ⟨h2, r_M_rule_0 (d := d + 30) _ _ (Sm.ret ?_), (u0.tr (uu4.tr u5).um).tr uX, mX⟩
    rw [t_M_rule_0_0, ← hg0, e1, clI_ok, if_pos rfl, e2, clI_ok, if_pos rfl, e3, clI_ok, if_pos rfl, e4, clI_ok, if_pos rfl, e5, clI_ok, if_neg i0n1, eX, clI_ok, rtZ_ok]
  replace e5 : E L scr (d + 30) 210 [vR 900012 0, vL 1918986606] g4 = some (some (vI 0), g5) := e5
  rw [e0] at lx5
  have t1 : t ≠ 1 := fun z => no5 g r (by rw [e0, z])
  clear e0 no5
  have e0 := lx5
  have l5 := l4.lx u5
  have d5 : hI g5 1306 0 0 = nI 0 := by rw [u5.2 _ _ (by decide)]; exact d4
  have uu5 : Upd WLx g0 g5 := uu4.tr u5
  obtain ⟨g6, q6, u6, a6, ⟨e6, ⟨gz, lz⟩, -, y6⟩ | ⟨e6, -, lx6, no6⟩⟩ := m_wd (L := L) (scr := scr) (d := d + 27) (s := 12) (by decide) a5
  · replace e6 : E L scr (d + 30) 210 [vR 900012 0, vL 491394656372] g5 = some (some (vI 1), g6) := e6
    rw [e0] at lz y6
    injection lz with lz1 lz2
    injection lz1 with lz1 _
    have pe : pRule S ((t, g) :: r) = pRight S (lex v n q6) := by rw [pr, if_neg t8, if_neg t9, if_neg t10, if_neg t11, if_neg t1, if_pos lz1, lz2]
    rw [pe]
    replace y6 : g ≤ _ := y6
    obtain ⟨h2, eX, uX, mX⟩ := m_right (L := L) (scr := scr) (d := d + 25)  a6 (l5.lx u6) (by omega)
    replace eX : E L scr (d + 30) 224 [vR 900012 0] g6 = some (some (vI (zb (okR (pRight S (lex v n q6))))), h2) := eX
    refine ⟨h2, r_M_rule_0 (d := d + 30) _ _ (Sm.ret ?_), (u0.tr (uu5.tr u6).um).tr uX, mX⟩
    rw [t_M_rule_0_0, ← hg0, e1, clI_ok, if_pos rfl, e2, clI_ok, if_pos rfl, e3, clI_ok, if_pos rfl, e4, clI_ok, if_pos rfl, e5, clI_ok, if_pos rfl, e6, clI_ok, if_neg i0n1, eX, clI_ok, rtZ_ok]
  replace e6 : E L scr (d + 30) 210 [vR 900012 0, vL 491394656372] g5 = some (some (vI 0), g6) := e6
  rw [e0] at lx6
  have t12 : t ≠ 12 := fun z => no6 g r (by rw [e0, z])
  clear e0 no6
  have e0 := lx6
  have l6 := l5.lx u6
  have d6 : hI g6 1306 0 0 = nI 0 := by rw [u6.2 _ _ (by decide)]; exact d5
  have uu6 : Upd WLx g0 g6 := uu5.tr u6
  obtain ⟨g7, q7, u7, a7, ⟨e7, ⟨gz, lz⟩, -, y7⟩ | ⟨e7, -, lx7, no7⟩⟩ := m_wd (L := L) (scr := scr) (d := d + 27) (s := 13) (by decide) a6
  · replace e7 : E L scr (d + 30) 210 [vR 900012 0, vL 27995161227784046] g6 = some (some (vI 1), g7) := e7
    rw [e0] at lz y7
    injection lz with lz1 lz2
    injection lz1 with lz1 _
    have pe : pRule S ((t, g) :: r) = pOneN 16 999 S (lex v n q7) := by rw [pr, if_neg t8, if_neg t9, if_neg t10, if_neg t11, if_neg t1, if_neg t12, if_pos lz1, lz2]
    rw [pe]
    replace y7 : g ≤ _ := y7
    obtain ⟨h2, eX, uX, mX⟩ := m_one (L := L) (scr := scr) (d := d + 25) (i := 16) (hi := 999) (by decide) (by decide) a7 (l6.lx u7) (by omega)
    replace eX : E L scr (d + 30) 225 [vR 900012 0, vI 16, vI 999] g7 = some (some (vI (zb (okR (pOneN 16 999 S (lex v n q7))))), h2) := eX
    refine ⟨h2, r_M_rule_0 (d := d + 30) _ _ (Sm.ret ?_), (u0.tr (uu6.tr u7).um).tr uX, mX⟩
    rw [t_M_rule_0_0, ← hg0, e1, clI_ok, if_pos rfl, e2, clI_ok, if_pos rfl, e3, clI_ok, if_pos rfl, e4, clI_ok, if_pos rfl, e5, clI_ok, if_pos rfl, e6, clI_ok, if_pos rfl, e7, clI_ok, if_neg i0n1, eX, clI_ok, rtZ_ok]
  replace e7 : E L scr (d + 30) 210 [vR 900012 0, vL 27995161227784046] g6 = some (some (vI 0), g7) := e7
  rw [e0] at lx7
  have t13 : t ≠ 13 := fun z => no7 g r (by rw [e0, z])
  clear e0 no7
  have e0 := lx7
  have l7 := l6.lx u7
  have d7 : hI g7 1306 0 0 = nI 0 := by rw [u7.2 _ _ (by decide)]; exact d6
  have uu7 : Upd WLx g0 g7 := uu6.tr u7
  obtain ⟨g8, q8, u8, a8, ⟨e8, ⟨gz, lz⟩, -, y8⟩ | ⟨e8, -, lx8, no8⟩⟩ := m_wd (L := L) (scr := scr) (d := d + 27) (s := 14) (by decide) a7
  · replace e8 : E L scr (d + 30) 210 [vR 900012 0, vL 1751216749] g7 = some (some (vI 1), g8) := e8
    rw [e0] at lz y8
    injection lz with lz1 lz2
    injection lz1 with lz1 _
    have pe : pRule S ((t, g) :: r) = pHarm S (lex v n q8) := by rw [pr, if_neg t8, if_neg t9, if_neg t10, if_neg t11, if_neg t1, if_neg t12, if_neg t13, if_pos lz1, lz2]
    rw [pe]
    replace y8 : g ≤ _ := y8
    obtain ⟨h2, eX, uX, mX⟩ := m_harm (L := L) (scr := scr) (d := d) hR a8 (l7.lx u8) (by omega) (by rw [u8.2 _ _ (by decide)]; exact d7)
    replace eX : E L scr (d + 30) 226 [vR 900012 0, vI 1] g8 = some (some (vI (zb (okR (pHarm S (lex v n q8))))), h2) := eX
    refine ⟨h2, r_M_rule_0 (d := d + 30) _ _ (Sm.ret ?_), (u0.tr (uu7.tr u8).um).tr uX, mX⟩
    rw [t_M_rule_0_0, ← hg0, e1, clI_ok, if_pos rfl, e2, clI_ok, if_pos rfl, e3, clI_ok, if_pos rfl, e4, clI_ok, if_pos rfl, e5, clI_ok, if_pos rfl, e6, clI_ok, if_pos rfl, e7, clI_ok, if_pos rfl, e8, clI_ok, if_neg i0n1, eX, clI_ok, rtZ_ok]
  replace e8 : E L scr (d + 30) 210 [vR 900012 0, vL 1751216749] g7 = some (some (vI 0), g8) := e8
  rw [e0] at lx8
  have t14 : t ≠ 14 := fun z => no8 g r (by rw [e0, z])
  clear e0 no8
  have e0 := lx8
  have l8 := l7.lx u8
  have d8 : hI g8 1306 0 0 = nI 0 := by rw [u8.2 _ _ (by decide)]; exact d7
  have uu8 : Upd WLx g0 g8 := uu7.tr u8
  obtain ⟨g9, q9, u9, a9, ⟨e9, ⟨gz, lz⟩, -, y9⟩ | ⟨e9, -, lx9, no9⟩⟩ := m_wd (L := L) (scr := scr) (d := d + 27) (s := 15) (by decide) a8
  · replace e9 : E L scr (d + 30) 210 [vR 900012 0, vL 1936225652] g8 = some (some (vI 1), g9) := e9
    rw [e0] at lz y9
    injection lz with lz1 lz2
    injection lz1 with lz1 _
    have pe : pRule S ((t, g) :: r) = pShutR S (lex v n q9) := by rw [pr, if_neg t8, if_neg t9, if_neg t10, if_neg t11, if_neg t1, if_neg t12, if_neg t13, if_neg t14, if_pos lz1, lz2]
    rw [pe]
    replace y9 : g ≤ _ := y9
    obtain ⟨h2, eX, uX, mX⟩ := m_shut (L := L) (scr := scr) (d := d) hR a9 (l8.lx u9) (by omega) (by rw [u9.2 _ _ (by decide)]; exact d8)
    replace eX : E L scr (d + 30) 226 [vR 900012 0, vI 2] g9 = some (some (vI (zb (okR (pShutR S (lex v n q9))))), h2) := eX
    refine ⟨h2, r_M_rule_0 (d := d + 30) _ _ (Sm.ret ?_), (u0.tr (uu8.tr u9).um).tr uX, mX⟩
    rw [t_M_rule_0_0, ← hg0, e1, clI_ok, if_pos rfl, e2, clI_ok, if_pos rfl, e3, clI_ok, if_pos rfl, e4, clI_ok, if_pos rfl, e5, clI_ok, if_pos rfl, e6, clI_ok, if_pos rfl, e7, clI_ok, if_pos rfl, e8, clI_ok, if_pos rfl, e9, clI_ok, if_neg i0n1, eX, clI_ok]
    cases okR (pShutR S (lex v n q9)) <;> rfl
  replace e9 : E L scr (d + 30) 210 [vR 900012 0, vL 1936225652] g8 = some (some (vI 0), g9) := e9
  rw [e0] at lx9
  have t15 : t ≠ 15 := fun z => no9 g r (by rw [e0, z])
  clear e0 no9
  have e0 := lx9
  have l9 := l8.lx u9
  have d9 : hI g9 1306 0 0 = nI 0 := by rw [u9.2 _ _ (by decide)]; exact d8
  have uu9 : Upd WLx g0 g9 := uu8.tr u9
  have pe : pRule S ((t, g) :: r) = .inr g := by rw [pr, if_neg t8, if_neg t9, if_neg t10, if_neg t11, if_neg t1, if_neg t12, if_neg t13, if_neg t14, if_neg t15]
  rw [pe]
  refine ⟨g9, r_M_rule_0 (d := d + 30) _ _ (Sm.ret ?_), u0.tr uu9.um, q9, a9, by rw [e0]; rfl⟩
  rw [t_M_rule_0_0, ← hg0, e1, clI_ok, if_pos rfl, e2, clI_ok, if_pos rfl, e3, clI_ok, if_pos rfl, e4, clI_ok, if_pos rfl, e5, clI_ok, if_pos rfl, e6, clI_ok, if_pos rfl, e7, clI_ok, if_pos rfl, e8, clI_ok, if_pos rfl, e9, clI_ok, if_pos rfl, rtZ0]; rfl
end MRule

/-! RULES, on the reference's side: busy hours, harm, shut -/
theorem LwM.cd {h h2 : MH} {b b2 : Nat} {S : LSt} (lw : LwM h b S) (u : Upd WCq h h2) (es : hI h2 1302 0 0 = nI b2) (bb : b ≤ b2) (kj : ∀ j, j < b → hI h2 1317002700 0 j = hI h 1317002700 0 j ∧ hI h2 1318002700 0 j = hI h 1318002700 0 j ∧ hI h2 1319002700 0 j = hI h 1319002700 0 j) : LwM h2 b2 S := by
  obtain ⟨q1, q2, q3, q4, q5, q6⟩ := lw
  refine ⟨fun j hj => by rw [u.2 _ _ (by decide)]; exact q1 j hj, q2, by rw [u.2 _ _ (by decide)]; exact q3, es, by omega, fun i hi => (q6 i hi).cg bb (fun s hs => ?_) kj⟩
  rw [u.2 s 0 (fun z => (by decide : ∀ s, s ∈ clS → s ∉ WCq.map Prod.fst) s hs (List.mem_map_of_mem (f := Prod.fst) z))]
section MClause
variable {L : Nat} {scr : Nat → Int32} {d : Nat}
theorem AtM.cl {h : MH} {v : Nat → Nat} {n p i s : Nat} {x : Int32} (hs : s ∈ clS) (a : AtM h v n p) : AtM (sI h s 0 i x) v n p := a.rw' (W := [(s, 0)]) ((Upd.rf _ h).sI (List.mem_singleton.mpr rfl)) (fun q hq z => (by decide : ∀ q, q ∈ [(1304, 0), (1323100900, 0), (1305, 0)] → q.1 ∉ clS) q hq (by rw [List.mem_singleton.mp z]; exact hs))
theorem m_busy {h : MH} {v : Nat → Nat} {n p b : Nat} {S : LSt} (hR : S.2.1 < 40) (a : AtM h v n p) (lw : LwM h b S) (b3 : 3 * b ≤ hdP (lex v n p) + 6750) : ∃ h2, E L scr (d + 30) 226 [vR 900012 0, vI 0] h = some (some (vI (zb (okR (pBusy S (lex v n p))))), h2) ∧ UM h h2 ∧ KM h2 v n (pBusy S (lex v n p)) := by
  obtain ⟨k, hk⟩ : ∃ k, k = 200 + S.2.1 := ⟨_, rfl⟩
  have ob : ¬ oob (nI k) 240 := oob_nI (by omega) (by decide)
  have ixk : ix (nI k) = k := ix_nI (by omega)
  have eR := lw.2.2.1
  have eb := lw.2.2.2.1
  have b5 := lw.2.2.2.2.1
  have ek : (200 : Int32) + nI S.2.1 = nI k := by rw [show (200 : Int32) = nI 200 from rfl, nI_add, hk]
  have ob5 : ¬ oob (5 : Int32) 6 := by decide
  have ix5 : ix (5 : Int32) = 5 := by decide
  obtain ⟨g1, hg1⟩ : ∃ g1, g1 = sI h 1311000240 0 k 0 := ⟨_, rfl⟩
  have a1 : AtM g1 v n p := by rw [hg1]; exact a.cl (by decide)
  have l1 : LwM g1 b S := by rw [hg1, hk]; exact lw.cl (by decide)
  have u1 : UM h g1 := by rw [hg1]; exact (UM.rf h).cl (by decide) (by omega)
  unfold pBusy
  obtain ⟨g2, q2, u2, a2, ⟨x2, e2, p2, r2, y2, -, z2⟩ | ⟨e2, p2⟩⟩ := m_num (L := L) (scr := scr) (d := d + 27) (lo := 0) (hi := 719) (by decide) (by decide) a1
  · replace e2 : E L scr (d + 29) 212 [vR 900012 0, vI 0, vI 719] g1 = some (some (vI 1), g2) := e2
    rw [bd_l p2]
    obtain ⟨g3, hg3⟩ : ∃ g3, g3 = sI g2 1312000240 0 k (nI x2) := ⟨_, rfl⟩
    have a3 : AtM g3 v n q2 := by rw [hg3]; exact a2.cl (by decide)
    have l3 : LwM g3 b S := by rw [hg3, hk]; exact (l1.lx u2).cl (by decide)
    have u3 : UM h g3 := by rw [hg3]; exact (u1.tr u2.um).cl (by decide) (by omega)
    obtain ⟨g4, q4, u4, a4, ⟨e4, -, p4, y4⟩ | ⟨e4, p4, -, -⟩⟩ := m_wd (L := L) (scr := scr) (d := d + 26) (s := 17) (by decide) a3
    · replace e4 : E L scr (d + 29) 210 [vR 900012 0, vL 29807] g3 = some (some (vI 1), g4) := e4
      rw [bd_l p4]
      have f4 : hI g4 1312000240 0 k = nI x2 := by rw [u4.2 _ _ (by decide), hg3, hI_rs, up_s]
      obtain ⟨g5, q5, u5, a5, ⟨x5, e5, p5, r5, y5, -, z5⟩ | ⟨e5, p5⟩⟩ := m_num (L := L) (scr := scr) (d := d + 27) (lo := x2) (hi := 719) (by omega) (by decide) a4
      · replace e5 : E L scr (d + 29) 212 [vR 900012 0, vI (nI x2), vI 719] g4 = some (some (vI 1), g5) := e5
        rw [bd_l p5]
        obtain ⟨g6, hg6⟩ : ∃ g6, g6 = sI g5 1313000240 0 k (nI x5) := ⟨_, rfl⟩
        obtain ⟨g7, hg7⟩ : ∃ g7, g7 = sI g6 1314000240 0 k 0 := ⟨_, rfl⟩
        have a7 : AtM g7 v n q5 := by rw [hg7, hg6]; exact (a5.cl (by decide)).cl (by decide)
        have l6 : LwM g6 b S := by rw [hg6, hk]; exact ((l3.lx u4).lx u5).cl (by decide)
        have l7 : LwM g7 b S := by rw [hg7, hk]; exact l6.cl (by decide)
        have u7 : UM h g7 := by rw [hg7, hg6]; exact ((u3.tr (u4.tr u5).um).cl (by decide) (by omega)).cl (by decide) (by omega)
        have c0 : dn L scr (E L scr (d + 29)) B_M_clauseTold C_M_clauseTold 0 [some (vR 900012 0), some (vI 0), none] [] h = some (.inl (4, [some (vR 900012 0), some (vI 0), some (vI (nI k))], [], g6)) := by
          rw [t_M_clauseTold_0, rd_M_clauses ob5, ix5, eR, ek, wr_M_clauseKind ob, ixk, ← hg1, if_pos rfl, e2, clI_ok, if_neg i0n1, r2, wr_M_clauseFrom ob, ixk, ← hg3, e4, clI_ok, if_neg i0n1, rd_M_clauseFrom ob, ixk, f4, e5, clI_ok, if_neg i0n1, r5, wr_M_clauseTo ob, ixk, ← hg6]
        obtain ⟨g8, q8, u8, a8, ⟨x8, e8, p8, r8, y8, -, z8⟩ | ⟨e8, p8⟩⟩ := m_num (L := L) (scr := scr) (d := d + 27) (lo := 0) (hi := 100) (by decide) (by decide) a7
        · replace e8 : E L scr (d + 29) 212 [vR 900012 0, vI 0, vI 100] g7 = some (some (vI 1), g8) := e8
          rw [bd_l p8]
          obtain ⟨g9, hg9⟩ : ∃ g9, g9 = sI g8 1314000240 0 k (nI x8) := ⟨_, rfl⟩
          have l9 : LwM g9 b S := by rw [hg9, hk]; exact (l7.lx u8).cl (by decide)
          obtain ⟨g10, hg10⟩ : ∃ g10, g10 = sI g9 1315000240 0 k (nI b) := ⟨_, rfl⟩
          have l10 : LwM g10 b S := by rw [hg10, hk]; exact l9.cl (by decide)
          obtain ⟨g11, hg11⟩ : ∃ g11, g11 = sI g10 1316000240 0 k (nI b) := ⟨_, rfl⟩
          have l11 : LwM g11 b S := by rw [hg11, hk]; exact l10.cl (by decide)
          have a11 : AtM g11 v n q8 := by rw [hg11, hg10, hg9]; exact ((a8.cl (by decide)).cl (by decide)).cl (by decide)
          have u11 : UM h g11 := by rw [hg11, hg10, hg9]; exact (((u7.tr u8.um).cl (by decide) (by omega)).cl (by decide) (by omega)).cl (by decide) (by omega)
          have k1 : hI g11 1311000240 0 k = nI 0 := by rw [hg11, hI_rn (by decide), hg10, hI_rn (by decide), hg9, hI_rn (by decide), u8.2 _ _ (by decide), hg7, hI_rn (by decide), hg6, hI_rn (by decide), u5.2 _ _ (by decide), u4.2 _ _ (by decide), hg3, hI_rn (by decide), u2.2 _ _ (by decide), hg1, hI_rs, up_s]; rfl
          have k2 : hI g11 1314000240 0 k = nI x8 := by rw [hg11, hI_rn (by decide), hg10, hI_rn (by decide), hg9, hI_rs, up_s]
          have k3 : hI g11 1312000240 0 k = nI x2 := by rw [hg11, hI_rn (by decide), hg10, hI_rn (by decide), hg9, hI_rn (by decide), u8.2 _ _ (by decide), hg7, hI_rn (by decide), hg6, hI_rn (by decide), u5.2 _ _ (by decide), f4]
          have k4 : hI g11 1313000240 0 k = nI x5 := by rw [hg11, hI_rn (by decide), hg10, hI_rn (by decide), hg9, hI_rn (by decide), u8.2 _ _ (by decide), hg7, hI_rn (by decide), hg6, hI_rs, up_s]
          have k5 : hI g11 1315000240 0 k = nI b := by rw [hg11, hI_rn (by decide), hg10, hI_rs, up_s]
          have k6 : hI g11 1316000240 0 k = nI b := by rw [hg11, hI_rs, up_s]
          rw [hk] at k1 k2 k3 k4 k5 k6
          refine ⟨sI g11 1310000006 0 5 (nI (S.2.1 + 1)), r_M_clauseTold (d := d + 29) _ _ _ (Sm.step c0 (Sm.step (t' := 7) (lo' := [some (vR 900012 0), some (vI 0), some (vI (nI k))]) (st' := []) (h' := g10) ?_ (Sm.ret ?_))), u11.cls, q8, b, a11.rw' (W := [(1310000006, 0)]) ((Upd.rf _ _).sI (by decide)) (by decide), rfl, by show 3 * b ≤ hdP (lex v n q8) + 6750; omega, l11.add (s := 0) hR (by decide) z8 k1 k2 (fun _ => ⟨k3, k4⟩) k5 k6 ⟨b5, b5, Nat.le_refl _, Nat.le_refl _⟩ (fun z => absurd rfl z)⟩
          · rw [t_M_clauseTold_4, wr_M_clausePart ob, ixk, ← hg7, if_neg (by decide), e8, clI_ok, if_neg i0n1, r8, wr_M_clausePart ob, ixk, ← hg9, l9.2.2.2.1, wr_M_stepFrom ob, ixk, ← hg10, if_neg (by decide)]
          · rw [t_M_clauseTold_7, if_pos rfl, l10.2.2.2.1, wr_M_stepTo ob, ixk, ← hg11, rd_M_clauses ob5, ix5, l11.2.2.1, wr_M_clauses ob5, ix5, nI_1, rtZ1]; rfl
        · replace e8 : E L scr (d + 29) 212 [vR 900012 0, vI 0, vI 100] g7 = some (some (vI 0), g8) := e8
          rw [bd_r p8]
          refine ⟨g8, r_M_clauseTold (d := d + 29) _ _ _ (Sm.step c0 (Sm.ret ?_)), u7.tr u8.um, q8, a8, rfl⟩
          rw [t_M_clauseTold_4, wr_M_clausePart ob, ixk, ← hg7, if_neg (by decide), e8, clI_ok, if_pos rfl, rtZ0]; rfl
      · replace e5 : E L scr (d + 29) 212 [vR 900012 0, vI (nI x2), vI 719] g4 = some (some (vI 0), g5) := e5
        rw [bd_r p5]
        refine ⟨g5, r_M_clauseTold (d := d + 29) _ _ _ (Sm.ret ?_), u3.tr (u4.tr u5).um, q5, a5, rfl⟩
        rw [t_M_clauseTold_0, rd_M_clauses ob5, ix5, eR, ek, wr_M_clauseKind ob, ixk, ← hg1, if_pos rfl, e2, clI_ok, if_neg i0n1, r2, wr_M_clauseFrom ob, ixk, ← hg3, e4, clI_ok, if_neg i0n1, rd_M_clauseFrom ob, ixk, f4, e5, clI_ok, if_pos rfl, rtZ0]; rfl
    · replace e4 : E L scr (d + 29) 210 [vR 900012 0, vL 29807] g3 = some (some (vI 0), g4) := e4
      rw [bd_r p4]
      refine ⟨g4, r_M_clauseTold (d := d + 29) _ _ _ (Sm.ret ?_), u3.tr u4.um, q4, a4, rfl⟩
      rw [t_M_clauseTold_0, rd_M_clauses ob5, ix5, eR, ek, wr_M_clauseKind ob, ixk, ← hg1, if_pos rfl, e2, clI_ok, if_neg i0n1, r2, wr_M_clauseFrom ob, ixk, ← hg3, e4, clI_ok, if_pos rfl, rtZ0]; rfl
  · replace e2 : E L scr (d + 29) 212 [vR 900012 0, vI 0, vI 719] g1 = some (some (vI 0), g2) := e2
    rw [bd_r p2]
    refine ⟨g2, r_M_clauseTold (d := d + 29) _ _ _ (Sm.ret ?_), u1.tr u2.um, q2, a2, rfl⟩
    rw [t_M_clauseTold_0, rd_M_clauses ob5, ix5, eR, ek, wr_M_clauseKind ob, ixk, ← hg1, if_pos rfl, e2, clI_ok, if_pos rfl, rtZ0]; rfl
/-- from "if" on: its condition -/
theorem m_cut7 {h : MH} {v : Nat → Nat} {n p b s pt : Nat} {S : LSt} (hR : S.2.1 < 40) (hs : s ≤ 2) (s0 : s ≠ 0) (hp : pt ≤ 100) (a : AtM h v n p) (lw : LwM h b S) (b3 : 3 * b ≤ hdP (lex v n p) + 6750) (hd : hI h 1306 0 0 = nI 0) (k1 : hI h 1311000240 0 (200 + S.2.1) = nI s) (k2 : hI h 1314000240 0 (200 + S.2.1) = nI pt) (k5 : hI h 1315000240 0 (200 + S.2.1) = nI b) {g : Nat} {r : List (Nat × Nat)} (e19 : lex v n p = (19, g) :: r) : ∃ h2, Sm L scr (d + 29) B_M_clauseTold C_M_clauseTold 7 [some (vR 900012 0), some (vI (nI s)), some (vI (nI (200 + S.2.1)))] [] h (some (vI (zb (okR (bdP (pAny (pOne 8) r) fun c => .inl (c.1, addR S s pt 0 0 c.2))))), h2) ∧ UM h h2 ∧ KM h2 v n (bdP (pAny (pOne 8) r) fun c => .inl (c.1, addR S s pt 0 0 c.2)) := by
  obtain ⟨k, hk⟩ : ∃ k, k = 200 + S.2.1 := ⟨_, rfl⟩
  have ob : ¬ oob (nI k) 240 := oob_nI (by omega) (by decide)
  have ixk : ix (nI k) = k := ix_nI (by omega)
  have ob5 : ¬ oob (5 : Int32) 6 := by decide
  have ix5 : ix (5 : Int32) = 5 := by decide
  have sn : ¬ nI s = 0 := fun z => s0 ((nI_eq (b := 0) (by omega) (by decide)).mp z)
  obtain ⟨g1, q1, u1, a1, ⟨e1, ⟨gz, lz⟩, -, y1⟩ | ⟨-, -, -, no⟩⟩ := m_wd (L := L) (scr := scr) (d := d + 26) (s := 19) (by decide) a
  · have er : lex v n q1 = r := by
      rw [e19] at lz
      injection lz with _ lz
      exact lz.symm
    replace e1 : E L scr (d + 29) 210 [vR 900012 0, vL 26982] h = some (some (vI 1), g1) := e1
    have l1 := lw.lx u1
    have f1 : ∀ t, t ∈ clS → hI g1 t 0 = hI h t 0 := fun t ht => u1.2 t 0 (fun z => (by decide : ∀ s, s ∈ clS → s ∉ WLx.map Prod.fst) t ht (List.mem_map_of_mem (f := Prod.fst) z))
    obtain ⟨t, g0, r0, e0⟩ := lexNE (v := v) (n := n) (p := q1)
    obtain ⟨g2, e2, u2, m2⟩ := c_M_any (L := L) (scr := scr) d g1 b q1 t g0 r0 a1 e0 (by rw [u1.2 _ _ (by decide)]; exact hd) l1.2.2.2.1 (by rw [e0] at y1; replace y1 : _ ≤ g0 := y1; omega)
    rw [← e0, er] at e2 m2
    cases x : pAny (pOne 8) r with
    | inr g3 =>
      rw [x] at e2 m2
      replace e2 : E L scr (d + 29) 216 [vR 900012 0] g1 = some (some (vI 0), g2) := e2
      refine ⟨g2, Sm.ret ?_, u1.um.tr (UM.cq u2 m2.kp lw.2.2.2.2.1), by obtain ⟨qz, z1, z2, -⟩ := m2; exact ⟨qz, z1, z2⟩⟩
      rw [t_M_clauseTold_7, if_neg sn, e1, clI_ok, if_neg i0n1, e2, clI_ok, if_pos rfl, rtZ0]; rfl
    | inl y =>
      obtain ⟨r2, φ⟩ := y
      rw [x] at e2 m2
      replace e2 : E L scr (d + 29) 216 [vR 900012 0] g1 = some (some (vI 1), g2) := e2
      obtain ⟨q2, b2, a2, l2, es2, bb, bn, dd, kj, aj, sg⟩ := m2
      have lw2 := l1.cd u2 es2 (by omega) kj
      obtain ⟨g3, hg3⟩ : ∃ g3, g3 = sI g2 1316000240 0 k (nI b2) := ⟨_, rfl⟩
      have lw3 : LwM g3 b2 S := by rw [hg3, hk]; exact lw2.cl (by decide)
      have f2 : ∀ t, t ∈ clS → hI g2 t 0 = hI h t 0 := fun t ht => by rw [u2.2 t 0 (fun z => (by decide : ∀ s, s ∈ clS → s ∉ WCq.map Prod.fst) t ht (List.mem_map_of_mem (f := Prod.fst) z)), f1 t ht]
      have f3 : ∀ t, t ≠ 1316000240 → hI g3 t 0 = hI g2 t 0 := fun t ht => by rw [hg3, hI_rn (fun z => ht z.1)]
      have b5 := lw.2.2.2.2.1
      refine ⟨sI g3 1310000006 0 5 (nI (S.2.1 + 1)), Sm.ret ?_, ?_, q2, b2, ?_, l2, ?_, lw3.add hR hs hp ?_ ?_ (fun z => absurd z s0) (x := b) (y := b2) ?_ ?_ ⟨b5, by omega, Nat.le_refl _, by omega⟩ (fun _ => Or.inr ⟨rfl, fun v => SegL.cong (sg v) (fun j _ _ => ?_), fun j j1 j2 hj => ?_⟩)⟩
      · rw [← hk, t_M_clauseTold_7, if_neg sn, e1, clI_ok, if_neg i0n1, e2, clI_ok, if_neg i0n1, es2, wr_M_stepTo ob, ixk, ← hg3, rd_M_clauses ob5, ix5, lw3.2.2.1, wr_M_clauses ob5, ix5, nI_1, rtZ1]; rfl
      · rw [hg3]
        exact ((u1.um.tr (UM.cq u2 kj lw.2.2.2.2.1)).cl (by decide) (by omega)).cls
      · rw [hg3]
        exact (a2.cl (by decide)).rw' (W := [(1310000006, 0)]) ((Upd.rf _ _).sI (by decide)) (by decide)
      · rw [e0] at y1
        replace y1 : _ ≤ g0 := y1
        show 3 * b2 ≤ hdP r2 + 6750
        omega
      · rw [f3 _ (by decide), f2 _ (by decide)]; exact k1
      · rw [f3 _ (by decide), f2 _ (by decide)]; exact k2
      · rw [f3 _ (by decide), f2 _ (by decide)]; exact k5
      · rw [hg3, hI_rs, ← hk, up_s]
      · show dcM v _ _ _ = dcM v _ _ _
        rw [f3 _ (by decide), f3 _ (by decide), f3 _ (by decide)]
      · rw [f3 _ (by decide)] at hj
        rw [f3 _ (by decide)]; exact aj j j1 j2 hj
  · exact absurd e19 (no _ _)
theorem m_harm {h : MH} {v : Nat → Nat} {n p b : Nat} {S : LSt} (hR : S.2.1 < 40) (a : AtM h v n p) (lw : LwM h b S) (b3 : 3 * b ≤ hdP (lex v n p) + 6750) (hd : hI h 1306 0 0 = nI 0) : ∃ h2, E L scr (d + 30) 226 [vR 900012 0, vI 1] h = some (some (vI (zb (okR (pHarm S (lex v n p))))), h2) ∧ UM h h2 ∧ KM h2 v n (pHarm S (lex v n p)) := by
  obtain ⟨k, hk⟩ : ∃ k, k = 200 + S.2.1 := ⟨_, rfl⟩
  have ob : ¬ oob (nI k) 240 := oob_nI (by omega) (by decide)
  have ixk : ix (nI k) = k := ix_nI (by omega)
  have eR := lw.2.2.1
  have b5 := lw.2.2.2.2.1
  have ek : (200 : Int32) + nI S.2.1 = nI k := by rw [show (200 : Int32) = nI 200 from rfl, nI_add, hk]
  have ob5 : ¬ oob (5 : Int32) 6 := by decide
  have ix5 : ix (5 : Int32) = 5 := by decide
  obtain ⟨g1, hg1⟩ : ∃ g1, g1 = sI h 1311000240 0 k 1 := ⟨_, rfl⟩
  obtain ⟨g2, hg2⟩ : ∃ g2, g2 = sI g1 1314000240 0 k 0 := ⟨_, rfl⟩
  have a2 : AtM g2 v n p := by rw [hg2, hg1]; exact (a.cl (by decide)).cl (by decide)
  have l1 : LwM g1 b S := by rw [hg1, hk]; exact lw.cl (by decide)
  have l2 : LwM g2 b S := by rw [hg2, hk]; exact l1.cl (by decide)
  have u2 : UM h g2 := by rw [hg2, hg1]; exact ((UM.rf h).cl (by decide) (by omega)).cl (by decide) (by omega)
  have c0 : dn L scr (E L scr (d + 29)) B_M_clauseTold C_M_clauseTold 0 [some (vR 900012 0), some (vI 1), none] [] h = some (.inl (4, [some (vR 900012 0), some (vI 1), some (vI (nI k))], [], g1)) := by
    rw [t_M_clauseTold_0, rd_M_clauses ob5, ix5, eR, ek, wr_M_clauseKind ob, ixk, ← hg1, if_neg (by decide)]
  obtain ⟨g3, q3, u3, a3, ⟨x3, e3, p3, r3, y3, -, z3⟩ | ⟨e3, p3⟩⟩ := m_num (L := L) (scr := scr) (d := d + 27) (lo := 0) (hi := 100) (by decide) (by decide) a2
  · replace e3 : E L scr (d + 29) 212 [vR 900012 0, vI 0, vI 100] g2 = some (some (vI 1), g3) := e3
    obtain ⟨g4, hg4⟩ : ∃ g4, g4 = sI g3 1314000240 0 k (nI x3) := ⟨_, rfl⟩
    have l4 : LwM g4 b S := by rw [hg4, hk]; exact (l2.lx u3).cl (by decide)
    obtain ⟨g5, hg5⟩ : ∃ g5, g5 = sI g4 1315000240 0 k (nI b) := ⟨_, rfl⟩
    have l5 : LwM g5 b S := by rw [hg5, hk]; exact l4.cl (by decide)
    have a5 : AtM g5 v n q3 := by rw [hg5, hg4]; exact (a3.cl (by decide)).cl (by decide)
    have u5 : UM h g5 := by rw [hg5, hg4]; exact ((u2.tr u3.um).cl (by decide) (by omega)).cl (by decide) (by omega)
    have k1 : hI g5 1311000240 0 k = nI 1 := by rw [hg5, hI_rn (by decide), hg4, hI_rn (by decide), u3.2 _ _ (by decide), hg2, hI_rn (by decide), hg1, hI_rs, up_s]; rfl
    have k2 : hI g5 1314000240 0 k = nI x3 := by rw [hg5, hI_rn (by decide), hg4, hI_rs, up_s]
    have k5 : hI g5 1315000240 0 k = nI b := by rw [hg5, hI_rs, up_s]
    have d5 : hI g5 1306 0 0 = nI 0 := by rw [hg5, hI_rn (by decide), hg4, hI_rn (by decide), u3.2 _ _ (by decide), hg2, hI_rn (by decide), hg1, hI_rn (by decide)]; exact hd
    have c4 : dn L scr (E L scr (d + 29)) B_M_clauseTold C_M_clauseTold 4 [some (vR 900012 0), some (vI 1), some (vI (nI k))] [] g1 = some (.inl (7, [some (vR 900012 0), some (vI 1), some (vI (nI k))], [], g5)) := by
      rw [t_M_clauseTold_4, wr_M_clausePart ob, ixk, ← hg2, if_neg (by decide), e3, clI_ok, if_neg i0n1, r3, wr_M_clausePart ob, ixk, ← hg4, l4.2.2.2.1, wr_M_stepFrom ob, ixk, ← hg5, if_neg (by decide)]
    by_cases w : ∃ g r, lex v n q3 = (19, g) :: r
    · obtain ⟨g, r, e19⟩ := w
      rw [hk] at k1 k2 k5
      obtain ⟨h2, s2, u6, m6⟩ := m_cut7 (L := L) (scr := scr) (d := d) (s := 1) hR (by decide) (by decide) z3 a5 l5 (by omega) d5 k1 k2 k5 e19
      rw [e19] at p3
      rw [pHarm_if p3]
      rw [← hk] at s2
      exact ⟨h2, r_M_clauseTold (d := d + 29) _ _ _ (Sm.step c0 (Sm.step c4 s2)), u5.tr u6, m6⟩
    · obtain ⟨g6, q6, u6, a6, ⟨-, ⟨gz, lz⟩, -, -⟩ | ⟨e6, -, lx6, -⟩⟩ := m_wd (L := L) (scr := scr) (d := d + 26) (s := 19) (by decide) a5
      · exact absurd ⟨_, _, lz⟩ w
      · replace e6 : E L scr (d + 29) 210 [vR 900012 0, vL 26982] g5 = some (some (vI 0), g6) := e6
        rw [pHarm_no p3 (fun g r z => w ⟨g, r, z⟩)]
        have l6 := l5.lx u6
        obtain ⟨g7, hg7⟩ : ∃ g7, g7 = sI g6 1316000240 0 k (nI b) := ⟨_, rfl⟩
        have l7 : LwM g7 b S := by rw [hg7, hk]; exact l6.cl (by decide)
        have f6 : ∀ t, t ∈ clS → hI g6 t 0 = hI g5 t 0 := fun t ht => u6.2 t 0 (fun z => (by decide : ∀ s, s ∈ clS → s ∉ WLx.map Prod.fst) t ht (List.mem_map_of_mem (f := Prod.fst) z))
        have j1 : hI g7 1311000240 0 k = nI 1 := by rw [hg7, hI_rn (by decide), f6 _ (by decide)]; exact k1
        have j2 : hI g7 1314000240 0 k = nI x3 := by rw [hg7, hI_rn (by decide), f6 _ (by decide)]; exact k2
        have j5 : hI g7 1315000240 0 k = nI b := by rw [hg7, hI_rn (by decide), f6 _ (by decide)]; exact k5
        have j6 : hI g7 1316000240 0 k = nI b := by rw [hg7, hI_rs, up_s]
        rw [hk] at j1 j2 j5 j6
        refine ⟨sI g7 1310000006 0 5 (nI (S.2.1 + 1)), r_M_clauseTold (d := d + 29) _ _ _ (Sm.step c0 (Sm.step c4 (Sm.ret ?_))), ?_, q6, b, ?_, lx6, by show 3 * b ≤ hdP (lex v n q3) + 6750; omega, l7.add (s := 1) hR (by decide) z3 j1 j2 (fun z => absurd z (by decide)) j5 j6 ⟨b5, b5, Nat.le_refl _, Nat.le_refl _⟩ (fun _ => Or.inl ⟨rfl, rfl, fun _ => rfl⟩)⟩
        · rw [t_M_clauseTold_7, if_neg (by decide), e6, clI_ok, if_pos rfl, l6.2.2.2.1, wr_M_stepTo ob, ixk, ← hg7, rd_M_clauses ob5, ix5, l7.2.2.1, wr_M_clauses ob5, ix5, nI_1, rtZ1]; rfl
        · rw [hg7]
          exact ((u5.tr u6.um).cl (by decide) (by omega)).cls
        · rw [hg7]
          exact (a6.cl (by decide)).rw' (W := [(1310000006, 0)]) ((Upd.rf _ _).sI (by decide)) (by decide)
  · replace e3 : E L scr (d + 29) 212 [vR 900012 0, vI 0, vI 100] g2 = some (some (vI 0), g3) := e3
    have pe : pHarm S (lex v n p) = .inr (hdP (lex v n q3)) := by unfold pHarm; rw [bd_r p3]
    rw [pe]
    refine ⟨g3, r_M_clauseTold (d := d + 29) _ _ _ (Sm.step c0 (Sm.ret ?_)), u2.tr u3.um, q3, a3, rfl⟩
    rw [t_M_clauseTold_4, wr_M_clausePart ob, ixk, ← hg2, if_neg (by decide), e3, clI_ok, if_pos rfl, rtZ0]; rfl
theorem m_shut {h : MH} {v : Nat → Nat} {n p b : Nat} {S : LSt} (hR : S.2.1 < 40) (a : AtM h v n p) (lw : LwM h b S) (b3 : 3 * b ≤ hdP (lex v n p) + 6750) (hd : hI h 1306 0 0 = nI 0) : ∃ h2, E L scr (d + 30) 226 [vR 900012 0, vI 2] h = some (some (vI (zb (okR (pShutR S (lex v n p))))), h2) ∧ UM h h2 ∧ KM h2 v n (pShutR S (lex v n p)) := by
  obtain ⟨k, hk⟩ : ∃ k, k = 200 + S.2.1 := ⟨_, rfl⟩
  have ob : ¬ oob (nI k) 240 := oob_nI (by omega) (by decide)
  have ixk : ix (nI k) = k := ix_nI (by omega)
  have eR := lw.2.2.1
  have ek : (200 : Int32) + nI S.2.1 = nI k := by rw [show (200 : Int32) = nI 200 from rfl, nI_add, hk]
  have ob5 : ¬ oob (5 : Int32) 6 := by decide
  have ix5 : ix (5 : Int32) = 5 := by decide
  obtain ⟨g1, hg1⟩ : ∃ g1, g1 = sI h 1311000240 0 k 2 := ⟨_, rfl⟩
  obtain ⟨g2, hg2⟩ : ∃ g2, g2 = sI g1 1314000240 0 k 0 := ⟨_, rfl⟩
  obtain ⟨g3, hg3⟩ : ∃ g3, g3 = sI g2 1315000240 0 k (nI b) := ⟨_, rfl⟩
  have a3 : AtM g3 v n p := by rw [hg3, hg2, hg1]; exact ((a.cl (by decide)).cl (by decide)).cl (by decide)
  have l1 : LwM g1 b S := by rw [hg1, hk]; exact lw.cl (by decide)
  have l2 : LwM g2 b S := by rw [hg2, hk]; exact l1.cl (by decide)
  have l3 : LwM g3 b S := by rw [hg3, hk]; exact l2.cl (by decide)
  have u3 : UM h g3 := by rw [hg3, hg2, hg1]; exact (((UM.rf h).cl (by decide) (by omega)).cl (by decide) (by omega)).cl (by decide) (by omega)
  have c0 : dn L scr (E L scr (d + 29)) B_M_clauseTold C_M_clauseTold 0 [some (vR 900012 0), some (vI 2), none] [] h = some (.inl (4, [some (vR 900012 0), some (vI 2), some (vI (nI k))], [], g1)) := by
    rw [t_M_clauseTold_0, rd_M_clauses ob5, ix5, eR, ek, wr_M_clauseKind ob, ixk, ← hg1, if_neg (by decide)]
  obtain ⟨t, g, r, e⟩ := lexNE (v := v) (n := n) (p := p)
  obtain ⟨g4, q4, e4, u4, a4, nb, lx4, ew⟩ := c_M_word (L := L) (scr := scr) (d := d + 27) a3
  have hv := a4.1.2.2.2
  have cm : ((if lN (wvN (fun i => v (q4 + i)) (rnE ltB v n n q4 - q4)) < 26982 then (-1 : Int32) else if 26982 < lN (wvN (fun i => v (q4 + i)) (rnE ltB v n n q4 - q4)) then 1 else 0) = 0) ↔ t = 19 := (cmp_l (wv_lt (v := v) (q := q4) (k := rnE ltB v n n q4 - q4) hv) (wdK_ok ⟨19, by decide⟩).2).trans (tok_wd (s := 19) hv (by decide) nb (lx4.trans e)).1
  unfold pShutR
  by_cases t19 : t = 19
  · subst t19
    have p1 : pTk 19 (lex v n p) = .inl r := by rw [e]; rfl
    rw [bd_l p1]
    have c4 : dn L scr (E L scr (d + 29)) B_M_clauseTold C_M_clauseTold 4 [some (vR 900012 0), some (vI 2), some (vI (nI k))] [] g1 = some (.inl (7, [some (vR 900012 0), some (vI 2), some (vI (nI k))], [], g4)) := by
      rw [t_M_clauseTold_4, wr_M_clausePart ob, ixk, ← hg2, if_pos rfl, l2.2.2.2.1, wr_M_stepFrom ob, ixk, ← hg3, if_pos rfl, e4, clJ_ok, if_pos (cm.mpr rfl)]
    have f4 : ∀ t, t ∈ clS → hI g4 t 0 = hI g3 t 0 := fun t ht => u4.2 t 0 (fun z => (by decide : ∀ s, s ∈ clS → s ∉ WLx.map Prod.fst) t ht (List.mem_map_of_mem (f := Prod.fst) z))
    have k1 : hI g4 1311000240 0 k = nI 2 := by rw [f4 _ (by decide), hg3, hI_rn (by decide), hg2, hI_rn (by decide), hg1, hI_rs, up_s]; rfl
    have k2 : hI g4 1314000240 0 k = nI 0 := by rw [f4 _ (by decide), hg3, hI_rn (by decide), hg2, hI_rs, up_s]; rfl
    have k5 : hI g4 1315000240 0 k = nI b := by rw [f4 _ (by decide), hg3, hI_rs, up_s]
    have d4 : hI g4 1306 0 0 = nI 0 := by rw [u4.2 _ _ (by decide), hg3, hI_rn (by decide), hg2, hI_rn (by decide), hg1, hI_rn (by decide)]; exact hd
    rw [hk] at k1 k2 k5
    obtain ⟨h2, s2, u6, m6⟩ := m_cut7 (L := L) (scr := scr) (d := d) (s := 2) (pt := 0) hR (by decide) (by decide) (by decide) a4 (l3.lx u4) (by rw [lx4]; exact b3) d4 k1 k2 k5 (lx4.trans e)
    rw [← hk] at s2
    exact ⟨h2, r_M_clauseTold (d := d + 29) _ _ _ (Sm.step c0 (Sm.step c4 s2)), (u3.tr u4.um).tr u6, m6⟩
  · have p1 : pTk 19 (lex v n p) = .inr g := by rw [e]; exact if_neg t19
    rw [bd_r p1]
    refine ⟨g4, r_M_clauseTold (d := d + 29) _ _ _ (Sm.step c0 (Sm.ret ?_)), u3.tr u4.um, q4, a4, by rw [lx4, e]; rfl⟩
    rw [t_M_clauseTold_4, wr_M_clausePart ob, ixk, ← hg2, if_pos rfl, l2.2.2.2.1, wr_M_stepFrom ob, ixk, ← hg3, if_pos rfl, e4, clJ_ok, if_neg (fun z => t19 (cm.mp z)), rtZ0]; rfl
end MClause

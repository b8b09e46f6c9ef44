/-! CONDITIONS, on the reference's side: one -/
section MOne2
variable {L : Nat} {scr : Nat → Int32}
theorem onem_ok {v : Nat → Nat} {n : Nat} : ∀ k, k ≤ 8 → OneM L scr v n k := by
  intro k
  induction k with
  | zero =>
    intro _ d h b p t g r a e ed es hb
    have hv := a.1.2.2.2
    have b27 : b + 1 < 2700 := by
      have : g ≤ 900 := by
        have := (lex_ok (v := v) (p := p) a.1.1).1
        rw [e] at this; exact this.1
      omega
    obtain ⟨h1, q, e1, u1, a1, nb, l1, ew⟩ := c_M_word (L := L) (scr := scr) (d := d) a
    rw [e] at l1
    have cm : ((if lN (wvN (fun i => v (q + i)) (rnE ltB v n n q - q)) < 7237492 then (-1 : Int32) else if 7237492 < lN (wvN (fun i => v (q + i)) (rnE ltB v n n q - q)) then 1 else 0) = 0) ↔ t = 22 := (cmp_l (wv_lt (v := v) (q := q) (k := rnE ltB v n n q - q) hv) (wdK_ok ⟨22, by decide⟩).2).trans (tok_wd (s := 22) hv (by decide) nb l1).1
    have ed1 : hI h1 1306 0 0 = nI (8 - 0) := by rw [u1.2 1306 0 (by decide)]; exact ed
    have es1 : hI h1 1302 0 0 = nI b := by rw [u1.2 1302 0 (by decide)]; exact es
    obtain ⟨ho, eo, -, -, zo⟩ := c_M_opens (L := L) (scr := scr) (d := d + 1) (by omega) ed1
    rw [zo rfl] at eo
    replace eo : E L scr (d + 2) 215 [vR 900012 0] h1 = some (some (vI (zb false)), h1) := eo
    have hp : pOne 0 ((t, g) :: r) = pTest ((t, g) :: r) := rfl
    rw [hp]
    by_cases t22 : t = 22
    · rw [pTest_w (by omega)]
      refine ⟨h1, r_M_single (d := d + 2) _ _ (Sm.ret ?_), u1.mono wcq1, q, a1, by rw [l1]; rfl, KpS.of b u1 (by decide)⟩
      rw [t_M_single_0, e1, clJ_ok, if_pos (cm.mpr t22), eo, clI_ok, itF]; rfl
    · have n22 := fun z => t22 (cm.mp z)
      obtain ⟨n9, sz, tx, -⟩ := a1.1
      by_cases qn : n ≤ q
      · obtain ⟨h2, s2, u2, m2⟩ := m_7 (L := L) (scr := scr) (d := d) (D := 2 * 0 + 1) (N := g) a1 l1 es1 b27 (Nat.le_refl _) (by omega) none none
        refine ⟨h2, r_M_single (d := d + 2) _ _ (Sm.step ?_ s2), (u1.mono wcq1).tr u2, MO.pre u1 m2⟩
        rw [t_M_single_0, e1, clJ_ok, if_neg n22, sz, a1.2.2, if_pos (nI_le qn (by have := a1.2.1; omega))]
      · have ng : ¬ nI n ≤ nI q := nI_ge (by omega) (by omega)
        by_cases q40 : v q = 40
        · have te : t = 40 := by
            obtain ⟨-, ⟨z, -⟩ | ⟨-, z, -⟩⟩ := lex_h nb l1
            · omega
            · rw [z]; exact (tok_sg (by decide)).mpr q40
          rw [pTest_w (by omega)]
          refine ⟨h1, r_M_single (d := d + 2) _ _ (Sm.ret ?_), u1.mono wcq1, q, a1, by rw [l1]; rfl, KpS.of b u1 (by decide)⟩
          rw [t_M_single_0, e1, clJ_ok, if_neg n22, sz, a1.2.2, if_neg ng, rd_M_text (oob_nI (by omega) (by decide)), ix_nI (by omega), tx q (by omega), if_pos (show txI (v q) = 40 from (tx_eq (k := 40) (hv q) (by decide)).mpr q40), eo, clI_ok, itF]; rfl
        · obtain ⟨h2, s2, u2, m2⟩ := m_7 (L := L) (scr := scr) (d := d) (D := 2 * 0 + 1) (N := g) a1 l1 es1 b27 (Nat.le_refl _) (by omega) none none
          refine ⟨h2, r_M_single (d := d + 2) _ _ (Sm.step ?_ s2), (u1.mono wcq1).tr u2, MO.pre u1 m2⟩
          rw [t_M_single_0, e1, clJ_ok, if_neg n22, sz, a1.2.2, if_neg ng, rd_M_text (oob_nI (by omega) (by decide)), ix_nI (by omega), tx q (by omega), if_neg (show ¬ txI (v q) = 40 from fun z => q40 ((tx_eq (k := 40) (hv q) (by decide)).mp z))]
  | succ k ih =>
    intro k8 d h b p t g r a e ed es hb
    have hv := a.1.2.2.2
    have b27 : b + 1 < 2700 := by
      have : g ≤ 900 := by
        have := (lex_ok (v := v) (p := p) a.1.1).1
        rw [e] at this; exact this.1
      omega
    have okl : OkL ((t, g) :: r) := by rw [← e]; exact (lex_ok a.1.1).1
    have gpl : GapL ((t, g) :: r) := by rw [← e]; exact lex_gap a.2.1
    obtain ⟨h1, q, e1, u1, a1, nb, l1, ew⟩ := c_M_word (L := L) (scr := scr) (d := d + 3 * k + 3) a
    rw [e] at l1
    have tw := tok_wd (s := 22) hv (by decide) nb l1
    have cm : ((if lN (wvN (fun i => v (q + i)) (rnE ltB v n n q - q)) < 7237492 then (-1 : Int32) else if 7237492 < lN (wvN (fun i => v (q + i)) (rnE ltB v n n q - q)) then 1 else 0) = 0) ↔ t = 22 := (cmp_l (wv_lt (v := v) (q := q) (k := rnE ltB v n n q - q) hv) (wdK_ok ⟨22, by decide⟩).2).trans tw.1
    have ed1 : hI h1 1306 0 0 = nI (8 - (k + 1)) := by rw [u1.2 1306 0 (by decide)]; exact ed
    have es1 : hI h1 1302 0 0 = nI b := by rw [u1.2 1302 0 (by decide)]; exact es
    obtain ⟨ho, eo, uo, fo, -⟩ := c_M_opens (L := L) (scr := scr) (d := d + 3 * k + 4) k8 ed1
    replace fo := fo (by omega)
    rw [decide_eq_true (show 0 < k + 1 by omega)] at eo
    replace fo : hI ho 1306 0 0 = nI (8 - k) := fo
    have fr : ∀ {x y : MH}, Upd [(1306, 0)] x y → (hI y 1305 0 = hI x 1305 0 ∧ hI y 1302 0 = hI x 1302 0 ∧ hI y 1317002700 0 = hI x 1317002700 0 ∧ hI y 1318002700 0 = hI x 1318002700 0 ∧ hI y 1319002700 0 = hI x 1319002700 0 ∧ hI y 1324 0 = hI x 1324 0) := fun u => ⟨u.2 _ _ (by decide), u.2 _ _ (by decide), u.2 _ _ (by decide), u.2 _ _ (by decide), u.2 _ _ (by decide), u.2 _ _ (by decide)⟩
    have khw : ∀ {hw : MH}, Upd WLx ho hw → KpS h hw b := fun u2 => ((KpS.of b u1 (by decide)).tr (KpS.of b uo (by decide)) (Nat.le_refl _)).tr (KpS.of b u2 (by decide)) (Nat.le_refl _)
    by_cases t22 : t = 22
    · obtain ⟨er, el⟩ := tw.2 t22
      have ok1 : OkL r := okl.2.elim (fun z => by omega) (fun z => z.2)
      cases r with
      | nil => exact ok1.elim
      | cons y r1 =>
        obtain ⟨t1, g1⟩ := y
        have gp1 : g + tkW t ≤ g1 := gpl.1
        have w1 : tkW t = 3 := by rw [t22]; decide
        obtain ⟨hw, hh⟩ : ∃ hw, hw = sI ho 1305 0 0 (nI (rnE ltB v n n q)) := ⟨_, rfl⟩
        have u2 : Upd WLx ho hw := by rw [hh]; exact (Upd.rf _ ho).sI (by decide)
        have aw : AtM hw v n (rnE ltB v n n q) := by
          refine ⟨TxV.fr u2 (by decide) (TxV.fr uo (by decide) a1.1), el, ?_⟩
          rw [hh]
          simp only [hI_row, and_true, true_and, if_true, up_s]
        obtain ⟨h2, e2, u3, m2⟩ := ih (by omega) (d + 2) hw b _ t1 g1 r1 aw er.symm (by rw [u2.2 1306 0 (by decide)]; exact fo) (by rw [u2.2 1302 0 (by decide), (fr uo).2.1]; exact es1) (by omega)
        rw [show d + 2 + 3 * k + 3 = d + 3 * k + 5 by omega] at e2
        have pe : pOne (k + 1) ((t, g) :: (t1, g1) :: r1) = pNot (pOne k ((t1, g1) :: r1)) := if_pos t22
        rw [pe]
        have hat : sI ho 1305 0 0 (hI ho 1324 0 0) = hw := by rw [(fr uo).2.2.2.2.2, ew, hh]
        cases x : pOne k ((t1, g1) :: r1) with
        | inr g2 =>
          rw [x] at e2 m2
          replace e2 : E L scr (d + 3 * k + 5) 218 [vR 900012 0] hw = some (some (vI (zb false)), h2) := e2
          refine ⟨h2, r_M_single (d := d + 3 * k + 5) _ _ (Sm.ret ?_), (u1.mono wcq1).tr ((uo.mono wcq3).tr ((u2.mono wcq1).tr u3)), by obtain ⟨qz, z1, z2, z3⟩ := m2; exact ⟨qz, z1, z2, (khw u2).tr z3 (Nat.le_refl _)⟩⟩
          rw [t_M_single_0, e1, clJ_ok, if_pos (cm.mpr t22), eo, clI_ok, itT, hat, e2, clI_ok, itF]; rfl
        | inl y =>
          obtain ⟨r2, φ⟩ := y
          rw [x] at e2 m2
          replace e2 : E L scr (d + 3 * k + 5) 218 [vR 900012 0] hw = some (some (vI (zb true)), h2) := e2
          obtain ⟨q2, b2, a2, l2, es2, bb, bn, dd, kj, aj, sg⟩ := m2
          have ok9 : hdP r2 ≤ 900 := by
            have := (lex_ok (v := v) (p := q2) a2.1.1).1
            rw [l2] at this
            cases r2 with
            | nil => exact this.elim
            | cons y r3 => exact this.1
          obtain ⟨h3, hh3⟩ : ∃ h3, h3 = sI h2 1306 0 0 (nI (8 - (k + 1))) := ⟨_, rfl⟩
          have u4 : Upd [(1306, 0)] h2 h3 := by rw [hh3]; exact (Upd.rf _ h2).sI (by decide)
          have d3 : hI h3 1306 0 0 = nI (8 - (k + 1)) := by
            rw [hh3]
            simp only [hI_row, and_true, true_and, if_true, up_s]
          have d2 : hI h2 1306 0 0 - 1 = nI (8 - (k + 1)) := by
            rw [dd, u2.2 1306 0 (by decide), fo, show 8 - k = (8 - (k + 1)) + 1 by omega, nI_sub1]
          obtain ⟨f1, f2, f3, f4, f5, -⟩ := fr u4
          obtain ⟨h4, e4, u5, s4, k1, k2, k3⟩ := c_M_puts (L := L) (scr := scr) (d := d + 3 * k + 4) 5 0 0 (show b2 < 2700 by have := ok9; omega) (by rw [f2]; exact es2)
          have g1 : hI hw 1317002700 0 = hI h 1317002700 0 := by rw [u2.2 1317002700 0 (by decide), (fr uo).2.2.1, u1.2 1317002700 0 (by decide)]
          have g2 : hI hw 1318002700 0 = hI h 1318002700 0 := by rw [u2.2 1318002700 0 (by decide), (fr uo).2.2.2.1, u1.2 1318002700 0 (by decide)]
          have g3 : hI hw 1319002700 0 = hI h 1319002700 0 := by rw [u2.2 1319002700 0 (by decide), (fr uo).2.2.2.2.1, u1.2 1319002700 0 (by decide)]
          have o1 : ∀ j, j < b2 → hI h4 1317002700 0 j = hI h2 1317002700 0 j ∧ hI h4 1318002700 0 j = hI h2 1318002700 0 j ∧ hI h4 1319002700 0 j = hI h2 1319002700 0 j := fun j hj => by
            rw [k1, k2, k3, up_n (by omega), up_n (by omega), up_n (by omega), f3, f4, f5]
            exact ⟨rfl, rfl, rfl⟩
          refine ⟨h4, r_M_single (d := d + 3 * k + 5) _ _ (Sm.ret ?_), (u1.mono wcq1).tr ((uo.mono wcq3).tr ((u2.mono wcq1).tr (u3.tr ((u4.mono wcq3).tr (u5.mono wcq2))))), q2, b2 + 1, ⟨TxV.fr u5 (by decide) (TxV.fr u4 (by decide) a2.1), a2.2.1, by rw [u5.2 1305 0 (by decide), f1]; exact a2.2.2⟩, l2, s4, by omega, by omega, by rw [u5.2 1306 0 (by decide), d3, ed], fun j hj => ?_, fun j j1 j2 hj => ?_, fun w => ?_⟩
          · rw [t_M_single_0, e1, clJ_ok, if_pos (cm.mpr t22), eo, clI_ok, itT, hat, e2, clI_ok, itT, d2, ← hh3, e4, clV_ok]; rfl
          · obtain ⟨x1, x2, x3⟩ := o1 j (by omega)
            obtain ⟨y1, y2, y3⟩ := kj j hj
            rw [x1, x2, x3, y1, y2, y3, g1, g2, g3]; exact ⟨rfl, rfl, rfl⟩
          · rcases Nat.lt_or_ge j b2 with c | c
            · obtain ⟨x1, x2, -⟩ := o1 j c
              rw [x1] at hj
              rw [x2]; exact aj j j1 c hj
            · have : j = b2 := by omega
              subst this
              rw [k1, up_s] at hj
              exact absurd (by decide) hj
          · refine SegL.turn (SegL.cong ((sg w).mono (by omega)) (fun j j1 j2 => ?_)) (by omega) ?_
            · obtain ⟨x1, x2, x3⟩ := o1 j j2
              show dcM w _ _ _ = dcM w _ _ _
              rw [x1, x2, x3]
            · show (dcM w (hI h4 1317002700 0 b2) _ _).1 = 1
              rw [k1, up_s]; rfl
    · have n22 := fun z => t22 (cm.mp z)
      obtain ⟨n9, sz, tx, -⟩ := a1.1
      have other : t ≠ 40 → dn L scr (E L scr (d + 3 * k + 5)) B_M_single C_M_single 0 [some (vR 900012 0), none, none] [] h = some (.inl (7, [some (vR 900012 0), none, none], [], h1)) → ∃ h2, E L scr (d + 3 * (k + 1) + 3) 218 [vR 900012 0] h = some (some (vI (zb (isOkC (pOne (k + 1) ((t, g) :: r))))), h2) ∧ Upd WCq h h2 ∧ MO h h2 v n (2 * (k + 1) + 1) b g (pOne (k + 1) ((t, g) :: r)) := fun t40 ee => by
        have pe : pOne (k + 1) ((t, g) :: r) = pTest ((t, g) :: r) := by
          show (if t = 22 then _ else if t = 40 then _ else _) = _
          rw [if_neg t22, if_neg t40]
        rw [pe]
        obtain ⟨h2, s2, u2, m2⟩ := m_7 (L := L) (scr := scr) (d := d + 3 * k + 3) (D := 2 * (k + 1) + 1) (N := g) a1 l1 es1 b27 (Nat.le_refl _) (by omega) none none
        exact ⟨h2, r_M_single (d := d + 3 * k + 5) _ _ (Sm.step ee s2), (u1.mono wcq1).tr u2, MO.pre u1 m2⟩
      by_cases qn : n ≤ q
      · refine other (fun z => ?_) ?_
        · obtain ⟨-, ⟨-, y, -⟩ | ⟨y, -, -⟩⟩ := lex_h nb l1
          · omega
          · omega
        · rw [t_M_single_0, e1, clJ_ok, if_neg n22, sz, a1.2.2, if_pos (nI_le qn (by have := a1.2.1; omega))]
      · have ng : ¬ nI n ≤ nI q := nI_ge (by omega) (by omega)
        obtain ⟨-, ⟨y, -, -⟩ | ⟨-, y, yr⟩⟩ := lex_h nb l1
        · omega
        · by_cases q40 : v q = 40
          · have te : t = 40 := by rw [y]; exact (tok_sg (by decide)).mpr q40
            have pe : pOne (k + 1) ((t, g) :: r) = pShut (pAny (pOne k) r) := by
              show (if t = 22 then _ else if t = 40 then _ else _) = _
              rw [if_neg t22, if_pos te]
            rw [pe]
            have ok1 : OkL r := okl.2.elim (fun z => by omega) (fun z => z.2)
            rw [end_sg (c := 40) (by decide) q40] at yr
            obtain ⟨hw, hh⟩ : ∃ hw, hw = sI ho 1305 0 0 (nI (q + 1)) := ⟨_, rfl⟩
            have u2 : Upd WLx ho hw := by rw [hh]; exact (Upd.rf _ ho).sI (by decide)
            have aw : AtM hw v n (q + 1) := by
              refine ⟨TxV.fr u2 (by decide) (TxV.fr uo (by decide) a1.1), by omega, ?_⟩
              rw [hh]
              simp only [hI_row, and_true, true_and, if_true, up_s]
            have hat : sI ho 1305 0 0 (hI ho 1305 0 0 + 1) = hw := by rw [(fr uo).1, a1.2.2, nI_1, hh]
            have rdt : ∀ {X : Type} {K : Int32 → Option X}, rdI 1 h1 1323100900 0 (nI q) K = K (txI (v q)) := fun {X} {K} => by rw [rd_M_text (oob_nI (by omega) (by decide)), ix_nI (by omega), tx q (by omega)]
            have x40 : txI (v q) = 40 := (tx_eq (k := 40) (hv q) (by decide)).mpr q40
            cases r with
            | nil => exact ok1.elim
            | cons y r1 =>
              obtain ⟨t1, g1⟩ := y
              have gp1 : g + tkW t ≤ g1 := gpl.1
              have w1 := tkW_1 t
              obtain ⟨h2, e2, u3, m2⟩ := many_of (ih (by omega)) d hw b _ t1 g1 r1 aw yr.symm (by rw [u2.2 1306 0 (by decide)]; exact fo) (by rw [u2.2 1302 0 (by decide), (fr uo).2.1]; exact es1) (by omega)
              cases x : pAny (pOne k) ((t1, g1) :: r1) with
              | inr g2 =>
                rw [x] at e2 m2
                replace e2 : E L scr (d + 3 * k + 5) 216 [vR 900012 0] hw = some (some (vI (zb false)), h2) := e2
                refine ⟨h2, r_M_single (d := d + 3 * k + 5) _ _ (Sm.ret ?_), (u1.mono wcq1).tr ((uo.mono wcq3).tr ((u2.mono wcq1).tr u3)), by obtain ⟨qz, z1, z2, z3⟩ := m2; exact ⟨qz, z1, z2, (khw u2).tr z3 (Nat.le_refl _)⟩⟩
                rw [t_M_single_0, e1, clJ_ok, if_neg n22, sz, a1.2.2, if_neg ng, rdt, if_pos x40, eo, clI_ok, itT, hat, e2, clI_ok, itF]; rfl
              | inl y =>
                obtain ⟨l2, φ⟩ := y
                rw [x] at e2 m2
                replace e2 : E L scr (d + 3 * k + 5) 216 [vR 900012 0] hw = some (some (vI (zb true)), h2) := e2
                obtain ⟨q2, b2, a2, e3, es2, bb, bn, dd, kj, aj, sg⟩ := m2
                have okl2 : OkL l2 := by rw [← e3]; exact (lex_ok a2.1.1).1
                cases l2 with
                | nil => exact okl2.elim
                | cons y r3 =>
                  obtain ⟨t2, g2⟩ := y
                  replace bn : g1 + 3 * (b2 - b) + 2 ≤ g2 := bn
                  have gp2 : GapL ((t2, g2) :: r3) := by rw [← e3]; exact lex_gap a2.2.1
                  obtain ⟨h3, q3, e4, u4, a3, l3⟩ := c_M_takesSign (L := L) (scr := scr) (d := d + 3 * k + 3) (c := 41) (by decide) a2 e3
                  have e4' : E L scr (d + 3 * k + 5) 211 [vR 900012 0, vI 41] h2 = some (some (vI (zb (decide (t2 = 41)))), h3) := e4
                  by_cases t41 : t2 = 41
                  · rw [decide_eq_true t41] at e4'
                    rw [if_pos t41] at l3
                    have ps : pShut (.inl ((t2, g2) :: r3, φ)) = .inl (r3, φ) := by
                      show (if t2 = 41 then (Sum.inl (r3, φ) : PC) else .inr g2) = _
                      exact if_pos t41
                    rw [ps]
                    have d3 : hI h3 1306 0 0 - 1 = nI (8 - (k + 1)) := by
                      rw [u4.2 1306 0 (by decide), dd, u2.2 1306 0 (by decide), fo, show 8 - k = (8 - (k + 1)) + 1 by omega, nI_sub1]
                    obtain ⟨h4, hh4⟩ : ∃ h4, h4 = sI h3 1306 0 0 (nI (8 - (k + 1))) := ⟨_, rfl⟩
                    have u5 : Upd [(1306, 0)] h3 h4 := by rw [hh4]; exact (Upd.rf _ h3).sI (by decide)
                    have d4 : hI h4 1306 0 0 = nI (8 - (k + 1)) := by
                      rw [hh4]
                      simp only [hI_row, and_true, true_and, if_true, up_s]
                    obtain ⟨f1, f2, f3, f4, f5, -⟩ := fr u5
                    have p1 : hI h4 1317002700 0 = hI h2 1317002700 0 := by rw [f3, u4.2 1317002700 0 (by decide)]
                    have p2 : hI h4 1318002700 0 = hI h2 1318002700 0 := by rw [f4, u4.2 1318002700 0 (by decide)]
                    have p3 : hI h4 1319002700 0 = hI h2 1319002700 0 := by rw [f5, u4.2 1319002700 0 (by decide)]
                    have g1' : hI hw 1317002700 0 = hI h 1317002700 0 := by rw [u2.2 1317002700 0 (by decide), (fr uo).2.2.1, u1.2 1317002700 0 (by decide)]
                    have g2' : hI hw 1318002700 0 = hI h 1318002700 0 := by rw [u2.2 1318002700 0 (by decide), (fr uo).2.2.2.1, u1.2 1318002700 0 (by decide)]
                    have g3' : hI hw 1319002700 0 = hI h 1319002700 0 := by rw [u2.2 1319002700 0 (by decide), (fr uo).2.2.2.2.1, u1.2 1319002700 0 (by decide)]
                    refine ⟨h4, r_M_single (d := d + 3 * k + 5) _ _ (Sm.ret ?_), (u1.mono wcq1).tr ((uo.mono wcq3).tr ((u2.mono wcq1).tr (u3.tr ((u4.mono wcq1).tr (u5.mono wcq3))))), q3, b2, ⟨TxV.fr u5 (by decide) a3.1, a3.2.1, by rw [f1]; exact a3.2.2⟩, l3, by rw [f2, u4.2 1302 0 (by decide)]; exact es2, bb, by have := (gap_t gp2 (okl2.2.elim (fun z => by omega) (fun z => z.2))).1; omega, by rw [d4, ed], fun j hj => by rw [p1, p2, p3, ← g1', ← g2', ← g3']; exact kj j hj, fun j j1 j2 hj => by rw [p1] at hj; rw [p2]; exact aj j j1 j2 hj, fun w => SegL.cong ((sg w).mono (by omega)) (fun j _ _ => by show dcM w _ _ _ = dcM w _ _ _; rw [p1, p2, p3])⟩
                    rw [t_M_single_0, e1, clJ_ok, if_neg n22, sz, a1.2.2, if_neg ng, rdt, if_pos x40, eo, clI_ok, itT, hat, e2, clI_ok, itT, e4', clI_ok, itT, d3, ← hh4]; rfl
                  · rw [decide_eq_false t41] at e4'
                    rw [if_neg t41] at l3
                    have ps : pShut (.inl ((t2, g2) :: r3, φ)) = .inr g2 := if_neg t41
                    rw [ps]
                    refine ⟨h3, r_M_single (d := d + 3 * k + 5) _ _ (Sm.ret ?_), (u1.mono wcq1).tr ((uo.mono wcq3).tr ((u2.mono wcq1).tr (u3.tr (u4.mono wcq1)))), q3, a3, by rw [l3]; rfl, ((khw u2).tr (fun j hj => kj j hj) (Nat.le_refl _)).tr (KpS.of b u4 (by decide)) (Nat.le_refl _)⟩
                    rw [t_M_single_0, e1, clJ_ok, if_neg n22, sz, a1.2.2, if_neg ng, rdt, if_pos x40, eo, clI_ok, itT, hat, e2, clI_ok, itT, e4', clI_ok, itF]; rfl
          · refine other (fun z => q40 ((tok_sg (n := n) (by decide)).mp (by rw [← y]; exact z))) ?_
            rw [t_M_single_0, e1, clJ_ok, if_neg n22, sz, a1.2.2, if_neg ng, rd_M_text (oob_nI (by omega) (by decide)), ix_nI (by omega), tx q (by omega), if_neg (show ¬ txI (v q) = 40 from fun z => q40 ((tx_eq (k := 40) (hv q) (by decide)).mp z))]
/-- conditions, as the reference reads them -/
theorem c_M_any {v : Nat → Nat} {n : Nat} (d : Nat) (h : MH) (b p t g : Nat) (r : List (Nat × Nat)) (a : AtM h v n p) (e : lex v n p = (t, g) :: r) (ed : hI h 1306 0 0 = nI 0) (es : hI h 1302 0 0 = nI b) (hb : 3 * b ≤ g + 6750) : ∃ h2, E L scr (d + 29) 216 [vR 900012 0] h = some (some (vI (zb (isOkC (pAny (pOne 8) ((t, g) :: r))))), h2) ∧ Upd WCq h h2 ∧ MO h h2 v n 19 b g (pAny (pOne 8) ((t, g) :: r)) := many_of (onem_ok 8 (Nat.le_refl _)) d h b p t g r a e ed es hb
end MOne2

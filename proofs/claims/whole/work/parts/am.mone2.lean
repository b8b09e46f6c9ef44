/-! CONDITIONS, on the reference's side: one -/
section MOne2
variable {L : Nat} {scr : Nat → Int32}
theorem onem_ok {v : Nat → Nat} {n : Nat} : ∀ k, k ≤ 8 → OneM L scr v n k := by
  intro k
  induction k with
  | zero =>
    intro _ d h b p t g r a e ed es hb
    have hv := a.1.2.2.2
    obtain ⟨h1, q, e1, u1, a1, nb, l1, ew⟩ := c_M_word (L := L) (scr := scr) (d := d) a
    rw [e] at l1
    have cm : ((if lN (wvN (fun i => v (q + i)) (rnE ltB v n n q - q)) < 7237492 then (-1 : Int32) else if 7237492 < lN (wvN (fun i => v (q + i)) (rnE ltB v n n q - q)) then 1 else 0) = 0) ↔ t = 22 := (cmp_l (wv_lt (v := v) (q := q) (k := rnE ltB v n n q - q) hv) (wdK_ok ⟨22, by decide⟩).2).trans (tok_wd (s := 22) hv (by decide) nb l1).1
    have ed1 : hI h1 1306 0 0 = nI (8 - 0) := by rw [u1.2 1306 0 (by decide)]; exact ed
    have es1 : hI h1 1302 0 0 = nI b := by rw [u1.2 1302 0 (by decide)]; exact es
    obtain ⟨ho, eo, -, -, zo⟩ := c_M_opens (L := L) (scr := scr) (d := d + 1) (by omega) ed1
    rw [zo rfl] at eo
    replace eo : E L scr (d + 2) 215 [vR 900012 0] h1 = some (some (vI (zb false)), h1) := eo
    have hp : pOne 0 ((t, g) :: r) = pTest ((t, g) :: r) := rfl
    rw [hp]
    by_cases t22 : t = 22
    · rw [pTest_w (by omega)]
      refine ⟨h1, r_M_single (d := d + 2) _ _ (Sm.ret ?_), u1.mono wcq1, q, a1, by rw [l1]; rfl⟩
      rw [t_M_single_0, e1, clJ_ok, if_pos (cm.mpr t22), eo, clI_ok, itF]; rfl
    · have n22 := fun z => t22 (cm.mp z)
      obtain ⟨n9, sz, tx, -⟩ := a1.1
      by_cases qn : n ≤ q
      · obtain ⟨h2, s2, u2, m2⟩ := m_7 (L := L) (scr := scr) (d := d) (D := 2 * 0 + 1) (N := r.length + 1) a1 l1 es1 (by omega) (by omega) (by omega) none none
        refine ⟨h2, r_M_single (d := d + 2) _ _ (Sm.step ?_ s2), (u1.mono wcq1).tr u2, MO.pre u1 m2⟩
        rw [t_M_single_0, e1, clJ_ok, if_neg n22, sz, a1.2.2, if_pos (nI_le qn (by have := a1.2.1; omega))]
      · have ng : ¬ nI n ≤ nI q := nI_ge (by omega) (by omega)
        by_cases q40 : v q = 40
        · have te : t = 40 := by
            obtain ⟨-, ⟨z, -⟩ | ⟨-, z, -⟩⟩ := lex_h nb l1
            · omega
            · rw [z]; exact (tok_sg (by decide)).mpr q40
          rw [pTest_w (by omega)]
          refine ⟨h1, r_M_single (d := d + 2) _ _ (Sm.ret ?_), u1.mono wcq1, q, a1, by rw [l1]; rfl⟩
          rw [t_M_single_0, e1, clJ_ok, if_neg n22, sz, a1.2.2, if_neg ng, rd_M_text (oob_nI (by omega) (by decide)), ix_nI (by omega), tx q (by omega), if_pos (show txI (v q) = 40 from (tx_eq (k := 40) (hv q) (by decide)).mpr q40), eo, clI_ok, itF]; rfl
        · obtain ⟨h2, s2, u2, m2⟩ := m_7 (L := L) (scr := scr) (d := d) (D := 2 * 0 + 1) (N := r.length + 1) a1 l1 es1 (by omega) (by omega) (by omega) none none
          refine ⟨h2, r_M_single (d := d + 2) _ _ (Sm.step ?_ s2), (u1.mono wcq1).tr u2, MO.pre u1 m2⟩
          rw [t_M_single_0, e1, clJ_ok, if_neg n22, sz, a1.2.2, if_neg ng, rd_M_text (oob_nI (by omega) (by decide)), ix_nI (by omega), tx q (by omega), if_neg (show ¬ txI (v q) = 40 from fun z => q40 ((tx_eq (k := 40) (hv q) (by decide)).mp z))]
  | succ k ih =>
    intro k8 d h b p t g r a e ed es hb
    have hv := a.1.2.2.2
    have okl : OkL ((t, g) :: r) := by rw [← e]; exact (lex_ok a.1.1).1
    obtain ⟨h1, q, e1, u1, a1, nb, l1, ew⟩ := c_M_word (L := L) (scr := scr) (d := d + 3 * k + 3) a
    rw [e] at l1
    have tw := tok_wd (s := 22) hv (by decide) nb l1
    have cm : ((if lN (wvN (fun i => v (q + i)) (rnE ltB v n n q - q)) < 7237492 then (-1 : Int32) else if 7237492 < lN (wvN (fun i => v (q + i)) (rnE ltB v n n q - q)) then 1 else 0) = 0) ↔ t = 22 := (cmp_l (wv_lt (v := v) (q := q) (k := rnE ltB v n n q - q) hv) (wdK_ok ⟨22, by decide⟩).2).trans tw.1
    have ed1 : hI h1 1306 0 0 = nI (8 - (k + 1)) := by rw [u1.2 1306 0 (by decide)]; exact ed
    have es1 : hI h1 1302 0 0 = nI b := by rw [u1.2 1302 0 (by decide)]; exact es
    obtain ⟨ho, eo, uo, fo, -⟩ := c_M_opens (L := L) (scr := scr) (d := d + 3 * k + 4) k8 ed1
    replace fo := fo (by omega)
    rw [decide_eq_true (show 0 < k + 1 by omega)] at eo
    replace fo : hI ho 1306 0 0 = nI (8 - k) := fo
    have fr : ∀ {x y : MH}, Upd [(1306, 0)] x y → (hI y 1305 0 = hI x 1305 0 ∧ hI y 1302 0 = hI x 1302 0 ∧ hI y 1317002700 0 = hI x 1317002700 0 ∧ hI y 1318002700 0 = hI x 1318002700 0 ∧ hI y 1319002700 0 = hI x 1319002700 0 ∧ hI y 1324 0 = hI x 1324 0) := fun u => ⟨u.2 _ _ (by decide), u.2 _ _ (by decide), u.2 _ _ (by decide), u.2 _ _ (by decide), u.2 _ _ (by decide), u.2 _ _ (by decide)⟩
    by_cases t22 : t = 22
    · obtain ⟨er, el⟩ := tw.2 t22
      have ok1 : OkL r := okl.2.elim (fun z => by omega) (fun z => z.2)
      cases r with
      | nil => exact ok1.elim
      | cons y r1 =>
        obtain ⟨t1, g1⟩ := y
        replace hb : b + (r1.length + 1) + 2 < 2700 := hb
        obtain ⟨hw, hh⟩ : ∃ hw, hw = sI ho 1305 0 0 (nI (rnE ltB v n n q)) := ⟨_, rfl⟩
        have u2 : Upd WLx ho hw := by rw [hh]; exact (Upd.rf _ ho).sI (by decide)
        have aw : AtM hw v n (rnE ltB v n n q) := by
          refine ⟨TxV.fr u2 (by decide) (TxV.fr uo (by decide) a1.1), el, ?_⟩
          rw [hh]
          simp only [hI_row, and_true, true_and, if_true, up_s]
        obtain ⟨h2, e2, u3, m2⟩ := ih (by omega) (d + 2) hw b _ t1 g1 r1 aw er.symm (by rw [u2.2 1306 0 (by decide)]; exact fo) (by rw [u2.2 1302 0 (by decide), (fr uo).2.1]; exact es1) (by omega)
        rw [show d + 2 + 3 * k + 3 = d + 3 * k + 5 by omega] at e2
        have pe : pOne (k + 1) ((t, g) :: (t1, g1) :: r1) = pNot (pOne k ((t1, g1) :: r1)) := if_pos t22
        rw [pe]
        have hat : sI ho 1305 0 0 (hI ho 1324 0 0) = hw := by rw [(fr uo).2.2.2.2.2, ew, hh]
        cases x : pOne k ((t1, g1) :: r1) with
        | inr g2 =>
          rw [x] at e2 m2
          replace e2 : E L scr (d + 3 * k + 5) 218 [vR 900012 0] hw = some (some (vI (zb false)), h2) := e2
          refine ⟨h2, r_M_single (d := d + 3 * k + 5) _ _ (Sm.ret ?_), (u1.mono wcq1).tr ((uo.mono wcq3).tr ((u2.mono wcq1).tr u3)), m2⟩
          rw [t_M_single_0, e1, clJ_ok, if_pos (cm.mpr t22), eo, clI_ok, itT, hat, e2, clI_ok, itF]; rfl
        | inl y =>
          obtain ⟨r2, φ⟩ := y
          rw [x] at e2 m2
          replace e2 : E L scr (d + 3 * k + 5) 218 [vR 900012 0] hw = some (some (vI (zb true)), h2) := e2
          obtain ⟨q2, b2, a2, l2, es2, bb, bn, dd, kj, aj, sg⟩ := m2
          obtain ⟨h3, hh3⟩ : ∃ h3, h3 = sI h2 1306 0 0 (nI (8 - (k + 1))) := ⟨_, rfl⟩
          have u4 : Upd [(1306, 0)] h2 h3 := by rw [hh3]; exact (Upd.rf _ h2).sI (by decide)
          have d3 : hI h3 1306 0 0 = nI (8 - (k + 1)) := by
            rw [hh3]
            simp only [hI_row, and_true, true_and, if_true, up_s]
          have d2 : hI h2 1306 0 0 - 1 = nI (8 - (k + 1)) := by
            rw [dd, u2.2 1306 0 (by decide), fo, show 8 - k = (8 - (k + 1)) + 1 by omega, nI_sub1]
          obtain ⟨f1, f2, f3, f4, f5, -⟩ := fr u4
          obtain ⟨h4, e4, u5, s4, k1, k2, k3⟩ := c_M_puts (L := L) (scr := scr) (d := d + 3 * k + 4) 5 0 0 (show b2 < 2700 by omega) (by rw [f2]; exact es2)
          have g1 : hI hw 1317002700 0 = hI h 1317002700 0 := by rw [u2.2 1317002700 0 (by decide), (fr uo).2.2.1, u1.2 1317002700 0 (by decide)]
          have g2 : hI hw 1318002700 0 = hI h 1318002700 0 := by rw [u2.2 1318002700 0 (by decide), (fr uo).2.2.2.1, u1.2 1318002700 0 (by decide)]
          have g3 : hI hw 1319002700 0 = hI h 1319002700 0 := by rw [u2.2 1319002700 0 (by decide), (fr uo).2.2.2.2.1, u1.2 1319002700 0 (by decide)]
          have o1 : ∀ j, j < b2 → hI h4 1317002700 0 j = hI h2 1317002700 0 j ∧ hI h4 1318002700 0 j = hI h2 1318002700 0 j ∧ hI h4 1319002700 0 j = hI h2 1319002700 0 j := fun j hj => by
            rw [k1, k2, k3, up_n (by omega), up_n (by omega), up_n (by omega), f3, f4, f5]
            exact ⟨rfl, rfl, rfl⟩
          refine ⟨h4, r_M_single (d := d + 3 * k + 5) _ _ (Sm.ret ?_), (u1.mono wcq1).tr ((uo.mono wcq3).tr ((u2.mono wcq1).tr (u3.tr ((u4.mono wcq3).tr (u5.mono wcq2))))), q2, b2 + 1, ⟨TxV.fr u5 (by decide) (TxV.fr u4 (by decide) a2.1), a2.2.1, by rw [u5.2 1305 0 (by decide), f1]; exact a2.2.2⟩, l2, s4, by omega, by show _ ≤ r1.length + 1 + 1; omega, by rw [u5.2 1306 0 (by decide), d3, ed], fun j hj => ?_, fun j j1 j2 hj => ?_, fun w => ?_⟩
          · rw [t_M_single_0, e1, clJ_ok, if_pos (cm.mpr t22), eo, clI_ok, itT, hat, e2, clI_ok, itT, d2, ← hh3, e4, clV_ok]; rfl
          · obtain ⟨x1, x2, x3⟩ := o1 j (by omega)
            obtain ⟨y1, y2, y3⟩ := kj j hj
            rw [x1, x2, x3, y1, y2, y3, g1, g2, g3]; exact ⟨rfl, rfl, rfl⟩
          · rcases Nat.lt_or_ge j b2 with c | c
            · obtain ⟨x1, x2, -⟩ := o1 j c
              rw [x1] at hj
              rw [x2]; exact aj j j1 c hj
            · have : j = b2 := by omega
              subst this
              rw [k1, up_s] at hj
              exact absurd (by decide) hj
          · refine SegL.turn (SegL.cong ((sg w).mono (by omega)) (fun j j1 j2 => ?_)) (by omega) ?_
            · obtain ⟨x1, x2, x3⟩ := o1 j j2
              show dcM w _ _ _ = dcM w _ _ _
              rw [x1, x2, x3]
            · show (dcM w (hI h4 1317002700 0 b2) _ _).1 = 1
              rw [k1, up_s]; rfl
    · sorry
end MOne2

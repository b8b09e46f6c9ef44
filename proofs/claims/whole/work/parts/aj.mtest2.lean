/-! CONDITIONS, on the reference's side: word and sign of a test -/
theorem MO.pre {h0 h h2 : MH} {v : Nat → Nat} {n D b N : Nat} {x : PC} (u : Upd WLx h0 h) (t : MO h h2 v n D b N x) : MO h0 h2 v n D b N x := by
  cases x with
  | inr g =>
    obtain ⟨q, t1, t2, t3⟩ := t
    exact ⟨q, t1, t2, (KpS.of b u (by decide)).tr t3 (Nat.le_refl _)⟩
  | inl y =>
    obtain ⟨r, φ⟩ := y
    obtain ⟨q, b2, t1, t2, t3, t4, t5, t6, t7, t8, t9⟩ := t
    have f1 : hI h 1317002700 0 = hI h0 1317002700 0 := u.2 _ _ (by decide)
    have f2 : hI h 1318002700 0 = hI h0 1318002700 0 := u.2 _ _ (by decide)
    have f3 : hI h 1319002700 0 = hI h0 1319002700 0 := u.2 _ _ (by decide)
    have f4 : hI h 1306 0 = hI h0 1306 0 := u.2 _ _ (by decide)
    exact ⟨q, b2, t1, t2, t3, t4, t5, by rw [t6, f4], fun j hj => by obtain ⟨a1, a2, a3⟩ := t7 j hj; rw [a1, a2, a3, f1, f2, f3]; exact ⟨rfl, rfl, rfl⟩, t8, t9⟩
section MTest2
variable {L : Nat} {scr : Nat → Int32} {d : Nat}
theorem m_7 {h : MH} {v : Nat → Nat} {n p b N t g D : Nat} {r : List (Nat × Nat)} (a : AtM h v n p) (e : lex v n p = (t, g) :: r) (ew : hI h 1302 0 0 = nI b) (hb : b + 1 < 2700) (hN : N ≤ g) (hD : 1 ≤ D) (z1 z2 : Option MV) : ∃ h2, Sm L scr (d + 2) B_M_single C_M_single 7 [some (vR 900012 0), z1, z2] [] h (some (vI (zb (isOkC (pTest ((t, g) :: r))))), h2) ∧ Upd WCq h h2 ∧ MO h h2 v n D b N (pTest ((t, g) :: r)) := by
  have hv := a.1.2.2.2
  have okl : OkL ((t, g) :: r) := by rw [← e]; exact (lex_ok a.1.1).1
  have gpl : GapL ((t, g) :: r) := by rw [← e]; exact lex_gap a.2.1
  obtain ⟨h1, q, e1, u1, a1, nb, l1, ed⟩ := c_M_word (L := L) (scr := scr) (d := d) a
  rw [e] at l1
  have ask := c_M_askedBy (L := L) (scr := scr) (d := d + 1) hv nb l1 h1
  by_cases t8 : t < 8
  · rw [if_pos t8] at ask
    obtain ⟨er, el⟩ := (tok_wd hv (show t < 23 by omega) nb l1).2 rfl
    obtain ⟨h2, hh⟩ : ∃ h2, h2 = sI h1 1305 0 0 (nI (rnE ltB v n n q)) := ⟨_, rfl⟩
    have u2 : Upd WLx h1 h2 := by rw [hh]; exact (Upd.rf _ h1).sI (by decide)
    have a2 : AtM h2 v n (rnE ltB v n n q) := by
      refine ⟨TxV.fr u2 (by decide) a1.1, el, ?_⟩
      rw [hh]
      simp only [hI_row, and_true, true_and, if_true, up_s]
    have ok1 : OkL r := okl.2.elim (fun z => by omega) (fun z => z.2)
    cases r with
    | nil => exact ok1.elim
    | cons y r2 =>
      obtain ⟨s, g2⟩ := y
      have nt : ¬ nI t = -1 := nI_ne1 (by omega)
      have e2 : lex v n (rnE ltB v n n q) = (s, g2) :: r2 := er.symm
      obtain ⟨h3, q3, e3, u3, a3, l3⟩ := c_M_takesSign (L := L) (scr := scr) (d := d) (c := 60) (by decide) a2 e2
      have e3' : E L scr (d + 2) 211 [vR 900012 0, vI 60] (sI h1 1305 0 0 (hI h1 1324 0 0)) = some (some (vI (zb (decide (s = 60)))), h3) := by rw [ed, ← hh]; exact e3
      have go : ∀ h4 q4, (60 ≤ s ∧ s ≤ 62) → Upd WLx h h4 → AtM h4 v n q4 → lex v n q4 = r2 → (∀ h5, Sm L scr (d + 2) B_M_single C_M_single 12 [some (vR 900012 0), some (vI (nI t)), z2] [vI (if s = 60 then 0 else if s = 62 then 1 else 2)] h4 (some (vI (zb (isOkC (pTest ((t, g) :: (s, g2) :: r2))))), h5) → Sm L scr (d + 2) B_M_single C_M_single 7 [some (vR 900012 0), z1, z2] [] h (some (vI (zb (isOkC (pTest ((t, g) :: (s, g2) :: r2))))), h5)) → ∃ h2, Sm L scr (d + 2) B_M_single C_M_single 7 [some (vR 900012 0), z1, z2] [] h (some (vI (zb (isOkC (pTest ((t, g) :: (s, g2) :: r2))))), h2) ∧ Upd WCq h h2 ∧ MO h h2 v n D b N (pTest ((t, g) :: (s, g2) :: r2)) := fun h4 q4 cs u4 a4 l4 st => by
        have ok2 : OkL r2 := ok1.2.elim (fun z => by omega) (fun z => z.2)
        cases r2 with
        | nil => exact ok2.elim
        | cons y r3 =>
          obtain ⟨k, g3⟩ := y
          have gp1 : g + tkW t ≤ g2 ∧ GapL ((s, g2) :: (k, g3) :: r3) := gpl
          have gp2 : g2 + tkW s ≤ g3 ∧ GapL ((k, g3) :: r3) := gp1.2
          have w1 := tkW_3 t8
          have w2 := tkW_1 s
          have hN2 : 1000 ≤ k ∧ k < 2000 → N + 5 ≤ hdP r3 := fun kk => by
            have w3 := tkW_1 k
            have := (gap_t gp2.2 (ok2.2.elim (fun z => by omega) (fun z => z.2))).1
            omega
          obtain ⟨h5, s5, u5, o5⟩ := m_12 (L := L) (scr := scr) (d := d) (N := N) a4 l4 t8 cs (by rw [u4.2 1302 0 (by decide)]; exact ew) hb hN2 hD z2
          rw [← pTest_k (g := g) (g2 := g2) t8 cs] at s5 o5
          exact ⟨h5, st h5 s5, (u4.mono wcq1).tr u5, MO.pre u4 o5⟩
      by_cases s0 : s = 60
      · rw [decide_eq_true s0] at e3'
        rw [if_pos s0] at l3
        refine go h3 q3 (by omega) (u1.tr (u2.tr u3)) a3 l3 (fun h5 k => Sm.step ?_ k)
        rw [t_M_single_7, e1, clJ_ok, ask, clI_ok, if_neg nt, e3', clI_ok, itT, if_pos s0]
      · rw [decide_eq_false s0] at e3'
        rw [if_neg s0] at l3
        obtain ⟨h4, q4, e4, u4, a4, l4⟩ := c_M_takesSign (L := L) (scr := scr) (d := d) (c := 62) (by decide) a3 l3
        have e4' : E L scr (d + 2) 211 [vR 900012 0, vI 62] h3 = some (some (vI (zb (decide (s = 62)))), h4) := e4
        by_cases s2 : s = 62
        · rw [decide_eq_true s2] at e4'
          rw [if_pos s2] at l4
          refine go h4 q4 (by omega) (u1.tr (u2.tr (u3.tr u4))) a4 l4 (fun h5 k => Sm.step ?_ k)
          rw [t_M_single_7, e1, clJ_ok, ask, clI_ok, if_neg nt, e3', clI_ok, itF, e4', clI_ok, itT, if_neg s0, if_pos s2]
        · rw [decide_eq_false s2] at e4'
          rw [if_neg s2] at l4
          obtain ⟨h5, q5, e5, u5, a5, l5⟩ := c_M_takesSign (L := L) (scr := scr) (d := d) (c := 61) (by decide) a4 l4
          have e5' : E L scr (d + 2) 211 [vR 900012 0, vI 61] h4 = some (some (vI (zb (decide (s = 61)))), h5) := e5
          by_cases s1 : s = 61
          · rw [decide_eq_true s1] at e5'
            rw [if_pos s1] at l5
            refine go h5 q5 (by omega) (u1.tr (u2.tr (u3.tr (u4.tr u5)))) a5 l5 (fun h6 k => Sm.step ?_ k)
            rw [t_M_single_7, e1, clJ_ok, ask, clI_ok, if_neg nt, e3', clI_ok, itF, e4', clI_ok, itF, e5', clI_ok, itT, if_neg s0, if_neg s2]
          · rw [decide_eq_false s1] at e5'
            rw [if_neg s1] at l5
            rw [pTest_s t8 (by omega)]
            refine ⟨h5, Sm.step (t' := 12) (lo' := [some (vR 900012 0), some (vI (nI t)), z2]) (st' := [vI (-1)]) (h' := h5) ?_ (Sm.ret ?_), (u1.tr (u2.tr (u3.tr (u4.tr u5)))).mono wcq1, q5, a5, by rw [l5]; rfl, KpS.of b (u1.tr (u2.tr (u3.tr (u4.tr u5)))) (by decide)⟩
            · rw [t_M_single_7, e1, clJ_ok, ask, clI_ok, if_neg nt, e3', clI_ok, itF, e4', clI_ok, itF, e5', clI_ok, itF]
            · rw [t_M_single_12, if_pos rfl]; rfl
  · rw [if_neg t8] at ask
    rw [pTest_w t8]
    refine ⟨h1, Sm.ret ?_, u1.mono wcq1, q, a1, by rw [l1]; rfl, KpS.of b u1 (by decide)⟩
    rw [t_M_single_7, e1, clJ_ok, ask, clI_ok, if_pos rfl]; rfl
end MTest2

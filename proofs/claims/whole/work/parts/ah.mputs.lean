/-! CONDITIONS, on the reference's side: steps put, words asked -/
abbrev WSt : List (Nat × Nat) := [(1317002700, 0), (1318002700, 0), (1319002700, 0), (1302, 0)]
section MPut
variable {L : Nat} {scr : Nat → Int32} {d : Nat}
theorem c_M_puts {h : MH} {b : Nat} (x y z : Int32) (hb : b < 2700) (e : hI h 1302 0 0 = nI b) : ∃ h2, E L scr (d + 1) 214 [vR 900012 0, vI x, vI y, vI z] h = some (none, h2) ∧ Upd WSt h h2 ∧ hI h2 1302 0 0 = nI (b + 1) ∧ hI h2 1317002700 0 = up (hI h 1317002700 0) b x ∧ hI h2 1318002700 0 = up (hI h 1318002700 0) b y ∧ hI h2 1319002700 0 = up (hI h 1319002700 0) b z := by
  have ob : ¬ oob (nI b) 2700 := oob_nI hb (by decide)
  have ixb : ix (nI b) = b := ix_nI (by omega)
  have s1 : hI (sI h 1317002700 0 b x) 1302 0 0 = nI b := by
    simp only [hI_row, Nat.reduceEqDiff, false_and, if_false]
    exact e
  have s2 : hI (sI (sI h 1317002700 0 b x) 1318002700 0 b y) 1302 0 0 = nI b := by
    simp only [hI_row, Nat.reduceEqDiff, false_and, if_false]
    exact e
  have s3 : hI (sI (sI (sI h 1317002700 0 b x) 1318002700 0 b y) 1319002700 0 b z) 1302 0 0 = nI b := by
    simp only [hI_row, Nat.reduceEqDiff, false_and, if_false]
    exact e
  refine ⟨sI (sI (sI (sI h 1317002700 0 b x) 1318002700 0 b y) 1319002700 0 b z) 1302 0 0 (nI (b + 1)), r_M_puts _ _ _ _ _ (Sm.ret ?_), ((((Upd.rf _ h).sI (by decide)).sI (by decide)).sI (by decide)).sI (by decide), ?_, ?_, ?_, ?_⟩
  · rw [t_M_puts_0, e, wr_M_op ob, ixb, s1, wr_M_arg ob, ixb, s2, wr_M_than ob, ixb, s3, nI_1]
  · simp only [hI_row, and_true, true_and, if_true, up_s]
  · simp only [hI_row, Nat.reduceEqDiff, false_and, and_true, true_and, if_true, if_false]
  · simp only [hI_row, Nat.reduceEqDiff, false_and, and_true, true_and, if_true, if_false]
  · simp only [hI_row, Nat.reduceEqDiff, false_and, and_true, true_and, if_true, if_false]
theorem c_M_opens {h : MH} {k : Nat} (hk : k ≤ 8) (e : hI h 1306 0 0 = nI (8 - k)) : ∃ h2, E L scr (d + 1) 215 [vR 900012 0] h = some (some (vI (zb (decide (0 < k)))), h2) ∧ Upd [(1306, 0)] h h2 ∧ (0 < k → hI h2 1306 0 0 = nI (8 - (k - 1))) ∧ (k = 0 → h2 = h) := by
  by_cases c : 0 < k
  · refine ⟨sI h 1306 0 0 (nI (8 - (k - 1))), r_M_opens _ _ (Sm.ret ?_), (Upd.rf _ h).sI (by decide), fun _ => ?_, fun z => by omega⟩
    · rw [t_M_opens_0, e, if_neg (fun z => by have := (nI_eq (b := 8) (by omega) (by decide)).mp z; omega), nI_1, show 8 - k + 1 = 8 - (k - 1) by omega, decide_eq_true c]
      rfl
    · simp only [hI_row, and_true, true_and, if_true, up_s]
  · refine ⟨h, r_M_opens _ _ (Sm.ret ?_), Upd.rf _ h, fun z => absurd z c, fun _ => rfl⟩
    rw [t_M_opens_0, e, if_pos (show nI (8 - k) = 8 by rw [show k = 0 by omega]; rfl), decide_eq_false c]
    rfl
theorem c_M_askedBy {v : Nat → Nat} {n q t g : Nat} {r : List (Nat × Nat)} (hv : ∀ i, v i < 256) (nb : NoB v n q) (e : lex v n q = (t, g) :: r) (h : MH) : E L scr (d + 1) 213 [vL (lN (wvN (fun i => v (q + i)) (rnE ltB v n n q - q)))] h = some (some (vI (if t < 8 then nI t else -1)), h) := by
  have wl := wv_lt (v := v) (q := q) (k := rnE ltB v n n q - q) hv
  have T : ∀ s, s < 23 → (((if lN (wvN (fun i => v (q + i)) (rnE ltB v n n q - q)) < lN (wdK.getD s 0) then (-1 : Int32) else if lN (wdK.getD s 0) < lN (wvN (fun i => v (q + i)) (rnE ltB v n n q - q)) then 1 else 0) = 0) ↔ t = s) := fun s hs => (cmp_l wl (wdK_ok ⟨s, hs⟩).2).trans (tok_wd hv hs nb e).1
  obtain ⟨w, hw⟩ : ∃ w, w = lN (wvN (fun i => v (q + i)) (rnE ltB v n n q - q)) := ⟨_, rfl⟩
  rw [← hw] at T ⊢
  refine r_M_askedBy _ _ (Sm.ret ?_)
  rw [t_M_askedBy_0]
  have T0 : ((if w < 512736126322 then (-1 : Int32) else if 512736126322 < w then 1 else 0) = 0) ↔ t = 0 := T 0 (by decide)
  have T1 : ((if w < 1918986606 then (-1 : Int32) else if 1918986606 < w then 1 else 0) = 0) ↔ t = 1 := T 1 (by decide)
  have T2 : ((if w < 6578553 then (-1 : Int32) else if 6578553 < w then 1 else 0) = 0) ↔ t = 2 := T 2 (by decide)
  have T3 : ((if w < 2003133803 then (-1 : Int32) else if 2003133803 < w then 1 else 0) = 0) ↔ t = 3 := T 3 (by decide)
  have T4 : ((if w < 120299592184933 then (-1 : Int32) else if 120299592184933 < w then 1 else 0) = 0) ↔ t = 4 := T 4 (by decide)
  have T5 : ((if w < 7304564 then (-1 : Int32) else if 7304564 < w then 1 else 0) = 0) ↔ t = 5 := T 5 (by decide)
  have T6 : ((if w < 1802071652 then (-1 : Int32) else if 1802071652 < w then 1 else 0) = 0) ↔ t = 6 := T 6 (by decide)
  have T7 : ((if w < 2003133796 then (-1 : Int32) else if 2003133796 < w then 1 else 0) = 0) ↔ t = 7 := T 7 (by decide)
  by_cases x0 : t = 0
  · rw [if_pos (T0.mpr x0), x0]; rfl
  · rw [if_neg (fun z => x0 (T0.mp z))]
    by_cases x1 : t = 1
    · rw [if_pos (T1.mpr x1), x1]; rfl
    · rw [if_neg (fun z => x1 (T1.mp z))]
      by_cases x2 : t = 2
      · rw [if_pos (T2.mpr x2), x2]; rfl
      · rw [if_neg (fun z => x2 (T2.mp z))]
        by_cases x3 : t = 3
        · rw [if_pos (T3.mpr x3), x3]; rfl
        · rw [if_neg (fun z => x3 (T3.mp z))]
          by_cases x4 : t = 4
          · rw [if_pos (T4.mpr x4), x4]; rfl
          · rw [if_neg (fun z => x4 (T4.mp z))]
            by_cases x5 : t = 5
            · rw [if_pos (T5.mpr x5), x5]; rfl
            · rw [if_neg (fun z => x5 (T5.mp z))]
              by_cases x6 : t = 6
              · rw [if_pos (T6.mpr x6), x6]; rfl
              · rw [if_neg (fun z => x6 (T6.mp z))]
                by_cases x7 : t = 7
                · rw [if_pos (T7.mpr x7), x7]; rfl
                · rw [if_neg (fun z => x7 (T7.mp z))]
                  rw [if_neg (show ¬ t < 8 by omega)]
end MPut

/-! RULES, on the class's side: one more -/
abbrev WAr (m : Nat) : List (Nat × Nat) := [(610, m), (611000040, m), (612000040, m), (613000040, m), (614000040, m)]
section CRule
variable {L : Nat} {scr : Nat → Int32} {d : Nat}
theorem c_addRule {h : MH} {m R : Nat} (s p a b : Int32) (hR : R ≤ 40) (e : hI h 610 m 0 = nI R) : ∃ h2, E L scr (d + 1) 54 [vR 900005 m, vI s, vI p, vI a, vI b] h = some (none, h2) ∧ Upd (WAr m) h h2 ∧ ((R < 40 ∧ hI h2 610 m 0 = nI (R + 1) ∧ hI h2 611000040 m = up (hI h 611000040 m) R s ∧ hI h2 612000040 m = up (hI h 612000040 m) R p ∧ hI h2 613000040 m = up (hI h 613000040 m) R a ∧ hI h2 614000040 m = up (hI h 614000040 m) R b) ∨ (R = 40 ∧ h2 = h)) := by
  rcases Nat.lt_or_ge R 40 with c | c
  · have ob : ¬ oob (nI R) 40 := oob_nI c (by decide)
    have ixr : ix (nI R) = R := ix_nI (by omega)
    have e1 : hI (sI h 611000040 m R s) 610 m 0 = nI R := by
      simp only [hI_row, Nat.reduceEqDiff, false_and, if_false]
      exact e
    have e2 : hI (sI (sI h 611000040 m R s) 612000040 m R p) 610 m 0 = nI R := by
      simp only [hI_row, Nat.reduceEqDiff, false_and, if_false]
      exact e
    have e3 : hI (sI (sI (sI h 611000040 m R s) 612000040 m R p) 613000040 m R a) 610 m 0 = nI R := by
      simp only [hI_row, Nat.reduceEqDiff, false_and, if_false]
      exact e
    have e4 : hI (sI (sI (sI (sI h 611000040 m R s) 612000040 m R p) 613000040 m R a) 614000040 m R b) 610 m 0 = nI R := by
      simp only [hI_row, Nat.reduceEqDiff, false_and, if_false]
      exact e
    refine ⟨sI (sI (sI (sI (sI h 611000040 m R s) 612000040 m R p) 613000040 m R a) 614000040 m R b) 610 m 0 (nI (R + 1)), r_Law_addRule _ _ _ _ _ _ (Sm.ret ?_), (((((Upd.rf _ h).sI (by simp)).sI (by simp)).sI (by simp)).sI (by simp)).sI (by simp), Or.inl ⟨c, ?_, ?_, ?_, ?_, ?_⟩⟩
    · rw [t_Law_addRule_0, e, if_neg (show ¬ (40 : Int32) ≤ nI R from nI_ge (b := 40) c (by decide)), wr_Law_sort ob, ixr, e1, wr_Law_part ob, ixr, e2, wr_Law_from ob, ixr, e3, wr_Law_to ob, ixr, e4, nI_1]
    · simp only [hI_row, and_true, true_and, if_true, up_s]
    · simp only [hI_row, Nat.reduceEqDiff, false_and, and_true, true_and, if_true, if_false]
    · simp only [hI_row, Nat.reduceEqDiff, false_and, and_true, true_and, if_true, if_false]
    · simp only [hI_row, Nat.reduceEqDiff, false_and, and_true, true_and, if_true, if_false]
    · simp only [hI_row, Nat.reduceEqDiff, false_and, and_true, true_and, if_true, if_false]
  · have : R = 40 := by omega
    refine ⟨h, r_Law_addRule _ _ _ _ _ _ (Sm.ret ?_), Upd.rf _ h, Or.inr ⟨this, rfl⟩⟩
    rw [t_Law_addRule_0, e, if_pos (show (40 : Int32) ≤ nI R from nI_le (a := 40) c (by omega))]
end CRule

/-! THE DRAFT, on the reference's side -/
section MBare
variable {L : Nat} {scr : Nat → Int32} {d : Nat}
theorem c_M_bare5 {h : MH} : ∃ h2, E L scr (d + 1) 228 [vR 900012 0, vI 5] h = some (none, h2) ∧ Upd [(1308000384, 0), (1310000006, 0)] h h2 ∧ hI h2 1308000384 0 = stO (hI h 1308000384 0) 320 bareF 64 ∧ hI h2 1310000006 0 = up (hI h 1310000006 0) 5 0 := by
  obtain ⟨hh, hhh⟩ : ∃ hh : Nat → MH, hh = fun j => withR h [(1308000384, 0, stO (hI h 1308000384 0) 320 bareF j)] := ⟨_, rfl⟩
  have h0 : hh 0 = h := by
    rw [hhh]
    refine withR_id (fun q hq => ?_)
    simp only [List.mem_cons, List.not_mem_nil, or_false] at hq
    rcases hq with rfl
    exact stO_0 _ _ _
  have st : ∀ j, sI (hh j) 1308000384 0 (320 + j) (bareF j) = hh (j + 1) := fun j => by
    rw [hhh]
    show sI (withR h [(1308000384, 0, stO (hI h 1308000384 0) 320 bareF j)]) 1308000384 0 (320 + j) (bareF j) = withR h [(1308000384, 0, stO (hI h 1308000384 0) 320 bareF (j + 1))]
    rw [withR_set, stO_s]
  have ix5 : ∀ j, j < 64 → (64 : Int32) * 5 + nI j = nI (320 + j) := fun j _ => by rw [show (64 : Int32) * 5 = nI 320 from rfl, nI_add]
  have u64 : Upd [(1308000384, 0), (1310000006, 0)] h (hh 64) := by
    rw [hhh]
    exact withR_Upd (fun q hq => by
      simp only [List.mem_cons, List.not_mem_nil, or_false] at hq
      rcases hq with rfl
      dsimp only; decide)
  have r64 : hI (hh 64) 1308000384 0 = stO (hI h 1308000384 0) 320 bareF 64 := by rw [hhh]; exact withR_hit
  have c64 : hI (hh 64) 1310000006 0 = hI h 1310000006 0 := by rw [hhh]; exact withR_miss (by decide)
  refine ⟨sI (hh 64) 1310000006 0 5 0, r_M_bare _ _ _ (Sm.step (t' := 1) (lo' := [some (vR 900012 0), some (vI 5), some (vI (nI 0))]) (st' := []) (h' := hh 0) (by rw [t_M_bare_0, h0]; rfl) ?_), u64.sI (by decide), ?_, ?_⟩
  · refine Sm.for (lo := fun j => [some (vR 900012 0), some (vI 5), some (vI (nI j))]) (hh := hh) 64 (fun j hj => ?_) (Sm.ret ?_)
    · have ob : ¬ oob (nI (320 + j)) 384 := oob_nI (by omega) (by decide)
      have ixj : ix (nI (320 + j)) = 320 + j := ix_nI (by omega)
      have l4 := nI_ltI (a := j) (b := 4) (by omega) (by decide)
      have l8 := nI_ltI (a := j) (b := 8) (by omega) (by decide)
      have l13 := nI_eq (a := j) (b := 13) (by omega) (by decide)
      have sj := st j
      unfold bareF at sj
      rw [t_M_bare_1, if_neg (show ¬ (64 : Int32) ≤ nI j from nI_ge (b := 64) hj (by decide)), ix5 j hj, nI_1]
      by_cases a1 : j < 4
      · rw [if_pos a1] at sj
        rw [if_pos (show nI j < 4 from l4.mpr a1), if_neg (show ¬ nI j = 13 from fun z => by have := l13.mp z; omega), wr_M_law ob, ixj, sj]
      · rw [if_neg a1] at sj
        rw [if_neg (show ¬ nI j < 4 from fun z => a1 (l4.mp z))]
        by_cases a2 : j < 8
        · rw [if_pos a2] at sj
          rw [if_pos (show nI j < 8 from l8.mpr a2), wr_M_law ob, ixj, sj]
        · rw [if_neg a2] at sj
          rw [if_neg (show ¬ nI j < 8 from fun z => a2 (l8.mp z))]
          by_cases a3 : j = 13
          · rw [if_pos a3] at sj
            rw [if_pos (show nI j = 13 from l13.mpr a3), wr_M_law ob, ixj, sj]
          · rw [if_neg a3] at sj
            rw [if_neg (show ¬ nI j = 13 from fun z => a3 (l13.mp z)), wr_M_law ob, ixj, sj]
    · rw [t_M_bare_1, if_pos (show (64 : Int32) ≤ nI 64 by decide), wr_M_clauses (by decide)]; rfl
  · simp only [hI_row, Nat.reduceEqDiff, false_and, if_false]; exact r64
  · simp only [hI_row, and_true, true_and, if_true]; rw [c64]
end MBare

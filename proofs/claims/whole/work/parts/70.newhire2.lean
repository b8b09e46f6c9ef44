/-! For out: the heaps with a hire more -/
section NewHire
variable {L : Nat} {scr : Nat → Int32} {d : Nat}
abbrev adL0 (h : MH) (n : Nat) (b w m q : Int32) : MH := sI (sI (sI (sI (sI (sI h 203000120 0 n b) 204000120 0 n w) 205000120 0 n m) 206000120 0 n q) 208000120 0 n 0) 209000120 0 n 0
abbrev adL (h : MH) (n t : Nat) (b w m q : Int32) : MH := sI (tlL (sI (adL0 h n b w m q) 202 0 0 (nI (n + 1))) t 0 (nI n) m) 207000120 0 n (nI (t + 1))
abbrev adM0 (h : MH) (n : Nat) (b w m q : Int32) : MH := sI (sI (sI (sI (sI (sI h 1339000120 0 n b) 1340000120 0 n w) 1341000120 0 n m) 1342000120 0 n q) 1344000120 0 n 0) 1345000120 0 n 0
abbrev adM (h : MH) (n t : Nat) (b w m q : Int32) : MH := sI (sI (tmL (adM0 h n b w m q) t 0 (nI n) 0 0) 1343000120 0 n (nI (t + 1))) 1336 0 0 (nI (n + 1))
theorem hire_new {h : MH} {t n nB b w m q : Nat} (r : RHire h) (eT : hI h 210 0 0 = nI t) (ht : t < 400) (en : hI h 202 0 0 = nI n) (hn : n < 120) (eb : hI h 200 0 0 = nI nB) (hnB : nB ≤ 20) (hb : b < nB) (hw : w < 10) (hm : m < 72000) (hq : 1 ≤ q) (hmq : m % 720 + q ≤ 720) (hback : ∀ i, i < n → hI h 203000120 0 i = nI b → hI h 205000120 0 i ≤ nI m ∧ ∃ c, bkS h t i = nI c ∧ c ≤ m) : RHire (adM (adL h n t (nI b) (nI w) (nI m) (nI q)) n t (nI b) (nI w) (nI m) (nI q)) := by
  obtain ⟨q1, q2, q3, q4, q5, n', t', nb', hn', ht', hnb', ch, mh, cl, ml, bn, tk, hk, hsep⟩ := r
  have et : t' = t := (nI_eq (by omega) (by omega)).mp (by rw [← cl, eT])
  have en2 : n' = n := (nI_eq (by omega) (by omega)).mp (by rw [← ch, en])
  have eb2 : nb' = nB := (nI_eq (by omega) (by omega)).mp (by rw [← bn, eb])
  subst et; subst en2; subst eb2
  unfold RHire PHire
  simp only [hI_row, up_s, Nat.reduceEqDiff, false_and, and_false, and_true, true_and, if_true, if_false, reduceIte]
  exact ⟨by rw [q1], by rw [q2], by rw [q3], by rw [q4], by rw [q5], n' + 1, t' + 1, nb', by omega, by omega, hnb', rfl, rfl, rfl, rfl, bn, tell_new hn tk, hires_new hb hw hm hq hmq tk.2 (fun i hi e => (hback i hi e).1) hk, sep_new hm (fun i hi e => (hback i hi e).2) hsep⟩
theorem pass_new {h : MH} {t n : Nat} {b w m q : Int32} (r : RPass h) : RPass (adM (adL h n t b w m q) n t b w m q) := by
  obtain ⟨q1, q2, q3⟩ := r
  unfold RPass PPass
  simp only [hI_row, up_s, Nat.reduceEqDiff, false_and, and_false, and_true, true_and, if_true, if_false, reduceIte]
  refine ⟨by rw [q1], by rw [q2], fun k => ?_⟩
  unfold up
  split
  · exact Or.inl rfl
  · exact q3 k
theorem c_hasRoom {h : MH} {n t : Nat} (hn : n ≤ 120) (ht : t ≤ 400) (en : hI h 202 0 0 = nI n) (eT : hI h 210 0 0 = nI t) : E L scr (d + 1) 12 [vR 900001 0] h = some (some (vI (zb (decide (n < 120 ∧ t < 400)))), h) := by
  refine r_Book_hasRoom _ _ (Sm.ret ?_)
  rw [t_Book_hasRoom_0, en, eT]
  by_cases c1 : n < 120
  · rw [if_neg (show ¬ 120 ≤ nI n from nI_ge (b := 120) c1 (by decide))]
    by_cases c2 : t < 400
    · rw [if_neg (show ¬ 400 ≤ nI t from nI_ge (b := 400) c2 (by decide)), decide_eq_true ⟨c1, c2⟩, rtZ1]; rfl
    · rw [if_pos (show 400 ≤ nI t from nI_le (a := 400) (by omega) (by omega)), decide_eq_false (fun z => c2 z.2), rtZ0]; rfl
  · rw [if_pos (show 120 ≤ nI n from nI_le (a := 120) (by omega) (by omega)), decide_eq_false (fun z => c1 z.1), rtZ0]; rfl
end NewHire

/-! For out: the class's part -/
section AddHire
variable {L : Nat} {scr : Nat → Int32} {d : Nat}
theorem c_addHire {h : MH} {n t : Nat} (b w m q : Int32) (hn : n < 120) (ht : t < 400) (en : hI h 202 0 0 = nI n) (eT : hI h 210 0 0 = nI t) : E L scr (d + 2) 13 [vR 900001 0, vI b, vI w, vI m, vI q] h = some (some (vI (nI n)), adL h n t b w m q) := by
  have ob : ¬ oob (nI n) 120 := oob_nI hn (by decide)
  have n31 : n < 2 ^ 31 := by omega
  have e1 : hI (adL0 h n b w m q) 202 0 0 = nI n := by rw [hI_rn (by decide), hI_rn (by decide), hI_rn (by decide), hI_rn (by decide), hI_rn (by decide), hI_rn (by decide)]; exact en
  have e2 : hI (sI (adL0 h n b w m q) 202 0 0 (nI (n + 1))) 210 0 0 = nI t := by rw [hI_rn (by decide), hI_rn (by decide), hI_rn (by decide), hI_rn (by decide), hI_rn (by decide), hI_rn (by decide), hI_rn (by decide)]; exact eT
  refine r_Book_addHire _ _ _ _ _ _ (Sm.ret ?_)
  rw [t_Book_addHire_0, c_hasRoom (by omega) (by omega) en eT, clI_ok, decide_eq_true (show n < 120 ∧ t < 400 from ⟨hn, ht⟩), itT, en, wr_Book_boatOf ob, wr_Book_whoOf ob, wr_Book_outAt ob, wr_Book_bookedFor ob, wr_Book_reaches ob, wr_Book_clean ob, ix_nI n31, e1, nI_1, c_tell ht _ _ _ e2, clI_ok, wr_Book_toldBy ob, ix_nI n31]
end AddHire

/-! CALL: boat, with all that speaks of the boats -/
section Boats
variable {L : Nat} {scr : Nat → Int32} {d : Nat}
theorem HiresOk.nb {bo wo oa bk tb dd : Nat → Int32} {n t nb m : Nat} (h : HiresOk bo wo oa bk tb dd n t nb) (hm : nb ≤ m) : HiresOk bo wo oa bk tb dd n t m := fun i hi => by
  obtain ⟨⟨b, w, a, q, h1, h2, h3⟩, h4⟩ := h i hi
  exact ⟨⟨b, w, a, q, h1, by omega, h3⟩, h4⟩
theorem boat_dry {h h2 : MH} {n m : Nat} (u : Upd SBoat h h2) (hm : m ≤ 20) (hnm : n ≤ m) (e : hI h 200 0 0 = nI n) (e2 : hI h2 200 0 0 = nI m) (q : RDry h) : RDry h2 := by
  obtain ⟨q1, q2, ⟨k, hk, bn, q3⟩, q4⟩ := q
  have ek : k = n := (nI_eq (by omega) (by omega)).mp (by rw [← bn, ← e])
  subst ek
  have a1 : hI h2 400000020 0 = hI h 400000020 0 := u.2 _ _ (by decide)
  have a2 : hI h2 401000020 0 = hI h 401000020 0 := u.2 _ _ (by decide)
  have a3 : hI h2 1374000020 0 = hI h 1374000020 0 := u.2 _ _ (by decide)
  have a4 : hI h2 1375000020 0 = hI h 1375000020 0 := u.2 _ _ (by decide)
  unfold RDry PDry
  rw [a1, a2, a3, a4]
  exact ⟨q1, q2, ⟨m, hm, e2, fun j hj => q3 j (by omega)⟩, q4⟩
theorem boat_hire {h h2 : MH} {n m : Nat} (u : Upd SBoat h h2) (hm : m ≤ 20) (hnm : n ≤ m) (e : hI h 200 0 0 = nI n) (e2 : hI h2 200 0 0 = nI m) (q : RHire h) : RHire h2 := by
  -- the rows but for the number of boats are the same: put the number back
  have ub : ∀ s, (s, 0) ∈ SHire → s ≠ 200 → hI h2 s 0 = hI h s 0 := fun s hs hb => u.2 s 0 (fun hw => by
    have k : ∀ q ∈ SHire, q ∈ SBoat → q.1 = 200 := by decide
    exact hb (k (s, 0) hs hw))
  obtain ⟨q1, q2, q3, q4, q5, n', T, nb, hn, hT, hnb, ch, mh, cl, ml, bn, tk, hk, hsep⟩ := q
  have ek : nb = n := (nI_eq (by omega) (by omega)).mp (by rw [← bn, ← e])
  subst ek
  unfold RHire PHire
  rw [ub 202 (by decide) (by decide), ub 203000120 (by decide) (by decide), ub 204000120 (by decide) (by decide), ub 205000120 (by decide) (by decide), ub 206000120 (by decide) (by decide), ub 207000120 (by decide) (by decide), ub 210 (by decide) (by decide), ub 211000400 (by decide) (by decide), ub 212000400 (by decide) (by decide), ub 213000400 (by decide) (by decide), ub 1336 (by decide) (by decide), ub 1339000120 (by decide) (by decide), ub 1340000120 (by decide) (by decide), ub 1341000120 (by decide) (by decide), ub 1342000120 (by decide) (by decide), ub 1343000120 (by decide) (by decide), ub 1337 (by decide) (by decide), ub 1346000401 (by decide) (by decide), ub 1347000401 (by decide) (by decide), ub 1348000401 (by decide) (by decide), ub 1349000401 (by decide) (by decide)]
  exact ⟨q1, q2, q3, q4, q5, n', T, m, hn, hT, hm, ch, mh, cl, ml, e2, tk, hk.nb hnm, hsep⟩
theorem call_boatD (x : Int32) (h : MH) (q : RBoat h) (qd : RDry h) (qh : RHire h) : Both L scr (d + 40) SBoat (fun h2 => RBoat h2 ∧ RDry h2 ∧ RHire h2) 130 241 [vR 900011 0, vI x] [vR 900012 0, vI x] h := by
  cases hx : ixB x 4 with
  | false =>
    refine both0 (vI (-1)) (r_P_boat _ _ _ (Sm.ret ?_)) (r_M_boat _ _ _ (Sm.ret ?_)) ⟨q, qd, qh⟩
    · rw [t_P_boat_0, c_P_isKind, clI_ok, hx, itF]
    · rw [t_M_boat_0, c_M_isKind, clI_ok, hx, itF]
  | true =>
    obtain ⟨q1, n, hn, e0, m0, q2⟩ := id q
    rcases Nat.lt_or_ge n 20 with hl | hl
    · have m1 : hI (sI (sI h 201000020 0 n x) 200 0 0 (nI (n + 1))) 1335 0 0 = nI n := by rw [hI_rn (by decide), hI_rn (by decide)]; exact m0
      have m2 : hI (sI (sI (sI h 201000020 0 n x) 200 0 0 (nI (n + 1))) 1338000020 0 n x) 1335 0 0 = nI n := by rw [hI_rn (by decide)]; exact m1
      have u : Upd SBoat h (sI (sI (sI (sI h 201000020 0 n x) 200 0 0 (nI (n + 1))) 1338000020 0 n x) 1335 0 0 (nI (n + 1))) := ((((Upd.rf _ h).sI (by decide)).sI (by decide)).sI (by decide)).sI (by decide)
      have eb : hI (sI (sI (sI (sI h 201000020 0 n x) 200 0 0 (nI (n + 1))) 1338000020 0 n x) 1335 0 0 (nI (n + 1))) 200 0 0 = nI (n + 1) := by rw [hI_rn (by decide), hI_rn (by decide), hI_rs, up_s]
      refine ⟨vI (nI n), (sI (sI h 201000020 0 n x) 200 0 0 (nI (n + 1))), (sI (sI (sI (sI h 201000020 0 n x) 200 0 0 (nI (n + 1))) 1338000020 0 n x) 1335 0 0 (nI (n + 1))), r_P_boat _ _ _ (Sm.ret ?_), r_M_boat _ _ _ (Sm.ret ?_), u, ?_, boat_dry u (by omega) (Nat.le_succ n) e0 eb qd, boat_hire u (by omega) (Nat.le_succ n) e0 eb qh⟩
      · rw [t_P_boat_0, c_P_isKind, clI_ok, hx, itT, c_Book_addBoat (n := n) x hl e0, clI_ok]
      · rw [t_M_boat_0, c_M_isKind, clI_ok, hx, itT, m1, if_neg (show ¬ nI n = 20 from fun z => absurd ((nI_eq (a := n) (b := 20) (by omega) (by decide)).mp z) (by omega)), wr_M_kindOf (oob_nI hl (by decide)), ix_nI (by omega), m2, nI_1, hI_rs, up_s, nI_pred]
      · unfold RBoat PBoat
        simp only [hI_row]
        simp only [up_s, Nat.reduceEqDiff, false_and, and_false, and_true, true_and, if_true, if_false, reduceIte]
        obtain ⟨a, ha, ha2, rfl⟩ := ixB_t hx
        refine ⟨by rw [q1], n + 1, by omega, rfl, rfl, fun j => ?_⟩
        unfold up
        split
        · exact ⟨a, ha, rfl⟩
        · exact q2 j
    · have en : n = 20 := by omega
      subst en
      refine both0 (vI (-1)) (r_P_boat _ _ _ (Sm.ret ?_)) (r_M_boat _ _ _ (Sm.ret ?_)) ⟨q, qd, qh⟩
      · rw [t_P_boat_0, c_P_isKind, clI_ok, hx, itT, c_Book_addBoat_full x e0, clI_ok]
      · rw [t_M_boat_0, c_M_isKind, clI_ok, hx, itT, m0, if_pos (show nI 20 = 20 from rfl)]
end Boats

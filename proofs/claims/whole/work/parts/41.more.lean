/-! CALLS: earned, fail, worn, old -/
section More
variable {L : Nat} {scr : Nat → Int32} {d : Nat}
def mnF (p : Nat → Int32) (k : Nat) (x : Int32) : Int32 := if p (k + 1) < x then p (k + 1) else x
def mxF (p : Nat → Int32) (k : Nat) (x : Int32) : Int32 := if x < p (k + 1) then p (k + 1) else x
theorem c_spread {n : Nat} (hn : n ≤ 8) (hn0 : n ≠ 0) {h : MH} (e : hI h 500 0 0 = nI n) : E L scr (d + 2) 51 [vR 900004 0] h = some (some (vI (fold (mxF (hI h 502000008 0)) (hI h 502000008 0 0) (n - 1) - fold (mnF (hI h 502000008 0)) (hI h 502000008 0 0) (n - 1))), h) := by
  have e0 : ¬ hI h 500 0 0 = 0 := by rw [e]; exact fun z => hn0 ((nI_eq (b := 0) (by omega) (by decide)).mp z)
  refine r_Guides_spread _ _ (Sm.step (t' := 2) (lo' := [some (vR 900004 0), some (vI (hI h 502000008 0 0)), some (vI (hI h 502000008 0 0)), some (vI 1)]) (st' := []) (h' := h) ?_ ?_)
  · rw [t_Guides_spread_0, if_neg e0, rd_Guides_purse (show ¬ oob 0 8 by decide), rd_Guides_purse (show ¬ oob 0 8 by decide)]; rfl
  refine Sm.for (lo := fun k => [some (vR 900004 0), some (vI (fold (mnF (hI h 502000008 0)) (hI h 502000008 0 0) k)), some (vI (fold (mxF (hI h 502000008 0)) (hI h 502000008 0 0) k)), some (vI (nI (k + 1)))]) (hh := fun _ => h) (n - 1) (fun k hk => ?_) (Sm.ret ?_)
  · show _ = some (Sum.inl (2, [some (vR 900004 0), some (vI (mnF (hI h 502000008 0) k (fold (mnF (hI h 502000008 0)) (hI h 502000008 0 0) k))), some (vI (mxF (hI h 502000008 0) k (fold (mxF (hI h 502000008 0)) (hI h 502000008 0 0) k))), some (vI (nI (k + 1 + 1)))], [], h))
    generalize fold (mnF (hI h 502000008 0)) (hI h 502000008 0 0) k = a1
    generalize fold (mxF (hI h 502000008 0)) (hI h 502000008 0 0) k = a2
    rw [t_Guides_spread_2, e, if_neg (nI_ge (by omega) (by omega)), rd_Guides_purse (oob_nI (by omega) (by decide)), ix_nI (by omega), c_min, clI_ok, rd_Guides_purse (oob_nI (by omega) (by decide)), ix_nI (by omega), c_max, clI_ok, nI_1]
    rfl
  · rw [t_Guides_spread_2, e, if_pos (nI_le (by omega) (by omega))]
theorem call_earned (x : Int32) (h : MH) (q : RGuide h) : Both L scr (d + 40) Scr (fun _ => True) 162 311 [vR 900011 0, vI x] [vR 900012 0, vI x] h := by
  obtain ⟨q1, q2, n, hn, e, m⟩ := q
  by_cases x1 : x = -1
  · subst x1
    by_cases n0 : n = 0
    · subst n0
      refine both0 (vI 0) (r_P_earned _ _ _ (Sm.ret ?_)) (r_M_earned _ _ _ (Sm.ret ?_)) trivial
      · have es : E L scr (d + 39) 51 [vR 900004 0] h = some (some (vI 0), h) := by
          refine r_Guides_spread _ _ (Sm.ret ?_)
          rw [t_Guides_spread_0, e, if_pos (show nI 0 = 0 from rfl)]
        rw [t_P_earned_0, if_pos rfl, es, clI_ok]
      · rw [t_M_earned_0, if_pos rfl, m, if_pos (show nI 0 = 0 from rfl)]
    · have m0 : ¬ hI h 1366 0 0 = 0 := by rw [m]; exact fun z => n0 ((nI_eq (b := 0) (by omega) (by decide)).mp z)
      refine both0 (vI (fold (mxF (hI h 502000008 0)) (hI h 502000008 0 0) (n - 1) - fold (mnF (hI h 502000008 0)) (hI h 502000008 0 0) (n - 1))) (r_P_earned _ _ _ (Sm.ret ?_)) (r_M_earned _ _ _ (Sm.step (t' := 5) (lo' := [some (vR 900012 0), some (vI (-1)), some (vI (hI h 1369000008 0 0)), some (vI (hI h 1369000008 0 0)), some (vI 1)]) (st' := []) (h' := h) ?_ ?_)) trivial
      · rw [t_P_earned_0, if_pos rfl, c_spread hn n0 e, clI_ok]
      · rw [t_M_earned_0, if_pos rfl, if_neg m0, rd_M_guideEarned (show ¬ oob 0 8 by decide), rd_M_guideEarned (show ¬ oob 0 8 by decide)]; rfl
      · rw [q2]
        refine Sm.for (lo := fun k => [some (vR 900012 0), some (vI (-1)), some (vI (fold (mnF (hI h 1369000008 0)) (hI h 1369000008 0 0) k)), some (vI (fold (mxF (hI h 1369000008 0)) (hI h 1369000008 0 0) k)), some (vI (nI (k + 1)))]) (hh := fun _ => h) (n - 1) (fun k hk => ?_) (Sm.ret ?_)
        · show _ = some (Sum.inl (5, [some (vR 900012 0), some (vI (-1)), some (vI (mnF (hI h 1369000008 0) k (fold (mnF (hI h 1369000008 0)) (hI h 1369000008 0 0) k))), some (vI (mxF (hI h 1369000008 0) k (fold (mxF (hI h 1369000008 0)) (hI h 1369000008 0 0) k))), some (vI (nI (k + 1 + 1)))], [], h))
          generalize fold (mnF (hI h 1369000008 0)) (hI h 1369000008 0 0) k = a1
          generalize fold (mxF (hI h 1369000008 0)) (hI h 1369000008 0 0) k = a2
          rw [t_M_earned_5, m, if_neg (nI_ge (by omega) (by omega)), rd_M_guideEarned (oob_nI (by omega) (by decide)), ix_nI (by omega), c_min, clI_ok, rd_M_guideEarned (oob_nI (by omega) (by decide)), ix_nI (by omega), c_max, clI_ok, nI_1]
          rfl
        · rw [t_M_earned_5, m, if_pos (nI_le (by omega) (by omega))]
  · cases hx : ixB x n with
    | false =>
      refine both0 (vI (-1)) (r_P_earned _ _ _ (Sm.ret ?_)) (r_M_earned _ _ _ (Sm.ret ?_)) trivial
      · rw [t_P_earned_0, if_neg x1]
        by_cases c : x < 0
        · rw [if_pos c]
        · rw [if_neg c, e]
          by_cases c2 : nI n ≤ x
          · rw [if_pos c2]
          · have : ixB x n = true := decide_eq_true ⟨nlt_i.mp c, nle_i.mp c2⟩
            rw [this] at hx; cases hx
      · rw [t_M_earned_0, if_neg x1, m, c_M_isIn, clI_ok, inB_pred (by omega), hx, itF]
    | true =>
      obtain ⟨i, hi, hi2, rfl⟩ := ixB_t hx
      refine both0 (vI (hI h 502000008 0 i)) (r_P_earned _ _ _ (Sm.ret ?_)) (r_M_earned _ _ _ (Sm.ret ?_)) trivial
      · rw [t_P_earned_0, if_neg x1, if_neg (nlt_i.mpr (nI_pos' hi2)), e, if_neg (nI_ge hi (by omega)), rd_Guides_purse (oob_nI (by omega) (by decide)), ix_nI hi2]
      · rw [t_M_earned_0, if_neg x1, m, c_M_isIn, clI_ok, inB_pred (by omega), hx, itT, rd_M_guideEarned (oob_nI (by omega) (by decide)), ix_nI hi2, q2]
theorem call_fail (x y z : Int32) (h : MH) (q : RFail h) (qb : RBoat h) : Both L scr (d + 40) SFail RFail 167 320 [vR 900011 0, vI x, vI y, vI z] [vR 900012 0, vI x, vI y, vI z] h := by
  obtain ⟨b1, n, hn, e, m, b2⟩ := qb
  cases hx : ixB x n with
  | false =>
    refine both0 (vI 0) (r_P_fail _ _ _ _ _ (Sm.ret ?_)) (r_M_fail _ _ _ _ _ (Sm.ret ?_)) q
    · rw [t_P_fail_0, c_P_isBoat e, clI_ok, hx, itF, rtZ0]
    · rw [t_M_fail_0, c_M_isBoat (by omega) m, clI_ok, hx, itF, rtZ0]
  | true =>
    cases hy : inB y 0 100 with
    | false =>
      refine both0 (vI 0) (r_P_fail _ _ _ _ _ (Sm.ret ?_)) (r_M_fail _ _ _ _ _ (Sm.ret ?_)) q
      · rw [t_P_fail_0, c_P_isBoat e, clI_ok, hx, itT, c_P_within, clI_ok, hy, itF, rtZ0]
      · rw [t_M_fail_0, c_M_isBoat (by omega) m, clI_ok, hx, itT, c_M_isIn, clI_ok, hy, itF, rtZ0]
    | true =>
      cases hz : inB z 0 999 with
      | false =>
        refine both0 (vI 0) (r_P_fail _ _ _ _ _ (Sm.ret ?_)) (r_M_fail _ _ _ _ _ (Sm.ret ?_)) q
        · rw [t_P_fail_0, c_P_isBoat e, clI_ok, hx, itT, c_P_within, clI_ok, hy, itT, c_P_isCoin, clI_ok, hz, itF, rtZ0]
        · rw [t_M_fail_0, c_M_isBoat (by omega) m, clI_ok, hx, itT, c_M_isIn, clI_ok, hy, itT, c_M_isIn, clI_ok, hz, itF, rtZ0]
      | true =>
        obtain ⟨i, hi, hi2, rfl⟩ := ixB_t hx
        have ob : ¬ oob (nI i) 20 := oob_nI (by omega) (by decide)
        have m1 : hI (sI (sI h 402000020 0 i y) 403000020 0 i z) 1335 0 0 = nI n := by rw [hI_rn (by decide), hI_rn (by decide)]; exact m
        refine ⟨vI 1, sI (sI h 402000020 0 i y) 403000020 0 i z, sI (sI (sI (sI h 402000020 0 i y) 403000020 0 i z) 1376000020 0 i y) 1377000020 0 i z, r_P_fail _ _ _ _ _ (Sm.ret ?_), r_M_fail _ _ _ _ _ (Sm.ret ?_), ((((Upd.rf _ h).sI (by decide)).sI (by decide)).sI (by decide)).sI (by decide), ?_⟩
        · rw [t_P_fail_0, c_P_isBoat e, clI_ok, hx, itT, c_P_within, clI_ok, hy, itT, c_P_isCoin, clI_ok, hz, itT, wr_Dock_failPart ob, ix_nI hi2, wr_Dock_failCoin ob, ix_nI hi2, rtZ1]
        · rw [t_M_fail_0, c_M_isBoat (by omega) m1, clI_ok, hx, itT, c_M_isIn, clI_ok, hy, itT, c_M_isIn, clI_ok, hz, itT, wr_M_failPart ob, ix_nI hi2, wr_M_failCoin ob, ix_nI hi2, rtZ1]
        · obtain ⟨v, hv, rfl⟩ := inB_t (n := 100) rfl hy
          obtain ⟨w, hw, rfl⟩ := inB_t (n := 999) rfl hz
          unfold RFail PFail at q ⊢
          simp only [hI_row, Nat.reduceEqDiff, false_and, and_false, and_true, true_and, if_true, if_false, reduceIte]
          refine ⟨by rw [q.1], by rw [q.2.1], fun j => ⟨?_, ?_⟩⟩
          · unfold up
            split
            · exact ⟨v, hv, rfl⟩
            · exact (q.2.2 j).1
          · unfold up
            split
            · exact ⟨w, hw, rfl⟩
            · exact (q.2.2 j).2
end More

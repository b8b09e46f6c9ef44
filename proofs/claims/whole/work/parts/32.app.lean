/-! CALLS THAT ADD A ROW (printed by wip/whole/emitapp.py) -/
section App
variable {L : Nat} {scr : Nat → Int32} {d : Nat}
theorem c_M_isDayI (x : Int32) (h : MH) : E L scr (d + 2) 202 [vI x] h = some (some (vI (zb (inB x 0 99))), h) := by
  rw [c_M_isDay, inB_ix (n := 99) rfl (by decide)]
theorem inB_lt {x y u : Int32} {a N : Nat} (hx : x = nI a) (ha : a ≤ N) (hN : N < 2 ^ 31) (hu : u.toInt = N) (h : inB y x u = true) : ∃ b, a ≤ b ∧ b ≤ N ∧ y = nI b := by
  unfold inB at h
  have h := of_decide_eq_true h
  subst hx
  obtain ⟨b, hb, rfl⟩ := nI_of2 hu (x := y) (by
    have := h.1
    rw [Int32.le_iff_toInt_le, nI_toInt (by omega)] at this
    rw [Int32.lt_iff_toInt_lt]
    show ¬ y.toInt < 0
    omega) h.2
  exact ⟨b, (nI_leI (by omega) (by omega)).mp h.1, hb, rfl⟩
theorem c_Book_addBoat (x : Int32) {n : Nat} {h : MH} (hn : n < 20) (e0 : hI h 200 0 0 = nI n) : E L scr (d + 1) 11 [vR 900001 0, vI x] h = some (some (vI (nI n)), (sI (sI h 201000020 0 n x) 200 0 0 (nI (n + 1)))) := by
  refine r_Book_addBoat 0 x h (Sm.ret ?_)
  have e1 : hI (sI h 201000020 0 n x) 200 0 0 = nI n := by rw [hI_rn (by decide)]; exact e0
  rw [t_Book_addBoat_0, e0, if_pos (show nI n < 20 from nI_lt (b := 20) hn (by decide)), wr_Book_kindOf (oob_nI hn (by decide)), ix_nI (by omega), e1, nI_1, hI_rs, up_s, nI_pred]
theorem c_Book_addBoat_full (x : Int32) {h : MH} (e0 : hI h 200 0 0 = nI 20) : E L scr (d + 1) 11 [vR 900001 0, vI x] h = some (some (vI (-1)), h) := by
  refine r_Book_addBoat 0 x h (Sm.ret ?_)
  rw [t_Book_addBoat_0, e0, if_neg (by decide)]
theorem call_boat (x : Int32) (h : MH) (q : RBoat h) : Both L scr (d + 40) SBoat RBoat 130 241 [vR 900011 0, vI x] [vR 900012 0, vI x] h := by
  cases hx : ixB x 4 with
  | false =>
    refine both0 (vI (-1)) (r_P_boat _ _ _ (Sm.ret ?_)) (r_M_boat _ _ _ (Sm.ret ?_)) q
    · rw [t_P_boat_0, c_P_isKind, clI_ok, hx, itF]
    · rw [t_M_boat_0, c_M_isKind, clI_ok, hx, itF]
  | true =>
    obtain ⟨q1, n, hn, e0, m0, q2⟩ := q
    rcases Nat.lt_or_ge n 20 with hl | hl
    · have m1 : hI (sI (sI h 201000020 0 n x) 200 0 0 (nI (n + 1))) 1335 0 0 = nI n := by rw [hI_rn (by decide), hI_rn (by decide)]; exact m0
      have m2 : hI (sI (sI (sI h 201000020 0 n x) 200 0 0 (nI (n + 1))) 1338000020 0 n x) 1335 0 0 = nI n := by rw [hI_rn (by decide)]; exact m1
      refine ⟨vI (nI n), (sI (sI h 201000020 0 n x) 200 0 0 (nI (n + 1))), (sI (sI (sI (sI h 201000020 0 n x) 200 0 0 (nI (n + 1))) 1338000020 0 n x) 1335 0 0 (nI (n + 1))), r_P_boat _ _ _ (Sm.ret ?_), r_M_boat _ _ _ (Sm.ret ?_), ((((Upd.rf _ h).sI (by decide)).sI (by decide)).sI (by decide)).sI (by decide), ?_⟩
      · rw [t_P_boat_0, c_P_isKind, clI_ok, hx, itT, c_Book_addBoat (n := n) x hl e0, clI_ok]
      · rw [t_M_boat_0, c_M_isKind, clI_ok, hx, itT, m1, if_neg (show ¬ nI n = 20 from fun z => absurd ((nI_eq (a := n) (b := 20) (by omega) (by decide)).mp z) (by omega)), wr_M_kindOf (oob_nI hl (by decide)), ix_nI (by omega), m2, nI_1, hI_rs, up_s, nI_pred]
      · unfold RBoat PBoat
        simp only [hI_row]
        simp only [up_s, Nat.reduceEqDiff, false_and, and_false, and_true, true_and, if_true, if_false, reduceIte]
        obtain ⟨a, ha, ha2, rfl⟩ := ixB_t hx
        refine ⟨by rw [q1], n + 1, by omega, rfl, rfl, fun j => ?_⟩
        unfold up
        split
        · exact ⟨a, ha, rfl⟩
        · exact q2 j
    · have en : n = 20 := by omega
      subst en
      refine both0 (vI (-1)) (r_P_boat _ _ _ (Sm.ret ?_)) (r_M_boat _ _ _ (Sm.ret ?_)) ⟨q1, 20, hn, e0, m0, q2⟩
      · rw [t_P_boat_0, c_P_isKind, clI_ok, hx, itT, c_Book_addBoat_full x e0, clI_ok]
      · rw [t_M_boat_0, c_M_isKind, clI_ok, hx, itT, m0, if_pos (show nI 20 = 20 from rfl)]
theorem c_Roller_add (x : Int32) (y : Int32) {n : Nat} {h : MH} (hn : n < 7) (e0 : hI h 900 0 0 = nI n) : E L scr (d + 1) 102 [vR 900008 0, vI x, vI y] h = some (some (vI (nI (n + 1))), (sI (sI (sI h 901000007 0 n x) 902000007 0 n y) 900 0 0 (nI (n + 1)))) := by
  refine r_Roller_add 0 x y h (Sm.ret ?_)
  have e1 : hI (sI h 901000007 0 n x) 900 0 0 = nI n := by rw [hI_rn (by decide)]; exact e0
  have e2 : hI (sI (sI h 901000007 0 n x) 902000007 0 n y) 900 0 0 = nI n := by rw [hI_rn (by decide)]; exact e1
  rw [t_Roller_add_0, e0, if_pos (show nI n < 7 from nI_lt (b := 7) hn (by decide)), wr_Roller_comes (oob_nI hn (by decide)), ix_nI (by omega), e1, wr_Roller_takes (oob_nI hn (by decide)), ix_nI (by omega), e2, nI_1, hI_rs, up_s]
theorem c_Roller_add_full (x : Int32) (y : Int32) {h : MH} (e0 : hI h 900 0 0 = nI 7) : E L scr (d + 1) 102 [vR 900008 0, vI x, vI y] h = some (some (vI (-1)), h) := by
  refine r_Roller_add 0 x y h (Sm.ret ?_)
  rw [t_Roller_add_0, e0, if_neg (by decide)]
theorem call_roll (x : Int32) (y : Int32) (h : MH) (q : RRoll h) : Both L scr (d + 40) SRoll RRoll 156 299 [vR 900011 0, vI x, vI y] [vR 900012 0, vI x, vI y] h := by
  cases hx : inB x 0 719 with
  | false =>
    refine both0 (vI (-1)) (r_P_roll _ _ _ _ (Sm.ret ?_)) (r_M_roll _ _ _ _ (Sm.ret ?_)) q
    · rw [t_P_roll_0, c_P_within, clI_ok, hx, itF]
    · rw [t_M_roll_0, c_M_isIn, clI_ok, hx, itF]
  | true =>
    cases hy : inB y 1 99 with
    | false =>
      refine both0 (vI (-1)) (r_P_roll _ _ _ _ (Sm.ret ?_)) (r_M_roll _ _ _ _ (Sm.ret ?_)) q
      · rw [t_P_roll_0, c_P_within, clI_ok, hx, itT, c_P_within, clI_ok, hy, itF]
      · rw [t_M_roll_0, c_M_isIn, clI_ok, hx, itT, c_M_isIn, clI_ok, hy, itF]
    | true =>
      obtain ⟨q1, q2, n, hn, e0, m0, q3⟩ := q
      rcases Nat.lt_or_ge n 7 with hl | hl
      · have m1 : hI (sI (sI (sI h 901000007 0 n x) 902000007 0 n y) 900 0 0 (nI (n + 1))) 1360 0 0 = nI n := by rw [hI_rn (by decide), hI_rn (by decide), hI_rn (by decide)]; exact m0
        have m2 : hI (sI (sI (sI (sI h 901000007 0 n x) 902000007 0 n y) 900 0 0 (nI (n + 1))) 1362000007 0 n x) 1360 0 0 = nI n := by rw [hI_rn (by decide)]; exact m1
        have m3 : hI (sI (sI (sI (sI (sI h 901000007 0 n x) 902000007 0 n y) 900 0 0 (nI (n + 1))) 1362000007 0 n x) 1363000007 0 n y) 1360 0 0 = nI n := by rw [hI_rn (by decide)]; exact m2
        refine ⟨vI (nI (n + 1)), (sI (sI (sI h 901000007 0 n x) 902000007 0 n y) 900 0 0 (nI (n + 1))), (sI (sI (sI (sI (sI (sI h 901000007 0 n x) 902000007 0 n y) 900 0 0 (nI (n + 1))) 1362000007 0 n x) 1363000007 0 n y) 1360 0 0 (nI (n + 1))), r_P_roll _ _ _ _ (Sm.ret ?_), r_M_roll _ _ _ _ (Sm.ret ?_), ((((((Upd.rf _ h).sI (by decide)).sI (by decide)).sI (by decide)).sI (by decide)).sI (by decide)).sI (by decide), ?_⟩
        · rw [t_P_roll_0, c_P_within, clI_ok, hx, itT, c_P_within, clI_ok, hy, itT, c_Roller_add (n := n) x y hl e0, clI_ok]
        · rw [t_M_roll_0, c_M_isIn, clI_ok, hx, itT, c_M_isIn, clI_ok, hy, itT, m1, if_neg (show ¬ nI n = 7 from fun z => absurd ((nI_eq (a := n) (b := 7) (by omega) (by decide)).mp z) (by omega)), wr_M_rollAt (oob_nI hl (by decide)), ix_nI (by omega), m2, wr_M_rollTakes (oob_nI hl (by decide)), ix_nI (by omega), m3, nI_1, hI_rs, up_s]
        · unfold RRoll PRoll
          simp only [hI_row]
          simp only [up_s, Nat.reduceEqDiff, false_and, and_false, and_true, true_and, if_true, if_false, reduceIte]
          obtain ⟨a, ha, rfl⟩ := inB_t (n := 719) rfl hx
          obtain ⟨b, hb1, hb2, rfl⟩ := inB_lt (x := 1) (a := 1) (N := 99) rfl (by decide) (by decide) rfl hy
          refine ⟨by rw [q1], by rw [q2], n + 1, by omega, rfl, rfl, fun j => ⟨?_, ?_⟩⟩
          · unfold up
            split
            · exact ⟨a, ha, rfl⟩
            · exact (q3 j).1
          · unfold up
            split
            · exact ⟨b, hb2, rfl⟩
            · exact (q3 j).2
      · have en : n = 7 := by omega
        subst en
        refine both0 (vI (-1)) (r_P_roll _ _ _ _ (Sm.ret ?_)) (r_M_roll _ _ _ _ (Sm.ret ?_)) ⟨q1, q2, 7, hn, e0, m0, q3⟩
        · rw [t_P_roll_0, c_P_within, clI_ok, hx, itT, c_P_within, clI_ok, hy, itT, c_Roller_add_full x y e0, clI_ok]
        · rw [t_M_roll_0, c_M_isIn, clI_ok, hx, itT, c_M_isIn, clI_ok, hy, itT, m0, if_pos (show nI 7 = 7 from rfl)]
theorem c_Guides_addGuide (x : Int32) {n : Nat} {h : MH} (hn : n < 8) (e0 : hI h 500 0 0 = nI n) : E L scr (d + 1) 44 [vR 900004 0, vI x] h = some (some (vI (nI n)), (sI (sI (sI h 501000008 0 n x) 502000008 0 n 0) 500 0 0 (nI (n + 1)))) := by
  refine r_Guides_addGuide 0 x h (Sm.ret ?_)
  have e1 : hI (sI h 501000008 0 n x) 500 0 0 = nI n := by rw [hI_rn (by decide)]; exact e0
  have e2 : hI (sI (sI h 501000008 0 n x) 502000008 0 n 0) 500 0 0 = nI n := by rw [hI_rn (by decide)]; exact e1
  rw [t_Guides_addGuide_0, e0, if_pos (show nI n < 8 from nI_lt (b := 8) hn (by decide)), wr_Guides_knows (oob_nI hn (by decide)), ix_nI (by omega), e1, wr_Guides_purse (oob_nI hn (by decide)), ix_nI (by omega), e2, nI_1, hI_rs, up_s, nI_pred]
theorem c_Guides_addGuide_full (x : Int32) {h : MH} (e0 : hI h 500 0 0 = nI 8) : E L scr (d + 1) 44 [vR 900004 0, vI x] h = some (some (vI (-1)), h) := by
  refine r_Guides_addGuide 0 x h (Sm.ret ?_)
  rw [t_Guides_addGuide_0, e0, if_neg (by decide)]
theorem call_guide (x : Int32) (h : MH) (q : RGuide h) : Both L scr (d + 40) SGuide RGuide 158 303 [vR 900011 0, vI x] [vR 900012 0, vI x] h := by
  cases hx : inB x 0 255 with
  | false =>
    refine both0 (vI (-1)) (r_P_guide _ _ _ (Sm.ret ?_)) (r_M_guide _ _ _ (Sm.ret ?_)) q
    · rw [t_P_guide_0, c_P_within, clI_ok, hx, itF]
    · rw [t_M_guide_0, c_M_isIn, clI_ok, hx, itF]
  | true =>
    obtain ⟨q1, q2, n, hn, e0, m0⟩ := q
    rcases Nat.lt_or_ge n 8 with hl | hl
    · have m1 : hI (sI (sI (sI h 501000008 0 n x) 502000008 0 n 0) 500 0 0 (nI (n + 1))) 1366 0 0 = nI n := by rw [hI_rn (by decide), hI_rn (by decide), hI_rn (by decide)]; exact m0
      have m2 : hI (sI (sI (sI (sI h 501000008 0 n x) 502000008 0 n 0) 500 0 0 (nI (n + 1))) 1368000008 0 n x) 1366 0 0 = nI n := by rw [hI_rn (by decide)]; exact m1
      have m3 : hI (sI (sI (sI (sI (sI h 501000008 0 n x) 502000008 0 n 0) 500 0 0 (nI (n + 1))) 1368000008 0 n x) 1369000008 0 n 0) 1366 0 0 = nI n := by rw [hI_rn (by decide)]; exact m2
      refine ⟨vI (nI n), (sI (sI (sI h 501000008 0 n x) 502000008 0 n 0) 500 0 0 (nI (n + 1))), (sI (sI (sI (sI (sI (sI h 501000008 0 n x) 502000008 0 n 0) 500 0 0 (nI (n + 1))) 1368000008 0 n x) 1369000008 0 n 0) 1366 0 0 (nI (n + 1))), r_P_guide _ _ _ (Sm.ret ?_), r_M_guide _ _ _ (Sm.ret ?_), ((((((Upd.rf _ h).sI (by decide)).sI (by decide)).sI (by decide)).sI (by decide)).sI (by decide)).sI (by decide), ?_⟩
      · rw [t_P_guide_0, c_P_within, clI_ok, hx, itT, c_Guides_addGuide (n := n) x hl e0, clI_ok]
      · rw [t_M_guide_0, c_M_isIn, clI_ok, hx, itT, m1, if_neg (show ¬ nI n = 8 from fun z => absurd ((nI_eq (a := n) (b := 8) (by omega) (by decide)).mp z) (by omega)), wr_M_guideSongs (oob_nI hl (by decide)), ix_nI (by omega), m2, wr_M_guideEarned (oob_nI hl (by decide)), ix_nI (by omega), m3, nI_1, hI_rs, up_s, nI_pred]
      · unfold RGuide PGuide
        simp only [hI_row]
        simp only [up_s, Nat.reduceEqDiff, false_and, and_false, and_true, true_and, if_true, if_false, reduceIte]
        exact ⟨by rw [q1], by rw [q2], n + 1, by omega, rfl, rfl⟩
    · have en : n = 8 := by omega
      subst en
      refine both0 (vI (-1)) (r_P_guide _ _ _ (Sm.ret ?_)) (r_M_guide _ _ _ (Sm.ret ?_)) ⟨q1, q2, 8, hn, e0, m0⟩
      · rw [t_P_guide_0, c_P_within, clI_ok, hx, itT, c_Guides_addGuide_full x e0, clI_ok]
      · rw [t_M_guide_0, c_M_isIn, clI_ok, hx, itT, m0, if_pos (show nI 8 = 8 from rfl)]
theorem c_Guides_addParty (x : Int32) (y : Int32) {n : Nat} {h : MH} (hn : n < 8) (e0 : hI h 503 0 0 = nI n) : E L scr (d + 1) 45 [vR 900004 0, vI x, vI y] h = some (some (vI (nI n)), (sI (sI (sI h 504000008 0 n x) 505000008 0 n y) 503 0 0 (nI (n + 1)))) := by
  refine r_Guides_addParty 0 x y h (Sm.ret ?_)
  have e1 : hI (sI h 504000008 0 n x) 503 0 0 = nI n := by rw [hI_rn (by decide)]; exact e0
  have e2 : hI (sI (sI h 504000008 0 n x) 505000008 0 n y) 503 0 0 = nI n := by rw [hI_rn (by decide)]; exact e1
  rw [t_Guides_addParty_0, e0, if_pos (show nI n < 8 from nI_lt (b := 8) hn (by decide)), wr_Guides_wants (oob_nI hn (by decide)), ix_nI (by omega), e1, wr_Guides_pays (oob_nI hn (by decide)), ix_nI (by omega), e2, nI_1, hI_rs, up_s, nI_pred]
theorem c_Guides_addParty_full (x : Int32) (y : Int32) {h : MH} (e0 : hI h 503 0 0 = nI 8) : E L scr (d + 1) 45 [vR 900004 0, vI x, vI y] h = some (some (vI (-1)), h) := by
  refine r_Guides_addParty 0 x y h (Sm.ret ?_)
  rw [t_Guides_addParty_0, e0, if_neg (by decide)]
theorem call_party (x : Int32) (y : Int32) (h : MH) (q : RParty h) : Both L scr (d + 40) SParty RParty 159 304 [vR 900011 0, vI x, vI y] [vR 900012 0, vI x, vI y] h := by
  cases hx : inB x 0 255 with
  | false =>
    refine both0 (vI (-1)) (r_P_party _ _ _ _ (Sm.ret ?_)) (r_M_party _ _ _ _ (Sm.ret ?_)) q
    · rw [t_P_party_0, c_P_within, clI_ok, hx, itF]
    · rw [t_M_party_0, c_M_isIn, clI_ok, hx, itF]
  | true =>
    cases hy : inB y 0 999 with
    | false =>
      refine both0 (vI (-1)) (r_P_party _ _ _ _ (Sm.ret ?_)) (r_M_party _ _ _ _ (Sm.ret ?_)) q
      · rw [t_P_party_0, c_P_within, clI_ok, hx, itT, c_P_isCoin, clI_ok, hy, itF]
      · rw [t_M_party_0, c_M_isIn, clI_ok, hx, itT, c_M_isIn, clI_ok, hy, itF]
    | true =>
      obtain ⟨q1, q2, n, hn, e0, m0, q3⟩ := q
      rcases Nat.lt_or_ge n 8 with hl | hl
      · have m1 : hI (sI (sI (sI h 504000008 0 n x) 505000008 0 n y) 503 0 0 (nI (n + 1))) 1367 0 0 = nI n := by rw [hI_rn (by decide), hI_rn (by decide), hI_rn (by decide)]; exact m0
        have m2 : hI (sI (sI (sI (sI h 504000008 0 n x) 505000008 0 n y) 503 0 0 (nI (n + 1))) 1370000008 0 n x) 1367 0 0 = nI n := by rw [hI_rn (by decide)]; exact m1
        have m3 : hI (sI (sI (sI (sI (sI h 504000008 0 n x) 505000008 0 n y) 503 0 0 (nI (n + 1))) 1370000008 0 n x) 1371000008 0 n y) 1367 0 0 = nI n := by rw [hI_rn (by decide)]; exact m2
        refine ⟨vI (nI n), (sI (sI (sI h 504000008 0 n x) 505000008 0 n y) 503 0 0 (nI (n + 1))), (sI (sI (sI (sI (sI (sI h 504000008 0 n x) 505000008 0 n y) 503 0 0 (nI (n + 1))) 1370000008 0 n x) 1371000008 0 n y) 1367 0 0 (nI (n + 1))), r_P_party _ _ _ _ (Sm.ret ?_), r_M_party _ _ _ _ (Sm.ret ?_), ((((((Upd.rf _ h).sI (by decide)).sI (by decide)).sI (by decide)).sI (by decide)).sI (by decide)).sI (by decide), ?_⟩
        · rw [t_P_party_0, c_P_within, clI_ok, hx, itT, c_P_isCoin, clI_ok, hy, itT, c_Guides_addParty (n := n) x y hl e0, clI_ok]
        · rw [t_M_party_0, c_M_isIn, clI_ok, hx, itT, c_M_isIn, clI_ok, hy, itT, m1, if_neg (show ¬ nI n = 8 from fun z => absurd ((nI_eq (a := n) (b := 8) (by omega) (by decide)).mp z) (by omega)), wr_M_partySongs (oob_nI hl (by decide)), ix_nI (by omega), m2, wr_M_partyCoin (oob_nI hl (by decide)), ix_nI (by omega), m3, nI_1, hI_rs, up_s, nI_pred]
        · unfold RParty PParty
          simp only [hI_row]
          simp only [up_s, Nat.reduceEqDiff, false_and, and_false, and_true, true_and, if_true, if_false, reduceIte]
          obtain ⟨b, hb, rfl⟩ := inB_t (n := 999) rfl hy
          refine ⟨by rw [q1], by rw [q2], n + 1, by omega, rfl, rfl, fun j => ?_⟩
          unfold up
          split
          · exact ⟨b, hb, rfl⟩
          · exact q3 j
      · have en : n = 8 := by omega
        subst en
        refine both0 (vI (-1)) (r_P_party _ _ _ _ (Sm.ret ?_)) (r_M_party _ _ _ _ (Sm.ret ?_)) ⟨q1, q2, 8, hn, e0, m0, q3⟩
        · rw [t_P_party_0, c_P_within, clI_ok, hx, itT, c_P_isCoin, clI_ok, hy, itT, c_Guides_addParty_full x y e0, clI_ok]
        · rw [t_M_party_0, c_M_isIn, clI_ok, hx, itT, c_M_isIn, clI_ok, hy, itT, m0, if_pos (show nI 8 = 8 from rfl)]
theorem c_Demand_addLoyal (x : Int32) {n : Nat} {h : MH} (hn : n < 12) (e0 : hI h 301 0 0 = nI n) : E L scr (d + 1) 28 [vR 900002 0, vI x] h = some (some (vI (nI (n + 1))), (sI (sI h 302000012 0 n x) 301 0 0 (nI (n + 1)))) := by
  refine r_Demand_addLoyal 0 x h (Sm.ret ?_)
  have e1 : hI (sI h 302000012 0 n x) 301 0 0 = nI n := by rw [hI_rn (by decide)]; exact e0
  rw [t_Demand_addLoyal_0, e0, if_pos (show nI n < 12 from nI_lt (b := 12) hn (by decide)), wr_Demand_patience (oob_nI hn (by decide)), ix_nI (by omega), e1, nI_1, hI_rs, up_s]
theorem c_Demand_addLoyal_full (x : Int32) {h : MH} (e0 : hI h 301 0 0 = nI 12) : E L scr (d + 1) 28 [vR 900002 0, vI x] h = some (some (vI (-1)), h) := by
  refine r_Demand_addLoyal 0 x h (Sm.ret ?_)
  rw [t_Demand_addLoyal_0, e0, if_neg (by decide)]
theorem call_loyal (x : Int32) (h : MH) (q : RLoyal h) : Both L scr (d + 40) SLoyal RLoyal 169 322 [vR 900011 0, vI x] [vR 900012 0, vI x] h := by
  cases hx : inB x 0 999 with
  | false =>
    refine both0 (vI (-1)) (r_P_loyal _ _ _ (Sm.ret ?_)) (r_M_loyal _ _ _ (Sm.ret ?_)) q
    · rw [t_P_loyal_0, c_P_isCoin, clI_ok, hx, itF]
    · rw [t_M_loyal_0, c_M_isIn, clI_ok, hx, itF]
  | true =>
    obtain ⟨q1, n, hn, e0, m0, q2⟩ := q
    rcases Nat.lt_or_ge n 12 with hl | hl
    · have m1 : hI (sI (sI h 302000012 0 n x) 301 0 0 (nI (n + 1))) 1381 0 0 = nI n := by rw [hI_rn (by decide), hI_rn (by decide)]; exact m0
      have m2 : hI (sI (sI (sI h 302000012 0 n x) 301 0 0 (nI (n + 1))) 1382000012 0 n x) 1381 0 0 = nI n := by rw [hI_rn (by decide)]; exact m1
      refine ⟨vI (nI (n + 1)), (sI (sI h 302000012 0 n x) 301 0 0 (nI (n + 1))), (sI (sI (sI (sI h 302000012 0 n x) 301 0 0 (nI (n + 1))) 1382000012 0 n x) 1381 0 0 (nI (n + 1))), r_P_loyal _ _ _ (Sm.ret ?_), r_M_loyal _ _ _ (Sm.ret ?_), ((((Upd.rf _ h).sI (by decide)).sI (by decide)).sI (by decide)).sI (by decide), ?_⟩
      · rw [t_P_loyal_0, c_P_isCoin, clI_ok, hx, itT, c_Demand_addLoyal (n := n) x hl e0, clI_ok]
      · rw [t_M_loyal_0, c_M_isIn, clI_ok, hx, itT, m1, if_neg (show ¬ nI n = 12 from fun z => absurd ((nI_eq (a := n) (b := 12) (by omega) (by decide)).mp z) (by omega)), wr_M_loyal (oob_nI hl (by decide)), ix_nI (by omega), m2, nI_1, hI_rs, up_s]
      · unfold RLoyal PLoyal
        simp only [hI_row]
        simp only [up_s, Nat.reduceEqDiff, false_and, and_false, and_true, true_and, if_true, if_false, reduceIte]
        obtain ⟨b, hb, rfl⟩ := inB_t (n := 999) rfl hx
        refine ⟨by rw [q1], n + 1, by omega, rfl, rfl, fun j => ?_⟩
        unfold up
        split
        · exact ⟨b, hb, rfl⟩
        · exact q2 j
    · have en : n = 12 := by omega
      subst en
      refine both0 (vI (-1)) (r_P_loyal _ _ _ (Sm.ret ?_)) (r_M_loyal _ _ _ (Sm.ret ?_)) ⟨q1, 12, hn, e0, m0, q2⟩
      · rw [t_P_loyal_0, c_P_isCoin, clI_ok, hx, itT, c_Demand_addLoyal_full x e0, clI_ok]
      · rw [t_M_loyal_0, c_M_isIn, clI_ok, hx, itT, m0, if_pos (show nI 12 = 12 from rfl)]
theorem c_River_addSpell (x : Int32) (y : Int32) (z : Int32) {n : Nat} {h : MH} (hn : n < 40) (e0 : hI h 801 0 0 = nI n) : E L scr (d + 1) 92 [vR 900007 0, vI x, vI y, vI z] h = some (some (vI (nI (n + 1))), (sI (sI (sI (sI h 802000040 0 n x) 803000040 0 n y) 804000040 0 n z) 801 0 0 (nI (n + 1)))) := by
  refine r_River_addSpell 0 x y z h (Sm.ret ?_)
  have e1 : hI (sI h 802000040 0 n x) 801 0 0 = nI n := by rw [hI_rn (by decide)]; exact e0
  have e2 : hI (sI (sI h 802000040 0 n x) 803000040 0 n y) 801 0 0 = nI n := by rw [hI_rn (by decide)]; exact e1
  have e3 : hI (sI (sI (sI h 802000040 0 n x) 803000040 0 n y) 804000040 0 n z) 801 0 0 = nI n := by rw [hI_rn (by decide)]; exact e2
  rw [t_River_addSpell_0, e0, if_pos (show nI n < 40 from nI_lt (b := 40) hn (by decide)), wr_River_spellDay (oob_nI hn (by decide)), ix_nI (by omega), e1, wr_River_spellFrom (oob_nI hn (by decide)), ix_nI (by omega), e2, wr_River_spellTo (oob_nI hn (by decide)), ix_nI (by omega), e3, nI_1, hI_rs, up_s]
theorem c_River_addSpell_full (x : Int32) (y : Int32) (z : Int32) {h : MH} (e0 : hI h 801 0 0 = nI 40) : E L scr (d + 1) 92 [vR 900007 0, vI x, vI y, vI z] h = some (some (vI (-1)), h) := by
  refine r_River_addSpell 0 x y z h (Sm.ret ?_)
  rw [t_River_addSpell_0, e0, if_neg (by decide)]
theorem call_rain (x : Int32) (y : Int32) (z : Int32) (h : MH) (q : RSpell h) : Both L scr (d + 40) SSpell RSpell 129 236 [vR 900011 0, vI x, vI y, vI z] [vR 900012 0, vI x, vI y, vI z] h := by
  cases hx : ixB x 100 with
  | false =>
    refine both0 (vI (-1)) (r_P_rain _ _ _ _ _ (Sm.ret ?_)) (r_M_rain _ _ _ _ _ (Sm.ret ?_)) q
    · rw [t_P_rain_0, c_P_isDay, clI_ok, hx, itF]
    · rw [t_M_rain_0, c_M_isDay, clI_ok, hx, itF]
  | true =>
    cases hs1 : inB y 0 719 with
    | false =>
      refine both0 (vI (-1)) (r_P_rain _ _ _ _ _ (Sm.ret ?_)) (r_M_rain _ _ _ _ _ (Sm.ret ?_)) q
      · rw [t_P_rain_0, c_P_isDay, clI_ok, hx, itT, c_P_isSpan _ _ 720 (N := 719) rfl 719 rfl, clI_ok, hs1, Bool.false_and, itF]
      · rw [t_M_rain_0, c_M_isDay, clI_ok, hx, itT, c_M_isIn, clI_ok, hs1, itF]
    | true =>
      cases hs2 : inB z y 719 with
      | false =>
        refine both0 (vI (-1)) (r_P_rain _ _ _ _ _ (Sm.ret ?_)) (r_M_rain _ _ _ _ _ (Sm.ret ?_)) q
        · rw [t_P_rain_0, c_P_isDay, clI_ok, hx, itT, c_P_isSpan _ _ 720 (N := 719) rfl 719 rfl, clI_ok, hs1, hs2, Bool.and_false, itF]
        · rw [t_M_rain_0, c_M_isDay, clI_ok, hx, itT, c_M_isIn, clI_ok, hs1, itT, c_M_isIn, clI_ok, hs2, itF]
      | true =>
        obtain ⟨q1, q2, q3, n, hn, e0, m0, q4⟩ := q
        rcases Nat.lt_or_ge n 40 with hl | hl
        · have m1 : hI (sI (sI (sI (sI h 802000040 0 n x) 803000040 0 n y) 804000040 0 n z) 801 0 0 (nI (n + 1))) 1326 0 0 = nI n := by rw [hI_rn (by decide), hI_rn (by decide), hI_rn (by decide), hI_rn (by decide)]; exact m0
          have m2 : hI (sI (sI (sI (sI (sI h 802000040 0 n x) 803000040 0 n y) 804000040 0 n z) 801 0 0 (nI (n + 1))) 1332000040 0 n x) 1326 0 0 = nI n := by rw [hI_rn (by decide)]; exact m1
          have m3 : hI (sI (sI (sI (sI (sI (sI h 802000040 0 n x) 803000040 0 n y) 804000040 0 n z) 801 0 0 (nI (n + 1))) 1332000040 0 n x) 1333000040 0 n y) 1326 0 0 = nI n := by rw [hI_rn (by decide)]; exact m2
          have m4 : hI (sI (sI (sI (sI (sI (sI (sI h 802000040 0 n x) 803000040 0 n y) 804000040 0 n z) 801 0 0 (nI (n + 1))) 1332000040 0 n x) 1333000040 0 n y) 1334000040 0 n z) 1326 0 0 = nI n := by rw [hI_rn (by decide)]; exact m3
          refine ⟨vI (nI (n + 1)), (sI (sI (sI (sI h 802000040 0 n x) 803000040 0 n y) 804000040 0 n z) 801 0 0 (nI (n + 1))), (sI (sI (sI (sI (sI (sI (sI (sI h 802000040 0 n x) 803000040 0 n y) 804000040 0 n z) 801 0 0 (nI (n + 1))) 1332000040 0 n x) 1333000040 0 n y) 1334000040 0 n z) 1326 0 0 (nI (n + 1))), r_P_rain _ _ _ _ _ (Sm.ret ?_), r_M_rain _ _ _ _ _ (Sm.ret ?_), ((((((((Upd.rf _ h).sI (by decide)).sI (by decide)).sI (by decide)).sI (by decide)).sI (by decide)).sI (by decide)).sI (by decide)).sI (by decide), ?_⟩
          · rw [t_P_rain_0, c_P_isDay, clI_ok, hx, itT, c_P_isSpan _ _ 720 (N := 719) rfl 719 rfl, clI_ok, hs1, hs2, Bool.and_true, itT, c_River_addSpell (n := n) x y z hl e0, clI_ok]
          · rw [t_M_rain_0, c_M_isDay, clI_ok, hx, itT, c_M_isIn, clI_ok, hs1, itT, c_M_isIn, clI_ok, hs2, itT, m1, if_neg (show ¬ nI n = 40 from fun z => absurd ((nI_eq (a := n) (b := 40) (by omega) (by decide)).mp z) (by omega)), wr_M_spellDay (oob_nI hl (by decide)), ix_nI (by omega), m2, wr_M_spellFrom (oob_nI hl (by decide)), ix_nI (by omega), m3, wr_M_spellTo (oob_nI hl (by decide)), ix_nI (by omega), m4, nI_1, hI_rs, up_s]
          · unfold RSpell PSpell
            simp only [hI_row]
            simp only [up_s, Nat.reduceEqDiff, false_and, and_false, and_true, true_and, if_true, if_false, reduceIte]
            obtain ⟨a, ha, ha2, rfl⟩ := ixB_t hx
            obtain ⟨b, hb, rfl⟩ := inB_t (n := 719) rfl hs1
            obtain ⟨c, hc1, hc2, rfl⟩ := inB_lt (N := 719) rfl hb (by decide) rfl hs2
            refine ⟨by rw [q1], by rw [q2], by rw [q3], n + 1, by omega, rfl, rfl, fun j hj => ?_⟩
            unfold up
            by_cases ej : j = n
            · rw [if_pos ej, if_pos ej, if_pos ej]
              exact ⟨a, b, c, ha, hc1, by omega, rfl, rfl, rfl⟩
            · rw [if_neg ej, if_neg ej, if_neg ej]
              exact q4 j (by omega)
        · have en : n = 40 := by omega
          subst en
          refine both0 (vI (-1)) (r_P_rain _ _ _ _ _ (Sm.ret ?_)) (r_M_rain _ _ _ _ _ (Sm.ret ?_)) ⟨q1, q2, q3, 40, hn, e0, m0, q4⟩
          · rw [t_P_rain_0, c_P_isDay, clI_ok, hx, itT, c_P_isSpan _ _ 720 (N := 719) rfl 719 rfl, clI_ok, hs1, hs2, Bool.and_true, itT, c_River_addSpell_full x y z e0, clI_ok]
          · rw [t_M_rain_0, c_M_isDay, clI_ok, hx, itT, c_M_isIn, clI_ok, hs1, itT, c_M_isIn, clI_ok, hs2, itT, m0, if_pos (show nI 40 = 40 from rfl)]
theorem c_River_addNest (x : Int32) (y : Int32) (z : Int32) {n : Nat} {h : MH} (hn : n < 20) (e0 : hI h 807 0 0 = nI n) : E L scr (d + 1) 93 [vR 900007 0, vI x, vI y, vI z] h = some (some (vI (nI (n + 1))), (sI (sI (sI (sI h 808000020 0 n x) 809000020 0 n y) 810000020 0 n z) 807 0 0 (nI (n + 1)))) := by
  refine r_River_addNest 0 x y z h (Sm.ret ?_)
  have e1 : hI (sI h 808000020 0 n x) 807 0 0 = nI n := by rw [hI_rn (by decide)]; exact e0
  have e2 : hI (sI (sI h 808000020 0 n x) 809000020 0 n y) 807 0 0 = nI n := by rw [hI_rn (by decide)]; exact e1
  have e3 : hI (sI (sI (sI h 808000020 0 n x) 809000020 0 n y) 810000020 0 n z) 807 0 0 = nI n := by rw [hI_rn (by decide)]; exact e2
  rw [t_River_addNest_0, e0, if_pos (show nI n < 20 from nI_lt (b := 20) hn (by decide)), wr_River_nestReach (oob_nI hn (by decide)), ix_nI (by omega), e1, wr_River_nestFrom (oob_nI hn (by decide)), ix_nI (by omega), e2, wr_River_nestTo (oob_nI hn (by decide)), ix_nI (by omega), e3, nI_1, hI_rs, up_s]
theorem c_River_addNest_full (x : Int32) (y : Int32) (z : Int32) {h : MH} (e0 : hI h 807 0 0 = nI 20) : E L scr (d + 1) 93 [vR 900007 0, vI x, vI y, vI z] h = some (some (vI (-1)), h) := by
  refine r_River_addNest 0 x y z h (Sm.ret ?_)
  rw [t_River_addNest_0, e0, if_neg (by decide)]
theorem call_nest (x : Int32) (y : Int32) (z : Int32) (h : MH) (q : RNest h) : Both L scr (d + 40) SNest RNest 171 325 [vR 900011 0, vI x, vI y, vI z] [vR 900012 0, vI x, vI y, vI z] h := by
  cases hx : inB x 0 15 with
  | false =>
    refine both0 (vI (-1)) (r_P_nest _ _ _ _ _ (Sm.ret ?_)) (r_M_nest _ _ _ _ _ (Sm.ret ?_)) q
    · rw [t_P_nest_0, c_P_within, clI_ok, hx, itF]
    · rw [t_M_nest_0, c_M_isIn, clI_ok, hx, itF]
  | true =>
    cases hs1 : inB y 0 99 with
    | false =>
      refine both0 (vI (-1)) (r_P_nest _ _ _ _ _ (Sm.ret ?_)) (r_M_nest _ _ _ _ _ (Sm.ret ?_)) q
      · rw [t_P_nest_0, c_P_within, clI_ok, hx, itT, c_P_isSpan _ _ 100 (N := 99) rfl 99 rfl, clI_ok, hs1, Bool.false_and, itF]
      · rw [t_M_nest_0, c_M_isIn, clI_ok, hx, itT, c_M_isDayI, clI_ok, hs1, itF]
    | true =>
      cases hs2 : inB z y 99 with
      | false =>
        refine both0 (vI (-1)) (r_P_nest _ _ _ _ _ (Sm.ret ?_)) (r_M_nest _ _ _ _ _ (Sm.ret ?_)) q
        · rw [t_P_nest_0, c_P_within, clI_ok, hx, itT, c_P_isSpan _ _ 100 (N := 99) rfl 99 rfl, clI_ok, hs1, hs2, Bool.and_false, itF]
        · rw [t_M_nest_0, c_M_isIn, clI_ok, hx, itT, c_M_isDayI, clI_ok, hs1, itT, c_M_isIn, clI_ok, hs2, itF]
      | true =>
        obtain ⟨q1, q2, q3, n, hn, e0, m0⟩ := q
        rcases Nat.lt_or_ge n 20 with hl | hl
        · have m1 : hI (sI (sI (sI (sI h 808000020 0 n x) 809000020 0 n y) 810000020 0 n z) 807 0 0 (nI (n + 1))) 1383 0 0 = nI n := by rw [hI_rn (by decide), hI_rn (by decide), hI_rn (by decide), hI_rn (by decide)]; exact m0
          have m2 : hI (sI (sI (sI (sI (sI h 808000020 0 n x) 809000020 0 n y) 810000020 0 n z) 807 0 0 (nI (n + 1))) 1385000020 0 n x) 1383 0 0 = nI n := by rw [hI_rn (by decide)]; exact m1
          have m3 : hI (sI (sI (sI (sI (sI (sI h 808000020 0 n x) 809000020 0 n y) 810000020 0 n z) 807 0 0 (nI (n + 1))) 1385000020 0 n x) 1386000020 0 n y) 1383 0 0 = nI n := by rw [hI_rn (by decide)]; exact m2
          have m4 : hI (sI (sI (sI (sI (sI (sI (sI h 808000020 0 n x) 809000020 0 n y) 810000020 0 n z) 807 0 0 (nI (n + 1))) 1385000020 0 n x) 1386000020 0 n y) 1387000020 0 n z) 1383 0 0 = nI n := by rw [hI_rn (by decide)]; exact m3
          refine ⟨vI (nI (n + 1)), (sI (sI (sI (sI h 808000020 0 n x) 809000020 0 n y) 810000020 0 n z) 807 0 0 (nI (n + 1))), (sI (sI (sI (sI (sI (sI (sI (sI h 808000020 0 n x) 809000020 0 n y) 810000020 0 n z) 807 0 0 (nI (n + 1))) 1385000020 0 n x) 1386000020 0 n y) 1387000020 0 n z) 1383 0 0 (nI (n + 1))), r_P_nest _ _ _ _ _ (Sm.ret ?_), r_M_nest _ _ _ _ _ (Sm.ret ?_), ((((((((Upd.rf _ h).sI (by decide)).sI (by decide)).sI (by decide)).sI (by decide)).sI (by decide)).sI (by decide)).sI (by decide)).sI (by decide), ?_⟩
          · rw [t_P_nest_0, c_P_within, clI_ok, hx, itT, c_P_isSpan _ _ 100 (N := 99) rfl 99 rfl, clI_ok, hs1, hs2, Bool.and_true, itT, c_River_addNest (n := n) x y z hl e0, clI_ok]
          · rw [t_M_nest_0, c_M_isIn, clI_ok, hx, itT, c_M_isDayI, clI_ok, hs1, itT, c_M_isIn, clI_ok, hs2, itT, m1, if_neg (show ¬ nI n = 20 from fun z => absurd ((nI_eq (a := n) (b := 20) (by omega) (by decide)).mp z) (by omega)), wr_M_nestReach (oob_nI hl (by decide)), ix_nI (by omega), m2, wr_M_nestFrom (oob_nI hl (by decide)), ix_nI (by omega), m3, wr_M_nestTo (oob_nI hl (by decide)), ix_nI (by omega), m4, nI_1, hI_rs, up_s]
          · unfold RNest PNest
            simp only [hI_row]
            simp only [up_s, Nat.reduceEqDiff, false_and, and_false, and_true, true_and, if_true, if_false, reduceIte]
            exact ⟨by rw [q1], by rw [q2], by rw [q3], n + 1, by omega, rfl, rfl⟩
        · have en : n = 20 := by omega
          subst en
          refine both0 (vI (-1)) (r_P_nest _ _ _ _ _ (Sm.ret ?_)) (r_M_nest _ _ _ _ _ (Sm.ret ?_)) ⟨q1, q2, q3, 20, hn, e0, m0⟩
          · rw [t_P_nest_0, c_P_within, clI_ok, hx, itT, c_P_isSpan _ _ 100 (N := 99) rfl 99 rfl, clI_ok, hs1, hs2, Bool.and_true, itT, c_River_addNest_full x y z e0, clI_ok]
          · rw [t_M_nest_0, c_M_isIn, clI_ok, hx, itT, c_M_isDayI, clI_ok, hs1, itT, c_M_isIn, clI_ok, hs2, itT, m0, if_pos (show nI 20 = 20 from rfl)]
theorem c_River_addRegatta (x : Int32) (y : Int32) (z : Int32) (w : Int32) {n : Nat} {h : MH} (hn : n < 10) (e0 : hI h 811 0 0 = nI n) : E L scr (d + 1) 94 [vR 900007 0, vI x, vI y, vI z, vI w] h = some (some (vI (nI (n + 1))), (sI (sI (sI (sI (sI h 812000010 0 n x) 813000010 0 n y) 814000010 0 n z) 815000010 0 n w) 811 0 0 (nI (n + 1)))) := by
  refine r_River_addRegatta 0 x y z w h (Sm.ret ?_)
  have e1 : hI (sI h 812000010 0 n x) 811 0 0 = nI n := by rw [hI_rn (by decide)]; exact e0
  have e2 : hI (sI (sI h 812000010 0 n x) 813000010 0 n y) 811 0 0 = nI n := by rw [hI_rn (by decide)]; exact e1
  have e3 : hI (sI (sI (sI h 812000010 0 n x) 813000010 0 n y) 814000010 0 n z) 811 0 0 = nI n := by rw [hI_rn (by decide)]; exact e2
  have e4 : hI (sI (sI (sI (sI h 812000010 0 n x) 813000010 0 n y) 814000010 0 n z) 815000010 0 n w) 811 0 0 = nI n := by rw [hI_rn (by decide)]; exact e3
  rw [t_River_addRegatta_0, e0, if_pos (show nI n < 10 from nI_lt (b := 10) hn (by decide)), wr_River_raceDay (oob_nI hn (by decide)), ix_nI (by omega), e1, wr_River_raceFrom (oob_nI hn (by decide)), ix_nI (by omega), e2, wr_River_raceTo (oob_nI hn (by decide)), ix_nI (by omega), e3, wr_River_raceReaches (oob_nI hn (by decide)), ix_nI (by omega), e4, nI_1, hI_rs, up_s]
theorem c_River_addRegatta_full (x : Int32) (y : Int32) (z : Int32) (w : Int32) {h : MH} (e0 : hI h 811 0 0 = nI 10) : E L scr (d + 1) 94 [vR 900007 0, vI x, vI y, vI z, vI w] h = some (some (vI (-1)), h) := by
  refine r_River_addRegatta 0 x y z w h (Sm.ret ?_)
  rw [t_River_addRegatta_0, e0, if_neg (by decide)]
theorem call_regatta (x : Int32) (y : Int32) (z : Int32) (w : Int32) (h : MH) (q : RRace h) : Both L scr (d + 40) SRace RRace 172 326 [vR 900011 0, vI x, vI y, vI z, vI w] [vR 900012 0, vI x, vI y, vI z, vI w] h := by
  cases hx : ixB x 100 with
  | false =>
    refine both0 (vI (-1)) (r_P_regatta _ _ _ _ _ _ (Sm.ret ?_)) (r_M_regatta _ _ _ _ _ _ (Sm.ret ?_)) q
    · rw [t_P_regatta_0, c_P_isDay, clI_ok, hx, itF]
    · rw [t_M_regatta_0, c_M_isDay, clI_ok, hx, itF]
  | true =>
    cases hs1 : inB y 0 719 with
    | false =>
      refine both0 (vI (-1)) (r_P_regatta _ _ _ _ _ _ (Sm.ret ?_)) (r_M_regatta _ _ _ _ _ _ (Sm.ret ?_)) q
      · rw [t_P_regatta_0, c_P_isDay, clI_ok, hx, itT, c_P_isSpan _ _ 720 (N := 719) rfl 719 rfl, clI_ok, hs1, Bool.false_and, itF]
      · rw [t_M_regatta_0, c_M_isDay, clI_ok, hx, itT, c_M_isIn, clI_ok, hs1, itF]
    | true =>
      cases hs2 : inB z y 719 with
      | false =>
        refine both0 (vI (-1)) (r_P_regatta _ _ _ _ _ _ (Sm.ret ?_)) (r_M_regatta _ _ _ _ _ _ (Sm.ret ?_)) q
        · rw [t_P_regatta_0, c_P_isDay, clI_ok, hx, itT, c_P_isSpan _ _ 720 (N := 719) rfl 719 rfl, clI_ok, hs1, hs2, Bool.and_false, itF]
        · rw [t_M_regatta_0, c_M_isDay, clI_ok, hx, itT, c_M_isIn, clI_ok, hs1, itT, c_M_isIn, clI_ok, hs2, itF]
      | true =>
        cases hw : inB w 0 65535 with
        | false =>
          refine both0 (vI (-1)) (r_P_regatta _ _ _ _ _ _ (Sm.ret ?_)) (r_M_regatta _ _ _ _ _ _ (Sm.ret ?_)) q
          · rw [t_P_regatta_0, c_P_isDay, clI_ok, hx, itT, c_P_isSpan _ _ 720 (N := 719) rfl 719 rfl, clI_ok, hs1, hs2, Bool.and_true, itT, c_P_within, clI_ok, hw, itF]
          · rw [t_M_regatta_0, c_M_isDay, clI_ok, hx, itT, c_M_isIn, clI_ok, hs1, itT, c_M_isIn, clI_ok, hs2, itT, c_M_isIn, clI_ok, hw, itF]
        | true =>
          obtain ⟨q1, q2, q3, q4, n, hn, e0, m0, q5⟩ := q
          rcases Nat.lt_or_ge n 10 with hl | hl
          · have m1 : hI (sI (sI (sI (sI (sI h 812000010 0 n x) 813000010 0 n y) 814000010 0 n z) 815000010 0 n w) 811 0 0 (nI (n + 1))) 1384 0 0 = nI n := by rw [hI_rn (by decide), hI_rn (by decide), hI_rn (by decide), hI_rn (by decide), hI_rn (by decide)]; exact m0
            have m2 : hI (sI (sI (sI (sI (sI (sI h 812000010 0 n x) 813000010 0 n y) 814000010 0 n z) 815000010 0 n w) 811 0 0 (nI (n + 1))) 1388000010 0 n x) 1384 0 0 = nI n := by rw [hI_rn (by decide)]; exact m1
            have m3 : hI (sI (sI (sI (sI (sI (sI (sI h 812000010 0 n x) 813000010 0 n y) 814000010 0 n z) 815000010 0 n w) 811 0 0 (nI (n + 1))) 1388000010 0 n x) 1389000010 0 n y) 1384 0 0 = nI n := by rw [hI_rn (by decide)]; exact m2
            have m4 : hI (sI (sI (sI (sI (sI (sI (sI (sI h 812000010 0 n x) 813000010 0 n y) 814000010 0 n z) 815000010 0 n w) 811 0 0 (nI (n + 1))) 1388000010 0 n x) 1389000010 0 n y) 1390000010 0 n z) 1384 0 0 = nI n := by rw [hI_rn (by decide)]; exact m3
            have m5 : hI (sI (sI (sI (sI (sI (sI (sI (sI (sI h 812000010 0 n x) 813000010 0 n y) 814000010 0 n z) 815000010 0 n w) 811 0 0 (nI (n + 1))) 1388000010 0 n x) 1389000010 0 n y) 1390000010 0 n z) 1391000010 0 n w) 1384 0 0 = nI n := by rw [hI_rn (by decide)]; exact m4
            refine ⟨vI (nI (n + 1)), (sI (sI (sI (sI (sI h 812000010 0 n x) 813000010 0 n y) 814000010 0 n z) 815000010 0 n w) 811 0 0 (nI (n + 1))), (sI (sI (sI (sI (sI (sI (sI (sI (sI (sI h 812000010 0 n x) 813000010 0 n y) 814000010 0 n z) 815000010 0 n w) 811 0 0 (nI (n + 1))) 1388000010 0 n x) 1389000010 0 n y) 1390000010 0 n z) 1391000010 0 n w) 1384 0 0 (nI (n + 1))), r_P_regatta _ _ _ _ _ _ (Sm.ret ?_), r_M_regatta _ _ _ _ _ _ (Sm.ret ?_), ((((((((((Upd.rf _ h).sI (by decide)).sI (by decide)).sI (by decide)).sI (by decide)).sI (by decide)).sI (by decide)).sI (by decide)).sI (by decide)).sI (by decide)).sI (by decide), ?_⟩
            · rw [t_P_regatta_0, c_P_isDay, clI_ok, hx, itT, c_P_isSpan _ _ 720 (N := 719) rfl 719 rfl, clI_ok, hs1, hs2, Bool.and_true, itT, c_P_within, clI_ok, hw, itT, c_River_addRegatta (n := n) x y z w hl e0, clI_ok]
            · rw [t_M_regatta_0, c_M_isDay, clI_ok, hx, itT, c_M_isIn, clI_ok, hs1, itT, c_M_isIn, clI_ok, hs2, itT, c_M_isIn, clI_ok, hw, itT, m1, if_neg (show ¬ nI n = 10 from fun z => absurd ((nI_eq (a := n) (b := 10) (by omega) (by decide)).mp z) (by omega)), wr_M_regattaDay (oob_nI hl (by decide)), ix_nI (by omega), m2, wr_M_regattaFrom (oob_nI hl (by decide)), ix_nI (by omega), m3, wr_M_regattaTo (oob_nI hl (by decide)), ix_nI (by omega), m4, wr_M_regattaSet (oob_nI hl (by decide)), ix_nI (by omega), m5, nI_1, hI_rs, up_s]
            · unfold RRace PRace
              simp only [hI_row]
              simp only [up_s, Nat.reduceEqDiff, false_and, and_false, and_true, true_and, if_true, if_false, reduceIte]
              obtain ⟨b, hb, rfl⟩ := inB_t (n := 719) rfl hs1
              obtain ⟨c, hc1, hc2, rfl⟩ := inB_lt (N := 719) rfl hb (by decide) rfl hs2
              refine ⟨by rw [q1], by rw [q2], by rw [q3], by rw [q4], n + 1, by omega, rfl, rfl, fun j hj => ?_⟩
              unfold up
              by_cases ej : j = n
              · rw [if_pos ej, if_pos ej]
                exact ⟨b, c, hc1, by omega, rfl, rfl⟩
              · rw [if_neg ej, if_neg ej]
                exact q5 j (by omega)
          · have en : n = 10 := by omega
            subst en
            refine both0 (vI (-1)) (r_P_regatta _ _ _ _ _ _ (Sm.ret ?_)) (r_M_regatta _ _ _ _ _ _ (Sm.ret ?_)) ⟨q1, q2, q3, q4, 10, hn, e0, m0, q5⟩
            · rw [t_P_regatta_0, c_P_isDay, clI_ok, hx, itT, c_P_isSpan _ _ 720 (N := 719) rfl 719 rfl, clI_ok, hs1, hs2, Bool.and_true, itT, c_P_within, clI_ok, hw, itT, c_River_addRegatta_full x y z w e0, clI_ok]
            · rw [t_M_regatta_0, c_M_isDay, clI_ok, hx, itT, c_M_isIn, clI_ok, hs1, itT, c_M_isIn, clI_ok, hs2, itT, c_M_isIn, clI_ok, hw, itT, m0, if_pos (show nI 10 = 10 from rfl)]
end App

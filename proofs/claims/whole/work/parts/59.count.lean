/-! CALLS: fault, count, feed -/
section Count
variable {L : Nat} {scr : Nat → Int32} {d : Nat}
theorem call_fault (h : MH) (q : RFault h) : Both L scr (d + 40) Scr (fun _ => True) 126 231 [vR 900011 0] [vR 900012 0] h := by
  refine both0 (vI (hI h 1204 0 0)) (r_P_fault _ _ (Sm.ret (t_P_fault_0 ..))) (r_M_fault _ _ (Sm.ret ?_)) trivial
  rw [t_M_fault_0, show hI h 1204 0 0 = hI h 1307 0 0 from q]
theorem call_count (x : Int32) (h : MH) (qc : RCnt h) (qb : RBoat h) (qh : RHire h) (qs : RSpell h) (qr : RRoll h) (qg : RGuide h) (qp : RParty h) (qt : RTape h) (qx : RChance h) (ql : RLoyal h) (qn : RNest h) (qe : RRace h) (qw : RWeed h) : Both L scr (d + 40) Scr (fun _ => True) 176 332 [vR 900011 0, vI x] [vR 900012 0, vI x] h := by
  cases hx : inB x 200 299 with
  | true =>
    have hh := of_decide_eq_true (show decide (200 ≤ x ∧ x ≤ 299) = true from hx)
    rw [Int32.le_iff_toInt_le, Int32.le_iff_toInt_le] at hh
    have t2 : (200 : Int32).toInt = 200 := rfl
    have t3 : (299 : Int32).toInt = 299 := rfl
    obtain ⟨v, hv, rfl⟩ := nI_of (x := x) (by rw [Int32.lt_iff_toInt_lt]; have : (0 : Int32).toInt = 0 := rfl; omega)
    rw [nI_toInt hv] at hh
    have e2 : nI v - 200 = nI (v - 200) := nI_sub (b := 200) (by omega)
    obtain ⟨w1, ⟨r, hr, w2, w3⟩, w4⟩ := qw
    refine both0 (vI (weedF (hI h 805 0 0) (wkF (hI h 806000100 0) (v - 200)))) (r_P_count _ _ _ (Sm.ret ?_)) (r_M_count _ _ _ (Sm.ret ?_)) trivial
    · rw [t_P_count_0, if_neg (show ¬ nI v < 200 from nI_nlt (b := 200) (by omega) (by omega)), if_neg (show ¬ 300 ≤ nI v from nI_ge (b := 300) (by omega) (by decide)), e2, c_River_weedOf (by omega), clI_ok]
    · rw [t_M_count_0, c_M_isIn, clI_ok, hx, itT, e2, c_M_weedOn (by omega), clI_ok, w3, ← w2, w1]
  | false =>
    have hP : ∀ (r : RT), Sm L scr (d + 39) B_P_count C_P_count 1 [some (vR 900011 0), some (vI x)] [] h r → E L scr (d + 40) 176 [vR 900011 0, vI x] h = some r := fun r k => by
      refine r_P_count _ _ _ (Sm.step (t' := 1) (lo' := [some (vR 900011 0), some (vI x)]) (st' := []) (h' := h) ?_ k)
      rw [t_P_count_0]
      by_cases c1 : x < 200
      · rw [if_pos c1]
      · rw [if_neg c1]
        by_cases c2 : 300 ≤ x
        · rw [if_pos c2]
        · have : inB x 200 299 = true := decide_eq_true ⟨nlt_i.mp c1, by
            have := nle_i.mp c2
            rw [Int32.lt_iff_toInt_lt] at this
            rw [Int32.le_iff_toInt_le]
            have t3 : (299 : Int32).toInt = 299 := rfl
            have t4 : (300 : Int32).toInt = 300 := rfl
            omega⟩
          rw [this] at hx; cases hx
    have both : ∀ (v : Int32), Sm L scr (d + 39) B_P_count C_P_count 1 [some (vR 900011 0), some (vI x)] [] h (some (vI v), h) → Sm L scr (d + 39) B_M_count C_M_count 0 [some (vR 900012 0), some (vI x)] [] h (some (vI v), h) → Both L scr (d + 40) Scr (fun _ => True) 176 332 [vR 900011 0, vI x] [vR 900012 0, vI x] h := fun v k1 k2 => both0 (vI v) (hP _ k1) (r_M_count _ _ _ k2) trivial
    obtain ⟨cn, cm, -, -, qc1, qc2, qc3, qc4⟩ := qc
    obtain ⟨-, nB, -, qb1, qb2, -⟩ := qb
    obtain ⟨-, -, -, -, -, nH, nT, -, -, -, -, qh1, qh2, qt1, qt2, -⟩ := qh
    obtain ⟨-, -, -, nS, -, qs1, qs2, -⟩ := qs
    obtain ⟨-, -, nR, -, qr1, qr2, -⟩ := qr
    obtain ⟨-, -, nG, -, qg1, qg2⟩ := qg
    obtain ⟨-, -, nP, -, qp1, qp2, -⟩ := qp
    obtain ⟨nK, -, qk1, qk2, -⟩ := qt
    obtain ⟨-, nL, -, ql1, ql2, -⟩ := ql
    obtain ⟨-, -, -, nN, -, qn1, qn2⟩ := qn
    obtain ⟨-, -, -, -, nE, -, qe1, qe2, -⟩ := qe
    obtain ⟨qx1, qx2⟩ := qx
    by_cases x0 : x = 0
    · refine both (nI cn) (Sm.ret ?_) (Sm.ret ?_)
      · rw [t_P_count_1, if_pos x0, qc1]
      · rw [t_M_count_0, c_M_isIn, clI_ok, hx, itF, if_pos x0, qc2]
    by_cases x1 : x = 1
    · refine both (nI nB) (Sm.ret ?_) (Sm.ret ?_)
      · rw [t_P_count_1, if_neg x0, if_pos x1, qb1]
      · rw [t_M_count_0, c_M_isIn, clI_ok, hx, itF, if_neg x0, if_pos x1, qb2]
    by_cases x2 : x = 2
    · refine both (nI nH) (Sm.ret ?_) (Sm.ret ?_)
      · rw [t_P_count_1, if_neg x0, if_neg x1, if_pos x2, qh1]
      · rw [t_M_count_0, c_M_isIn, clI_ok, hx, itF, if_neg x0, if_neg x1, if_pos x2, qh2]
    by_cases x3 : x = 3
    · refine both (nI nT) (Sm.ret ?_) (Sm.ret ?_)
      · rw [t_P_count_1, if_neg x0, if_neg x1, if_neg x2, if_pos x3, qt1]
      · rw [t_M_count_0, c_M_isIn, clI_ok, hx, itF, if_neg x0, if_neg x1, if_neg x2, if_pos x3, qt2]
    by_cases x4 : x = 4
    · refine both (nI nS) (Sm.ret ?_) (Sm.ret ?_)
      · rw [t_P_count_1, if_neg x0, if_neg x1, if_neg x2, if_neg x3, if_pos x4, qs1]
      · rw [t_M_count_0, c_M_isIn, clI_ok, hx, itF, if_neg x0, if_neg x1, if_neg x2, if_neg x3, if_pos x4, qs2]
    by_cases x5 : x = 5
    · refine both (nI nR) (Sm.ret ?_) (Sm.ret ?_)
      · rw [t_P_count_1, if_neg x0, if_neg x1, if_neg x2, if_neg x3, if_neg x4, if_pos x5, qr1]
      · rw [t_M_count_0, c_M_isIn, clI_ok, hx, itF, if_neg x0, if_neg x1, if_neg x2, if_neg x3, if_neg x4, if_pos x5, qr2]
    by_cases x6 : x = 6
    · refine both (nI nG) (Sm.ret ?_) (Sm.ret ?_)
      · rw [t_P_count_1, if_neg x0, if_neg x1, if_neg x2, if_neg x3, if_neg x4, if_neg x5, if_pos x6, qg1]
      · rw [t_M_count_0, c_M_isIn, clI_ok, hx, itF, if_neg x0, if_neg x1, if_neg x2, if_neg x3, if_neg x4, if_neg x5, if_pos x6, qg2]
    by_cases x7 : x = 7
    · refine both (nI nP) (Sm.ret ?_) (Sm.ret ?_)
      · rw [t_P_count_1, if_neg x0, if_neg x1, if_neg x2, if_neg x3, if_neg x4, if_neg x5, if_neg x6, if_pos x7, qp1]
      · rw [t_M_count_0, c_M_isIn, clI_ok, hx, itF, if_neg x0, if_neg x1, if_neg x2, if_neg x3, if_neg x4, if_neg x5, if_neg x6, if_pos x7, qp2]
    by_cases x8 : x = 8
    · refine both (nI nK) (Sm.ret ?_) (Sm.ret ?_)
      · rw [t_P_count_1, if_neg x0, if_neg x1, if_neg x2, if_neg x3, if_neg x4, if_neg x5, if_neg x6, if_neg x7, if_pos x8, qk1]
      · rw [t_M_count_0, c_M_isIn, clI_ok, hx, itF, if_neg x0, if_neg x1, if_neg x2, if_neg x3, if_neg x4, if_neg x5, if_neg x6, if_neg x7, if_pos x8, qk2]
    by_cases x9 : x = 9
    · obtain ⟨c, hc0⟩ : ∃ c : Nat → Nat, c = fun k => nn (hI h 300000072 0 k) := ⟨_, rfl⟩
      have hc : ∀ k, hI h 300000072 0 k = nI (c k) ∧ c k ≤ 10 := fun k => by
        rw [hc0]
        obtain ⟨v, hv, ev⟩ := qx2 k
        exact nn_ex (by decide) ⟨v, hv, ev⟩
      have hcm : ∀ k, hI h 1357000072 0 k = nI (c k) ∧ c k ≤ 10 := fun k => by rw [← qx1]; exact hc k
      have e1 := c_isWhole (L := L) (scr := scr) (d := d + 38) hc
      have e2 := c_M_areWhole (L := L) (scr := scr) (d := d + 38) hcm
      rw [whole_any] at e1
      refine both (zb (!anyB (fun i => !whB c i) 12)) (Sm.ret ?_) (Sm.ret ?_)
      · rw [t_P_count_1, if_neg x0, if_neg x1, if_neg x2, if_neg x3, if_neg x4, if_neg x5, if_neg x6, if_neg x7, if_neg x8, if_pos x9, e1, clI_ok]
        cases (!anyB (fun i => !whB c i) 12) with
        | true => rw [itT]; rfl
        | false => rw [itF]; rfl
      · rw [t_M_count_0, c_M_isIn, clI_ok, hx, itF, if_neg x0, if_neg x1, if_neg x2, if_neg x3, if_neg x4, if_neg x5, if_neg x6, if_neg x7, if_neg x8, if_pos x9, e2, clI_ok, c_M_one, clI_ok, one_zb]
    by_cases x10 : x = 10
    · refine both (nI nL) (Sm.ret ?_) (Sm.ret ?_)
      · rw [t_P_count_1, if_neg x0, if_neg x1, if_neg x2, if_neg x3, if_neg x4, if_neg x5, if_neg x6, if_neg x7, if_neg x8, if_neg x9, if_pos x10, ql1]
      · rw [t_M_count_0, c_M_isIn, clI_ok, hx, itF, if_neg x0, if_neg x1, if_neg x2, if_neg x3, if_neg x4, if_neg x5, if_neg x6, if_neg x7, if_neg x8, if_neg x9, if_pos x10, ql2]
    by_cases x11 : x = 11
    · refine both (nI nN) (Sm.ret ?_) (Sm.ret ?_)
      · rw [t_P_count_1, if_neg x0, if_neg x1, if_neg x2, if_neg x3, if_neg x4, if_neg x5, if_neg x6, if_neg x7, if_neg x8, if_neg x9, if_neg x10, if_pos x11, qn1]
      · rw [t_M_count_0, c_M_isIn, clI_ok, hx, itF, if_neg x0, if_neg x1, if_neg x2, if_neg x3, if_neg x4, if_neg x5, if_neg x6, if_neg x7, if_neg x8, if_neg x9, if_neg x10, if_pos x11, qn2]
    by_cases x12 : x = 12
    · refine both (nI nE) (Sm.ret ?_) (Sm.ret ?_)
      · rw [t_P_count_1, if_neg x0, if_neg x1, if_neg x2, if_neg x3, if_neg x4, if_neg x5, if_neg x6, if_neg x7, if_neg x8, if_neg x9, if_neg x10, if_neg x11, if_pos x12, qe1]
      · rw [t_M_count_0, c_M_isIn, clI_ok, hx, itF, if_neg x0, if_neg x1, if_neg x2, if_neg x3, if_neg x4, if_neg x5, if_neg x6, if_neg x7, if_neg x8, if_neg x9, if_neg x10, if_neg x11, if_pos x12, qe2]
    by_cases x13 : x = 13
    · refine both (nI cm) (Sm.ret ?_) (Sm.ret ?_)
      · rw [t_P_count_1, if_neg x0, if_neg x1, if_neg x2, if_neg x3, if_neg x4, if_neg x5, if_neg x6, if_neg x7, if_neg x8, if_neg x9, if_neg x10, if_neg x11, if_neg x12, if_pos x13, qc3]
      · rw [t_M_count_0, c_M_isIn, clI_ok, hx, itF, if_neg x0, if_neg x1, if_neg x2, if_neg x3, if_neg x4, if_neg x5, if_neg x6, if_neg x7, if_neg x8, if_neg x9, if_neg x10, if_neg x11, if_neg x12, if_pos x13, qc4]
    refine both (-1) (Sm.ret ?_) (Sm.ret ?_)
    · rw [t_P_count_1, if_neg x0, if_neg x1, if_neg x2, if_neg x3, if_neg x4, if_neg x5, if_neg x6, if_neg x7, if_neg x8, if_neg x9, if_neg x10, if_neg x11, if_neg x12, if_neg x13]
    · rw [t_M_count_0, c_M_isIn, clI_ok, hx, itF, if_neg x0, if_neg x1, if_neg x2, if_neg x3, if_neg x4, if_neg x5, if_neg x6, if_neg x7, if_neg x8, if_neg x9, if_neg x10, if_neg x11, if_neg x12, if_neg x13]
/-- one byte of a word -/
theorem byte_eq (x : Int32) : (Int8.toInt32 (Int32.toInt8 (Int8.toInt32 (Int32.toInt8 x)))) &&& 255 = x &&& 255 := by
  have h8 : ∀ y : Int32, (Int8.toInt32 (Int32.toInt8 y)).toBitVec &&& 255#32 = y.toBitVec &&& 255#32 := by
    intro y
    have e : (Int8.toInt32 (Int32.toInt8 y)).toBitVec = (y.toBitVec.signExtend 8).signExtend 32 := rfl
    rw [e]
    apply BitVec.eq_of_getLsbD_eq
    intro i hi
    rw [BitVec.getLsbD_and, BitVec.getLsbD_and]
    by_cases c : i < 8
    · rw [BitVec.getLsbD_signExtend, BitVec.getLsbD_signExtend]
      simp [c, hi]
    · have z : (255#32).getLsbD i = false := by
        have k : ∀ j : Fin 32, ¬ j.val < 8 → (255#32).getLsbD j.val = false := by decide
        exact k ⟨i, hi⟩ c
      rw [z, Bool.and_false, Bool.and_false]
  apply Int32.toBitVec_inj.mp
  show (Int8.toInt32 (Int32.toInt8 (Int8.toInt32 (Int32.toInt8 x)))).toBitVec &&& 255#32 = x.toBitVec &&& 255#32
  rw [h8, h8]
end Count

/-! RULES: a condition on the reference's side -/
/-- the reference's pile -/
def PmR (r : Nat → Int32) (l : List Bool) : Prop := ∀ i, i < l.length → r (l.length - 1 - i) = zb (l.getD i false)
theorem Pm_push {r : Nat → Int32} {l : List Bool} (h : PmR r l) (b : Bool) : PmR (up r l.length (zb b)) (b :: l) := by
  intro i hi
  have hi : i < l.length + 1 := hi
  show up r l.length (zb b) (l.length + 1 - 1 - i) = zb ((b :: l).getD i false)
  cases i with
  | zero => rw [show l.length + 1 - 1 - 0 = l.length by omega, up_s]; rfl
  | succ i => rw [up_n (by omega), show l.length + 1 - 1 - (i + 1) = l.length - 1 - i by omega, h i (by omega)]; rfl
theorem Pm_tail {r : Nat → Int32} {b : Bool} {l : List Bool} (h : PmR r (b :: l)) : PmR r l := by
  intro i hi
  have := h (i + 1) (by show i + 1 < l.length + 1; omega)
  rw [show (b :: l).length - 1 - (i + 1) = l.length - 1 - i by show l.length + 1 - 1 - (i + 1) = _; omega] at this
  rw [this]; rfl
theorem Pm_top {r : Nat → Int32} {b : Bool} {l : List Bool} (h : PmR r (b :: l)) : r l.length = zb b := by
  have := h 0 (by show 0 < l.length + 1; omega)
  rw [show (b :: l).length - 1 - 0 = l.length by show l.length + 1 - 1 - 0 = _; omega] at this
  exact this
section TrueM
variable {L : Nat} {scr : Nat → Int32} {d : Nat}
theorem zbA (b : Bool) : zb b &&& 1 = zb b := by cases b <;> decide
theorem c_M_isTrue0 {h : MH} {k c e : Nat} (hk : k < 240) (e1 : hI h 1315000240 0 k = nI c) (e2 : hI h 1316000240 0 k = nI c) : E L scr (d + 1) 251 [vR 900012 0, vI (nI k)] h = some (some (vI (zb true)), h) := by
  refine r_M_isTrue _ _ _ (Sm.step (t' := 1) (lo' := [some (vR 900012 0), some (vI (nI k)), some (vI 0), some (vI (nI c)), none]) (st' := []) (h' := h) ?_ (Sm.ret ?_))
  · rw [t_M_isTrue_0, rd_M_stepFrom (oob_nI hk (by decide)), ix_nI (by omega), e1]
  · rw [t_M_isTrue_1, rd_M_stepTo (oob_nI hk (by decide)), ix_nI (by omega), e2, if_pos (show nI c ≤ nI c from Int32.le_refl _), rd_M_stepFrom (oob_nI hk (by decide)), ix_nI (by omega), e1, rd_M_stepTo (oob_nI hk (by decide)), ix_nI (by omega), e2, if_pos rfl]; rfl
theorem c_M_isTrue {h : MH} {k c e : Nat} {φ : Bool} {v : Nat → Int32} (hk : k < 240) (e1 : hI h 1315000240 0 k = nI c) (e2 : hI h 1316000240 0 k = nI e) (hce : c < e) (he : e ≤ 2700) (hv : AskV (hI h 1320000008 0) v) (ha : ∀ j, c ≤ j → j < e → ¬ 2 < hI h 1317002700 0 j → ∃ q, q < 8 ∧ hI h 1318002700 0 j = nI q) (hr : ruL (fun j => dcM v (hI h 1317002700 0 j) (hI h 1318002700 0 j) (hI h 1319002700 0 j)) 60 c (e - c) [] = some [φ]) : ∃ h', E L scr (d + 1) 251 [vR 900012 0, vI (nI k)] h = some (some (vI (zb φ)), h') ∧ Upd [(1321200064, 0)] h h' := by
  have key : Sx L scr d B_M_isTrue C_M_isTrue 0 [some (vR 900012 0), some (vI (nI k)), none, none, none] h (fun rr => ∃ h', rr = (some (vI (zb φ)), h') ∧ Upd [(1321200064, 0)] h h') := by
    refine Sx.step (t' := 1) (lo' := [some (vR 900012 0), some (vI (nI k)), some (vI (nI 0)), some (vI (nI (c + 0))), none]) (h' := h) ?_ (Sx.inv0 (P := fun i lo h' => ∃ (l : List Bool) (z4 : Option MV), lo = [some (vR 900012 0), some (vI (nI k)), some (vI (nI l.length)), some (vI (nI (c + i))), z4] ∧ Upd [(1321200064, 0)] h h' ∧ PmR (hI h' 1321200064 0) l ∧ l.length ≤ 60 ∧ ruL (fun j => dcM v (hI h 1317002700 0 j) (hI h 1318002700 0 j) (hI h 1319002700 0 j)) 60 (c + i) (e - c - i) l = some [φ]) (e - c) ⟨[], none, rfl, Upd.rf _ h, fun i hi => absurd hi (Nat.not_lt_zero i), Nat.zero_le _, hr⟩ ?_ ?_)
    · rw [t_M_isTrue_0, rd_M_stepFrom (oob_nI hk (by decide)), ix_nI (by omega), e1]; rfl
    · rintro i hi _ h1 ⟨l, z4, rfl, u, hp, hl, hrun⟩ kk
      rw [show e - c - i = (e - c - (i + 1)) + 1 by omega] at hrun
      obtain ⟨l', s1, s2, s3⟩ := ruL_inv hrun
      have ci : c + i < e := by omega
      have ci2 : c + i < 2700 := by omega
      obtain ⟨o, ho⟩ : ∃ o, o = hI h 1317002700 0 (c + i) := ⟨_, rfl⟩
      have q1 : hI h1 1316000240 0 k = nI e := by rw [u.2 _ _ (by decide)]; exact e2
      have qo : hI h1 1317002700 0 (c + i) = o := by rw [u.2 _ _ (by decide), ho]
      have qa : hI h1 1318002700 0 = hI h 1318002700 0 := u.2 _ _ (by decide)
      have qt : hI h1 1319002700 0 = hI h 1319002700 0 := u.2 _ _ (by decide)
      have qh : hI h1 1320000008 0 = hI h 1320000008 0 := u.2 _ _ (by decide)
      have ro : ∀ k' : Int32 → Option Exit, rdI 0 h1 1317002700 0 (nI (c + i)) k' = k' o := fun k' => by rw [rd_M_op (oob_nI ci2 (by decide)), ix_nI (by omega), qo]
      have pre : dn L scr (E L scr d) B_M_isTrue C_M_isTrue 1 [some (vR 900012 0), some (vI (nI k)), some (vI (nI l.length)), some (vI (nI (c + i))), z4] [] h1 = _ := t_M_isTrue_1 ..
      rw [rd_M_stepTo (oob_nI hk (by decide)), ix_nI (by omega), q1, if_neg (nI_ge ci (by omega))] at pre
      simp only [ro] at pre
      have fin : ∀ (z4 : Option MV) (b : Bool) (l2 : List Bool), PmR (hI h1 1321200064 0) l2 → l' = b :: l2 → Sx L scr d B_M_isTrue C_M_isTrue 17 [some (vR 900012 0), some (vI (nI k)), some (vI (nI (l2.length + 1))), some (vI (nI (c + i))), z4] (sI h1 1321200064 0 l2.length (zb b)) (fun rr => ∃ h', rr = (some (vI (zb φ)), h') ∧ Upd [(1321200064, 0)] h h') := fun z4 b l2 hp2 el => by
        refine Sx.step (t' := 1) (lo' := [some (vR 900012 0), some (vI (nI k)), some (vI (nI (l2.length + 1))), some (vI (nI (c + (i + 1)))), z4]) (h' := sI h1 1321200064 0 l2.length (zb b)) ?_ (kk _ _ ⟨b :: l2, z4, rfl, u.sI (by decide), ?_, by rw [← el]; exact s2, by rw [← el]; exact s3⟩)
        · rw [t_M_isTrue_17, nI_1]; rfl
        · rw [hI_rs]; exact Pm_push hp2 b
      by_cases c1 : 2 < o
      · rw [if_pos c1] at pre
        by_cases c5 : o = 5
        · have ed : dcM v o (hI h 1318002700 0 (c + i)) (hI h 1319002700 0 (c + i)) = (1, false) := by unfold dcM; rw [if_pos c1, if_pos c5]
          rw [← ho, ed] at s1
          cases l with
          | nil => cases s1
          | cons b l =>
            injection s1 with s1
            have hl2 : l.length + 1 ≤ 60 := hl
            have et : hI h1 1321200064 0 l.length = zb b := Pm_top hp
            have en : nI (b :: l).length - 1 = nI l.length := nI_pred l.length
            rw [if_pos c5, en, rd_M_pile (oob_nI (by omega) (by decide)), ix_nI (by omega), et] at pre
            have k1 := fin z4 (!b) l (Pm_tail hp) s1.symm
            refine Sx.step (t' := 17) (lo' := [some (vR 900012 0), some (vI (nI k)), some (vI (nI (l.length + 1))), some (vI (nI (c + i))), z4]) (h' := sI h1 1321200064 0 l.length (zb (!b))) ?_ k1
            rw [pre]
            cases b with
            | false => rw [if_pos (show zb false = 0 from rfl), wr_M_pile (oob_nI (by omega) (by decide)), ix_nI (by omega)]; rfl
            | true => rw [if_neg (show ¬ zb true = 0 by decide), wr_M_pile (oob_nI (by omega) (by decide)), ix_nI (by omega)]; rfl
        · rw [if_neg c5] at pre
          by_cases c3 : o = 3
          · have ed : dcM v o (hI h 1318002700 0 (c + i)) (hI h 1319002700 0 (c + i)) = (2, false) := by unfold dcM; rw [if_pos c1, if_neg c5, if_pos c3]
            rw [← ho, ed] at s1
            cases l with
            | nil => cases s1
            | cons x l => cases l with
              | nil => cases s1
              | cons y l =>
                injection s1 with s1
                have hl2 : l.length + 1 + 1 ≤ 60 := hl
                have et : hI h1 1321200064 0 (l.length + 1) = zb x := Pm_top hp
                have et2 : hI h1 1321200064 0 l.length = zb y := Pm_top (Pm_tail hp)
                have en : nI (x :: y :: l).length + (-1) = nI (l.length + 1) := nI_m1 (l.length + 1)
                have en2 : nI (l.length + 1) - 1 = nI l.length := nI_pred l.length
                rw [if_pos c3, en, en2, rd_M_pile (oob_nI (by omega) (by decide)), ix_nI (by omega), et2, rd_M_pile (oob_nI (by omega) (by decide)), ix_nI (by omega), et] at pre
                have k1 := fin z4 (y || x) l (Pm_tail (Pm_tail hp)) s1.symm
                refine Sx.step (t' := 17) (lo' := [some (vR 900012 0), some (vI (nI k)), some (vI (nI (l.length + 1))), some (vI (nI (c + i))), z4]) (h' := sI h1 1321200064 0 l.length (zb (y || x))) ?_ k1
                rw [pre]
                cases y with
                | false =>
                  rw [if_pos (show zb false = 0 from rfl)]
                  cases x with
                  | false => rw [if_pos (show zb false = 0 from rfl), wr_M_pile (oob_nI (by omega) (by decide)), ix_nI (by omega)]; rfl
                  | true => rw [if_neg (show ¬ zb true = 0 by decide), wr_M_pile (oob_nI (by omega) (by decide)), ix_nI (by omega)]; rfl
                | true => rw [if_neg (show ¬ zb true = 0 by decide), wr_M_pile (oob_nI (by omega) (by decide)), ix_nI (by omega)]; rfl
          · have ed : dcM v o (hI h 1318002700 0 (c + i)) (hI h 1319002700 0 (c + i)) = (3, false) := by unfold dcM; rw [if_pos c1, if_neg c5, if_neg c3]
            rw [← ho, ed] at s1
            cases l with
            | nil => cases s1
            | cons x l => cases l with
              | nil => cases s1
              | cons y l =>
                injection s1 with s1
                have hl2 : l.length + 1 + 1 ≤ 60 := hl
                have et : hI h1 1321200064 0 (l.length + 1) = zb x := Pm_top hp
                have et2 : hI h1 1321200064 0 l.length = zb y := Pm_top (Pm_tail hp)
                have en : nI (x :: y :: l).length + (-1) = nI (l.length + 1) := nI_m1 (l.length + 1)
                have en2 : nI (l.length + 1) - 1 = nI l.length := nI_pred l.length
                rw [if_neg c3, en, en2, rd_M_pile (oob_nI (by omega) (by decide)), ix_nI (by omega), et2, rd_M_pile (oob_nI (by omega) (by decide)), ix_nI (by omega), et] at pre
                have k1 := fin z4 (y && x) l (Pm_tail (Pm_tail hp)) s1.symm
                refine Sx.step (t' := 17) (lo' := [some (vR 900012 0), some (vI (nI k)), some (vI (nI (l.length + 1))), some (vI (nI (c + i))), z4]) (h' := sI h1 1321200064 0 l.length (zb (y && x))) ?_ k1
                rw [pre]
                cases y with
                | false => rw [if_pos (show zb false = 0 from rfl), wr_M_pile (oob_nI (by omega) (by decide)), ix_nI (by omega)]; rfl
                | true =>
                  rw [if_neg (show ¬ zb true = 0 by decide)]
                  cases x with
                  | false => rw [if_pos (show zb false = 0 from rfl), wr_M_pile (oob_nI (by omega) (by decide)), ix_nI (by omega)]; rfl
                  | true => rw [if_neg (show ¬ zb true = 0 by decide), wr_M_pile (oob_nI (by omega) (by decide)), ix_nI (by omega)]; rfl
      · obtain ⟨q, hq, eq⟩ := ha (c + i) (by omega) ci (by rw [← ho]; exact c1)
        obtain ⟨tb, htb⟩ : ∃ tb : Bool, tb = if o = 0 then decide (v q < hI h 1319002700 0 (c + i)) else if o = 1 then decide (hI h 1319002700 0 (c + i) < v q) else decide (v q = hI h 1319002700 0 (c + i)) := ⟨_, rfl⟩
        have ed : dcM v o (hI h 1318002700 0 (c + i)) (hI h 1319002700 0 (c + i)) = (0, tb) := by unfold dcM; rw [if_neg c1, eq, ix_nI (by omega), htb]
        rw [← ho, ed] at s1
        injection s1 with s1
        have rt : ∀ k' : Int32 → Option Exit, rdI 0 h1 1319002700 0 (nI (c + i)) k' = k' (hI h 1319002700 0 (c + i)) := fun k' => by rw [rd_M_than (oob_nI ci2 (by decide)), ix_nI (by omega), qt]
        rw [if_neg c1, rd_M_arg (oob_nI ci2 (by decide)), ix_nI (by omega), qa, eq, rd_M_here (oob_nI hq (by decide)), ix_nI (by omega), qh, hv q hq] at pre
        simp only [rt] at pre
        have k1 := fin (some (vI (v q))) tb l hp s1.symm
        have wp : ∀ (x : Int32) (k' : MH → Option Exit), wrI 2 h1 1321200064 0 (nI l.length) x k' = k' (sI h1 1321200064 0 l.length x) := fun x k' => by rw [wr_M_pile (oob_nI (by omega) (by decide)), ix_nI (by omega)]
        simp only [wp, nI_1] at pre
        refine Sx.step (t' := 17) (lo' := [some (vR 900012 0), some (vI (nI k)), some (vI (nI (l.length + 1))), some (vI (nI (c + i))), some (vI (v q))]) (h' := sI h1 1321200064 0 l.length (zb tb)) ?_ k1
        rw [pre, htb]
        by_cases c2 : o = 0
        · rw [if_pos c2, if_pos c2]
          by_cases c3 : hI h 1319002700 0 (c + i) ≤ v q
          · rw [if_pos c3, decide_eq_false (fun z => nlt_i.mpr c3 z)]; rfl
          · rw [if_neg c3, decide_eq_true (nle_i.mp c3)]; rfl
        · rw [if_neg c2, if_neg c2]
          by_cases c4 : o = 1
          · rw [if_pos c4, if_pos c4]
            by_cases c3 : v q ≤ hI h 1319002700 0 (c + i)
            · rw [if_pos c3, decide_eq_false (fun z => nlt_i.mpr c3 z)]; rfl
            · rw [if_neg c3, decide_eq_true (nle_i.mp c3)]; rfl
          · rw [if_neg c4, if_neg c4]
            by_cases c3 : v q = hI h 1319002700 0 (c + i)
            · rw [if_pos c3, decide_eq_true c3]; rfl
            · rw [if_neg c3, decide_eq_false c3]; rfl
    · rintro _ h1 ⟨l, z4, rfl, u, hp, hl, hrun⟩
      rw [Nat.sub_self] at hrun
      have el : l = [φ] := by
        have : some l = some [φ] := hrun
        injection this
      subst el
      have et : hI h1 1321200064 0 0 = zb φ := Pm_top hp
      refine Sx.ret (r := (some (vI (zb φ)), h1)) ?_ ⟨h1, rfl, u⟩
      have q1 : hI h1 1316000240 0 k = nI e := by rw [u.2 _ _ (by decide)]; exact e2
      have q0 : hI h1 1315000240 0 k = nI c := by rw [u.2 _ _ (by decide)]; exact e1
      rw [t_M_isTrue_1, rd_M_stepTo (oob_nI hk (by decide)), ix_nI (by omega), q1, if_pos (nI_le (by omega) (by omega)), rd_M_stepFrom (oob_nI hk (by decide)), ix_nI (by omega), q0, rd_M_stepTo (oob_nI hk (by decide)), ix_nI (by omega), q1, if_neg (fun z => (show c ≠ e by omega) ((nI_eq (by omega) (by omega)).mp z)), show (0 : Int32) = nI 0 from rfl, rd_M_pile (oob_nI (by decide) (by decide)), ix_nI (by decide), et]
      cases φ with
      | false => rw [if_pos (show zb false = nI 0 from rfl)]; rfl
      | true => rw [if_neg (show ¬ zb true = nI 0 by decide)]; rfl
  obtain ⟨_, k1, h', rfl, k2⟩ := key
  exact ⟨h', r_M_isTrue _ _ _ k1, k2⟩
end TrueM

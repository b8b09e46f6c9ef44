/-! CALLS: hire, pass, pole, known, outs, worn -/
section Ask
variable {L : Nat} {scr : Nat → Int32} {d : Nat}
theorem ScrP : ∀ r ∈ SPass, r ∉ Scr := by decide
theorem call_hire (x y : Int32) (h : MH) (q : RHire h) (qp : RPass h) : Both L scr (d + 40) Scr (fun _ => True) 139 262 [vR 900011 0, vI x, vI y] [vR 900012 0, vI x, vI y] h := by
  obtain ⟨q1, q2, q3, q4, q5, n, T, nb, hn, hT, hnb, ch, mh, cl, ml, bn, tk, hk, hsep⟩ := q
  obtain ⟨p1, p2, p3⟩ := qp
  cases hx : ixB x n with
  | false =>
    refine both0 (vI (-1)) (r_P_hire _ _ _ _ (Sm.ret ?_)) (r_M_hire _ _ _ _ (Sm.ret ?_)) trivial
    · rw [t_P_hire_0, c_P_isHire ch, clI_ok, hx, itF]
    · rw [t_M_hire_0, c_M_isHire (by omega) mh, clI_ok, hx, itF]
  | true =>
    obtain ⟨i, hi, hi2, rfl⟩ := ixB_t hx
    have ob : ¬ oob (nI i) 120 := oob_nI (by omega) (by decide)
    have lk : ∀ v : Int32, E L scr (d + 39) 15 [vR 900001 0, vI (nI i), vI y] h = some (some (vI v), h) → (E L scr (d + 40) 139 [vR 900011 0, vI (nI i), vI y] h = some (some (vI v), h)) := by
      intro v e
      refine r_P_hire _ _ _ _ (Sm.ret ?_)
      rw [t_P_hire_0, c_P_isHire ch, clI_ok, hx, itT, e, clI_ok]
    have fin : ∀ v : Int32, E L scr (d + 39) 15 [vR 900001 0, vI (nI i), vI y] h = some (some (vI v), h) → E L scr (d + 40) 262 [vR 900012 0, vI (nI i), vI y] h = some (some (vI v), h) → Both L scr (d + 40) Scr (fun _ => True) 139 262 [vR 900011 0, vI (nI i), vI y] [vR 900012 0, vI (nI i), vI y] h := fun v e1 e2 => both0 (vI v) (lk v e1) e2 trivial
    by_cases y0 : y = 0
    · subst y0
      refine fin (hI h 203000120 0 i) (r_Book_look _ _ _ _ (Sm.ret ?_)) (r_M_hire _ _ _ _ (Sm.ret ?_))
      · rw [t_Book_look_0, if_pos rfl, rd_Book_boatOf ob, ix_nI hi2]
      · rw [t_M_hire_0, c_M_isHire (by omega) mh, clI_ok, hx, itT, if_pos rfl, rd_M_boatOf ob, ix_nI hi2, ← q1]
    by_cases y1 : y = 1
    · subst y1
      refine fin (hI h 204000120 0 i) (r_Book_look _ _ _ _ (Sm.ret ?_)) (r_M_hire _ _ _ _ (Sm.ret ?_))
      · rw [t_Book_look_0, if_neg y0, if_pos rfl, rd_Book_whoOf ob, ix_nI hi2]
      · rw [t_M_hire_0, c_M_isHire (by omega) mh, clI_ok, hx, itT, if_neg y0, if_pos rfl, rd_M_whoOf ob, ix_nI hi2, ← q2]
    by_cases y2 : y = 2
    · subst y2
      refine fin (hI h 205000120 0 i) (r_Book_look _ _ _ _ (Sm.ret ?_)) (r_M_hire _ _ _ _ (Sm.ret ?_))
      · rw [t_Book_look_0, if_neg y0, if_neg y1, if_pos rfl, rd_Book_outAt ob, ix_nI hi2]
      · rw [t_M_hire_0, c_M_isHire (by omega) mh, clI_ok, hx, itT, if_neg y0, if_neg y1, if_pos rfl, rd_M_outAt ob, ix_nI hi2, ← q3]
    by_cases y3 : y = 3
    · subst y3
      refine fin (hI h 206000120 0 i) (r_Book_look _ _ _ _ (Sm.ret ?_)) (r_M_hire _ _ _ _ (Sm.ret ?_))
      · rw [t_Book_look_0, if_neg y0, if_neg y1, if_neg y2, if_pos rfl, rd_Book_bookedFor ob, ix_nI hi2]
      · rw [t_M_hire_0, c_M_isHire (by omega) mh, clI_ok, hx, itT, if_neg y0, if_neg y1, if_neg y2, if_pos rfl, rd_M_booked ob, ix_nI hi2, ← q4]
    by_cases y4 : y = 4
    · subst y4
      refine fin (hI h 207000120 0 i) (r_Book_look _ _ _ _ (Sm.ret ?_)) (r_M_hire _ _ _ _ (Sm.ret ?_))
      · rw [t_Book_look_0, if_neg y0, if_neg y1, if_neg y2, if_neg y3, if_pos rfl, rd_Book_toldBy ob, ix_nI hi2]
      · rw [t_M_hire_0, c_M_isHire (by omega) mh, clI_ok, hx, itT, if_neg y0, if_neg y1, if_neg y2, if_neg y3, if_pos rfl, rd_M_toldBy ob, ix_nI hi2, ← q5]
    by_cases y5 : y = 5
    · subst y5
      refine fin (hI h 208000120 0 i) (r_Book_look _ _ _ _ (Sm.ret ?_)) (r_M_hire _ _ _ _ (Sm.ret ?_))
      · rw [t_Book_look_0, if_neg y0, if_neg y1, if_neg y2, if_neg y3, if_neg y4, if_pos rfl, rd_Book_reaches ob, ix_nI hi2]
      · rw [t_M_hire_0, c_M_isHire (by omega) mh, clI_ok, hx, itT, if_neg y0, if_neg y1, if_neg y2, if_neg y3, if_neg y4, if_pos rfl, rd_M_reaches ob, ix_nI hi2, ← p1]
    by_cases y6 : y = 6
    · subst y6
      refine fin (hI h 209000120 0 i) (r_Book_look _ _ _ _ (Sm.ret ?_)) (r_M_hire _ _ _ _ (Sm.ret ?_))
      · rw [t_Book_look_0, if_neg y0, if_neg y1, if_neg y2, if_neg y3, if_neg y4, if_neg y5, if_pos rfl, rd_Book_clean ob, ix_nI hi2]
      · rw [t_M_hire_0, c_M_isHire (by omega) mh, clI_ok, hx, itT, if_neg y0, if_neg y1, if_neg y2, if_neg y3, if_neg y4, if_neg y5, if_pos rfl, rd_M_clean ob, ix_nI hi2, ← p2]
    refine fin (-1) (r_Book_look _ _ _ _ (Sm.ret ?_)) (r_M_hire _ _ _ _ (Sm.ret ?_))
    · rw [t_Book_look_0, if_neg y0, if_neg y1, if_neg y2, if_neg y3, if_neg y4, if_neg y5, if_neg y6]
    · rw [t_M_hire_0, c_M_isHire (by omega) mh, clI_ok, hx, itT, if_neg y0, if_neg y1, if_neg y2, if_neg y3, if_neg y4, if_neg y5, if_neg y6]
theorem call_pass (x y z : Int32) (h : MH) (q : RHire h) (qp : RPass h) : Both L scr (d + 40) SPass RPass 163 312 [vR 900011 0, vI x, vI y, vI z] [vR 900012 0, vI x, vI y, vI z] h := by
  obtain ⟨q1, q2, q3, q4, q5, n, T, nb, hn, hT, hnb, ch, mh, cl, ml, bn, tk, hk, hsep⟩ := q
  cases hx : ixB x n with
  | false =>
    refine both0 (vI 0) (r_P_pass _ _ _ _ _ (Sm.ret ?_)) (r_M_pass _ _ _ _ _ (Sm.ret ?_)) qp
    · rw [t_P_pass_0, c_P_isHire ch, clI_ok, hx, itF, rtZ0]
    · rw [t_M_pass_0, c_M_isHire (by omega) mh, clI_ok, hx, itF, rtZ0]
  | true =>
    cases hy : inB y 0 65535 with
    | false =>
      refine both0 (vI 0) (r_P_pass _ _ _ _ _ (Sm.ret ?_)) (r_M_pass _ _ _ _ _ (Sm.ret ?_)) qp
      · rw [t_P_pass_0, c_P_isHire ch, clI_ok, hx, itT, c_P_within, clI_ok, hy, itF, rtZ0]
      · rw [t_M_pass_0, c_M_isHire (by omega) mh, clI_ok, hx, itT, c_M_isIn, clI_ok, hy, itF, rtZ0]
    | true =>
      obtain ⟨i, hi, hi2, rfl⟩ := ixB_t hx
      have ob : ¬ oob (nI i) 120 := oob_nI (by omega) (by decide)
      have m1 : ∀ v : Int32, hI (sI (sI h 208000120 0 i y) 209000120 0 i v) 1336 0 0 = nI n := by
        intro v
        rw [hI_rn (by decide), hI_rn (by decide)]; exact mh
      have key : ∀ v : Int32, (v = 0 ∨ v = 1) → (if z = 0 then 0 else 1) = v → E L scr (d + 40) 163 [vR 900011 0, vI (nI i), vI y, vI z] h = some (some (vI 1), sI (sI h 208000120 0 i y) 209000120 0 i v) → Both L scr (d + 40) SPass RPass 163 312 [vR 900011 0, vI (nI i), vI y, vI z] [vR 900012 0, vI (nI i), vI y, vI z] h := by
        intro v hv hv2 e1
        refine ⟨vI 1, _, sI (sI (sI (sI h 208000120 0 i y) 209000120 0 i v) 1344000120 0 i y) 1345000120 0 i v, e1, r_M_pass _ _ _ _ _ (Sm.ret ?_), ((((Upd.rf _ h).sI (by decide)).sI (by decide)).sI (by decide)).sI (by decide), ?_⟩
        · rw [t_M_pass_0, c_M_isHire (by omega) (m1 v), clI_ok, hx, itT, c_M_isIn, clI_ok, hy, itT, wr_M_reaches ob, ix_nI hi2, c_M_one, clI_ok, wr_M_clean ob, ix_nI hi2, hv2, rtZ1]
        · unfold RPass PPass at qp ⊢
          simp only [hI_row, Nat.reduceEqDiff, false_and, and_false, and_true, true_and, if_true, if_false, reduceIte]
          refine ⟨by rw [qp.1], by rw [qp.2.1], fun j => ?_⟩
          unfold up
          split
          · exact hv
          · exact qp.2.2 j
      by_cases hz : z = 0
      · refine key 0 (Or.inl rfl) (if_pos hz) (r_P_pass _ _ _ _ _ (Sm.ret ?_))
        rw [t_P_pass_0, c_P_isHire ch, clI_ok, hx, itT, c_P_within, clI_ok, hy, itT, wr_Book_reaches ob, ix_nI hi2, if_pos hz, wr_Book_clean ob, ix_nI hi2, rtZ1]
      · refine key 1 (Or.inr rfl) (if_neg hz) (r_P_pass _ _ _ _ _ (Sm.ret ?_))
        rw [t_P_pass_0, c_P_isHire ch, clI_ok, hx, itT, c_P_within, clI_ok, hy, itT, wr_Book_reaches ob, ix_nI hi2, if_neg hz, wr_Book_clean ob, ix_nI hi2, rtZ1]
def poleF (cl oa rc : Nat → Int32) (i k : Nat) (x : Int32) : Int32 := if cl k = 1 ∧ ¬ oa k ≤ oa i then x &&& (rc k ^^^ (-1)) else x
theorem call_pole (x : Int32) (h : MH) (q : RHire h) (qp : RPass h) : Both L scr (d + 40) Scr (fun _ => True) 164 313 [vR 900011 0, vI x] [vR 900012 0, vI x] h := by
  obtain ⟨q1, q2, q3, q4, q5, n, T, nb, hn, hT, hnb, ch, mh, cl, ml, bn, tk, hk, hsep⟩ := q
  obtain ⟨p1, p2, p3⟩ := qp
  cases hx : ixB x n with
  | false =>
    refine both0 (vI (-1)) (r_P_pole _ _ _ (Sm.ret ?_)) (r_M_pole _ _ _ (Sm.ret ?_)) trivial
    · rw [t_P_pole_0, c_P_isHire ch, clI_ok, hx, itF]
    · rw [t_M_pole_0, c_M_isHire (by omega) mh, clI_ok, hx, itF]
  | true =>
    obtain ⟨i, hi, hi2, rfl⟩ := ixB_t hx
    have ob : ∀ k, k < n → ¬ oob (nI k) 120 := fun k hk => oob_nI (by omega) (by decide)
    have eC : E L scr (d + 39) 19 [vR 900001 0, vI (nI i)] h = some (some (vI (fold (poleF (hI h 209000120 0) (hI h 205000120 0) (hI h 208000120 0) i) (hI h 208000120 0 i) n)), h) := by
      refine r_Book_reachesOfPole _ _ _ (Sm.step (t' := 1) (lo' := [some (vR 900001 0), some (vI (nI i)), some (vI (hI h 208000120 0 i)), some (vI 0)]) (st' := []) (h' := h) (by rw [t_Book_reachesOfPole_0, rd_Book_reaches (ob i hi), ix_nI hi2]) ?_)
      refine Sm.for (lo := fun k => [some (vR 900001 0), some (vI (nI i)), some (vI (fold (poleF (hI h 209000120 0) (hI h 205000120 0) (hI h 208000120 0) i) (hI h 208000120 0 i) k)), some (vI (nI k))]) (hh := fun _ => h) n (fun k hk => ?_) (Sm.ret ?_)
      · show _ = some (Sum.inl (1, [some (vR 900001 0), some (vI (nI i)), some (vI (poleF (hI h 209000120 0) (hI h 205000120 0) (hI h 208000120 0) i k (fold (poleF (hI h 209000120 0) (hI h 205000120 0) (hI h 208000120 0) i) (hI h 208000120 0 i) k))), some (vI (nI (k + 1)))], [], h))
        generalize fold (poleF (hI h 209000120 0) (hI h 205000120 0) (hI h 208000120 0) i) (hI h 208000120 0 i) k = acc
        unfold poleF
        rw [t_Book_reachesOfPole_1, ch, if_neg (nI_ge hk (by omega)), rd_Book_clean (ob k hk), ix_nI (by omega)]
        by_cases c1 : hI h 209000120 0 k = 1
        · rw [if_pos c1, rd_Book_outAt (ob k hk), rd_Book_outAt (ob i hi), ix_nI (by omega), ix_nI hi2]
          by_cases c2 : hI h 205000120 0 k ≤ hI h 205000120 0 i
          · rw [if_pos c2, if_neg (fun z => z.2 c2), nI_1]
          · rw [if_neg c2, if_pos ⟨c1, c2⟩, rd_Book_reaches (ob k hk), ix_nI (by omega), nI_1]
        · rw [if_neg c1, if_neg (fun z => c1 z.1), nI_1]
      · rw [t_Book_reachesOfPole_1, ch, if_pos (nI_le (Nat.le_refl _) (by omega))]
    refine both0 (vI (fold (poleF (hI h 209000120 0) (hI h 205000120 0) (hI h 208000120 0) i) (hI h 208000120 0 i) n)) (r_P_pole _ _ _ (Sm.ret ?_)) (r_M_pole _ _ _ (Sm.step (t' := 2) (lo' := [some (vR 900012 0), some (vI (nI i)), some (vI (hI h 1344000120 0 i)), some (vI 0)]) (st' := []) (h' := h) ?_ ?_)) trivial
    · rw [t_P_pole_0, c_P_isHire ch, clI_ok, hx, itT, eC, clI_ok]
    · rw [t_M_pole_0, c_M_isHire (by omega) mh, clI_ok, hx, itT, rd_M_reaches (ob i hi), ix_nI hi2]
    · rw [p1, p2, q3]
      refine Sm.for (lo := fun k => [some (vR 900012 0), some (vI (nI i)), some (vI (fold (poleF (hI h 1345000120 0) (hI h 1341000120 0) (hI h 1344000120 0) i) (hI h 1344000120 0 i) k)), some (vI (nI k))]) (hh := fun _ => h) n (fun k hk => ?_) (Sm.ret ?_)
      · show _ = some (Sum.inl (2, [some (vR 900012 0), some (vI (nI i)), some (vI (poleF (hI h 1345000120 0) (hI h 1341000120 0) (hI h 1344000120 0) i k (fold (poleF (hI h 1345000120 0) (hI h 1341000120 0) (hI h 1344000120 0) i) (hI h 1344000120 0 i) k))), some (vI (nI (k + 1)))], [], h))
        generalize fold (poleF (hI h 1345000120 0) (hI h 1341000120 0) (hI h 1344000120 0) i) (hI h 1344000120 0 i) k = acc
        unfold poleF
        rw [t_M_pole_2, mh, if_neg (nI_ge hk (by omega)), rd_M_clean (ob k hk), ix_nI (by omega)]
        by_cases c1 : hI h 1345000120 0 k = 1
        · rw [if_pos c1, rd_M_outAt (ob k hk), rd_M_outAt (ob i hi), ix_nI (by omega), ix_nI hi2]
          by_cases c2 : hI h 1341000120 0 k ≤ hI h 1341000120 0 i
          · rw [if_pos c2, if_neg (fun z => z.2 c2), nI_1]
          · rw [if_neg c2, if_pos ⟨c1, c2⟩, rd_M_reaches (ob k hk), ix_nI (by omega), nI_1]
        · rw [if_neg c1, if_neg (fun z => c1 z.1), nI_1]
      · rw [t_M_pole_2, mh, if_pos (nI_le (Nat.le_refl _) (by omega))]
theorem inB_T {y : Int32} {T : Nat} (hT : T < 2 ^ 31) (h : inB y 0 (nI T) = true) : ∃ t, t ≤ T ∧ y = nI t := inB_t (nI_toInt hT) h
theorem call_outs (x y : Int32) (h : MH) (q : RHire h) : Both L scr (d + 40) Scr (fun _ => True) 142 275 [vR 900011 0, vI x, vI y] [vR 900012 0, vI x, vI y] h := by
  obtain ⟨q1, q2, q3, q4, q5, n, T, nb, hn, hT, hnb, ch, mh, cl, ml, bn, tk, hk, hsep⟩ := id q
  cases hx : ixB x 72000 with
  | false =>
    refine both0 (vI (-1)) (r_P_outs _ _ _ _ (Sm.ret ?_)) (r_M_outs _ _ _ _ (Sm.ret ?_)) trivial
    · rw [t_P_outs_0, c_P_isMoment, clI_ok, hx, itF]
    · rw [t_M_outs_0, c_M_isMoment, clI_ok, hx, itF]
  | true =>
    cases hy : inB y 0 (nI T) with
    | false =>
      refine both0 (vI (-1)) (r_P_outs _ _ _ _ (Sm.ret ?_)) (r_M_outs _ _ _ _ (Sm.ret ?_)) trivial
      · rw [t_P_outs_0, c_P_isMoment, clI_ok, hx, itT, c_P_isTelling cl, clI_ok, hy, itF]
      · rw [t_M_outs_0, c_M_isMoment, clI_ok, hx, itT, c_M_isTelling ml, clI_ok, hy, itF]
    | true =>
      obtain ⟨t, ht, rfl⟩ := inB_T (by omega) hy
      obtain ⟨hm, B, S, C, eS, fS⟩ := see_g (L := L) (scr := scr) (d := d + 37) q 0 hT cl ht hn ch
      have u1 := vwx_Scr (h := h) (B := B) (S := S) (C := C) (n := cnS h t)
      have a1 : ∀ r ∈ SHire, hI (withR h (vwL h 0 B S C (cnS h t))) r.1 r.2 = hI h r.1 r.2 := fun r hr => u1.2 _ _ (ScrH r hr)
      obtain ⟨B2, S2, C2, D2, eK, fK⟩ := kn_g (L := L) (scr := scr) (d := d + 38) q hT cl ht hn ch a1
      have u2 := kn_Scr (h := withR h (vwL h 0 B S C (cnS h t))) (B := B2) (S := S2) (C := C2) (D := D2) (t := nI t)
      have u3 := u1.tr u2
      have ml1 : hI (withR h (vwL h 0 B S C (cnS h t))) 1337 0 0 = nI T := by rw [u1.2 _ _ (by decide)]; exact ml
      have mh3 : hI (withR (withR h (vwL h 0 B S C (cnS h t))) (knL (withR h (vwL h 0 B S C (cnS h t))) B2 S2 C2 D2 (nI t))) 1336 0 0 = nI n := by rw [u3.2 _ _ (by decide)]; exact mh
      have oe := out_eq (oa := hI h 205000120 0) (bo := hI h 203000120 0) (B := B) (B2 := B2) (tb := hI h 207000120 0) (x := x) (t := t) hm (fun i hi => told_dec hT ht hk hi) (fun i hi => by rw [(fS i hi).1, (fK i (by omega)).1])
      refine ⟨vI (fold (outF (awayB (hI h 205000120 0) B x) (hI h 203000120 0)) 0 (cnS h t)), withR h (vwL h 0 B S C (cnS h t)), withR (withR h (vwL h 0 B S C (cnS h t))) (knL (withR h (vwL h 0 B S C (cnS h t))) B2 S2 C2 D2 (nI t)), r_P_outs _ _ _ _ (Sm.ret ?_), r_M_outs _ _ _ _ (Sm.ret ?_), u3, trivial⟩
      · rw [t_P_outs_0, c_P_isMoment, clI_ok, hx, itT, c_P_isTelling cl, clI_ok, hy, itT, eS, clV_ok, c_outBits (m := cnS h t) (by omega) x vwx_n, clI_ok, vwx_B, u1.2 205000120 0 (by decide), u1.2 203000120 0 (by decide)]
      · rw [t_M_outs_0, c_M_isMoment, clI_ok, hx, itT, c_M_isTelling ml1, clI_ok, hy, itT, eK, clV_ok, c_M_outSet hn x mh3, clI_ok, kn_B, kn_t, u3.2 1341000120 0 (by decide), u3.2 1339000120 0 (by decide), u3.2 1343000120 0 (by decide), ← q1, ← q3, ← q5, oe]
theorem call_known (x y : Int32) (h : MH) (q : RHire h) : Both L scr (d + 40) Scr (fun _ => True) 140 263 [vR 900011 0, vI x, vI y] [vR 900012 0, vI x, vI y] h := by
  obtain ⟨q1, q2, q3, q4, q5, n, T, nb, hn, hT, hnb, ch, mh, cl, ml, bn, tk, hk, hsep⟩ := id q
  cases hx : ixB x n with
  | false =>
    refine both0 (vI (-2)) (r_P_known _ _ _ _ (Sm.ret ?_)) (r_M_known _ _ _ _ (Sm.ret ?_)) trivial
    · have e : E L scr (d + 39) 192 [vR 900011 0, vI x, vI y] h = some (some (vI 0), h) := by
        refine r_P_seesHire _ _ _ _ (Sm.ret ?_)
        rw [t_P_seesHire_0, c_P_isHire ch, clI_ok, hx, itF, rtZ0]
      rw [t_P_known_0, e, clI_ok, if_pos rfl]
    · rw [t_M_known_0, c_M_isHire (by omega) mh, clI_ok, hx, itF]
  | true =>
    cases hy : inB y 0 (nI T) with
    | false =>
      refine both0 (vI (-2)) (r_P_known _ _ _ _ (Sm.ret ?_)) (r_M_known _ _ _ _ (Sm.ret ?_)) trivial
      · have e : E L scr (d + 39) 192 [vR 900011 0, vI x, vI y] h = some (some (vI 0), h) := by
          refine r_P_seesHire _ _ _ _ (Sm.ret ?_)
          rw [t_P_seesHire_0, c_P_isHire ch, clI_ok, hx, itT, c_P_isTelling cl, clI_ok, hy, itF, rtZ0]
        rw [t_P_known_0, e, clI_ok, if_pos rfl]
      · rw [t_M_known_0, c_M_isHire (by omega) mh, clI_ok, hx, itT, c_M_isTelling ml, clI_ok, hy, itF]
    | true =>
      obtain ⟨t, ht, rfl⟩ := inB_T (by omega) hy
      obtain ⟨i, hi, hi2, rfl⟩ := ixB_t hx
      have ob : ¬ oob (nI i) 120 := oob_nI (by omega) (by decide)
      obtain ⟨hm, B, S, C, eS, fS⟩ := see_g (L := L) (scr := scr) (d := d + 36) q 0 hT cl ht hn ch
      have u1 := vwx_Scr (h := h) (B := B) (S := S) (C := C) (n := cnS h t)
      have eH : E L scr (d + 39) 192 [vR 900011 0, vI (nI i), vI (nI t)] h = some (some (vI (zb (decide (i < cnS h t)))), withR h (vwL h 0 B S C (cnS h t))) := by
        refine r_P_seesHire _ _ _ _ (Sm.ret ?_)
        rw [t_P_seesHire_0, c_P_isHire ch, clI_ok, hx, itT, c_P_isTelling cl, clI_ok, hy, itT, eS, clV_ok, vwx_n]
        by_cases c : i < cnS h t
        · rw [if_neg (nI_ge c (by omega)), decide_eq_true c, rtZ1]; rfl
        · rw [if_pos (nI_le (by omega) (by omega)), decide_eq_false c, rtZ0]; rfl
      have ml1 : hI (withR h (vwL h 0 B S C (cnS h t))) 1337 0 0 = nI T := by rw [u1.2 _ _ (by decide)]; exact ml
      have mh1 : hI (withR h (vwL h 0 B S C (cnS h t))) 1336 0 0 = nI n := by rw [u1.2 _ _ (by decide)]; exact mh
      have td := told_dec hT ht hk hi
      have mt1 : hI (withR h (vwL h 0 B S C (cnS h t))) 1343000120 0 i = hI h 207000120 0 i := by
        rw [u1.2 _ _ (by decide)]; exact (congrFun (show hI h 207000120 0 = hI h 1343000120 0 from q5) i).symm
      by_cases c : i < cnS h t
      · have a1 : ∀ r ∈ SHire, hI (withR h (vwL h 0 B S C (cnS h t))) r.1 r.2 = hI h r.1 r.2 := fun r hr => u1.2 _ _ (ScrH r hr)
        obtain ⟨B2, S2, C2, D2, eK, fK⟩ := kn_g (L := L) (scr := scr) (d := d + 38) q hT cl ht hn ch a1
        refine ⟨vI (bkS h t i), withR h (vwL h 0 B S C (cnS h t)), withR (withR h (vwL h 0 B S C (cnS h t))) (knL (withR h (vwL h 0 B S C (cnS h t))) B2 S2 C2 D2 (nI t)), r_P_known _ _ _ _ (Sm.ret ?_), r_M_known _ _ _ _ (Sm.ret ?_), u1.tr kn_Scr, trivial⟩
        · rw [t_P_known_0, eH, clI_ok, decide_eq_true c, itT, rd_View_backAt ob, ix_nI hi2, vwx_B, (fS i c).1]
        · rw [decide_eq_true (show i < cntW (hI h 211000400 0) t from c)] at td
          rw [t_M_known_0, c_M_isHire (by omega) mh1, clI_ok, hx, itT, c_M_isTelling ml1, clI_ok, hy, itT, rd_M_toldBy ob, ix_nI hi2, mt1, if_pos (of_decide_eq_true td), eK, clV_ok, rd_M_backAt ob, ix_nI hi2, kn_B, (fK i hi).1]
      · refine ⟨vI (-2), withR h (vwL h 0 B S C (cnS h t)), withR h (vwL h 0 B S C (cnS h t)), r_P_known _ _ _ _ (Sm.ret ?_), r_M_known _ _ _ _ (Sm.ret ?_), u1, trivial⟩
        · rw [t_P_known_0, eH, clI_ok, decide_eq_false c, itF]
        · rw [decide_eq_false (show ¬ i < cntW (hI h 211000400 0) t from c)] at td
          rw [t_M_known_0, c_M_isHire (by omega) mh1, clI_ok, hx, itT, c_M_isTelling ml1, clI_ok, hy, itT, rd_M_toldBy ob, ix_nI hi2, mt1, if_neg (of_decide_eq_false td)]
end Ask

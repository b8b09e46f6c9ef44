/-! RULES, on the class's side: one, by its word -/
section CRules4
variable {L : Nat} {scr : Nat → Int32} {d : Nat}
theorem c_oneN {h : MH} {ls l : List (Nat × Nat)} {m b i hi s : Nat} {S : LSt} (hh : hi ≤ 999) (hs : s ∈ num9) (cp : CP h ls (.inl l)) (gp : GapL l) (b3 : 3 * b ≤ hdP l) (lw : LwC h m b S) (hq : ∀ h b w, LwC h m b S → LwC (sI h s m 0 (nI w)) m b (setN S i w)) : ∃ h2 w, E L scr (d + 2) 78 [vR 900006 0, vI (nI 0), vI (nI hi)] h = some (some (vI (nI w)), h2) ∧ Upd (WRu m) h (sI h2 s m 0 (nI w)) ∧ KO (sI h2 s m 0 (nI w)) ls m (pOneN i hi S l) := by
  obtain ⟨h1, w1, e1, u1, c1, -, i1, v1⟩ := c_takeNumber (L := L) (scr := scr) (d := d) (lo := 0) (hi := hi) (Nat.zero_le _) hh cp
  have c3 := c1.nm (s := s) (m := m) (k := 0) (v := nI w1) hs
  have l3 := hq h1 b w1 (lw.rd u1)
  refine ⟨h1, w1, e1, upd_nm hs (u1.mono WRu_rd), ?_⟩
  unfold pOneN
  rcases pn_split (lo := 0) (hi := hi) cp.ok gp with ⟨t1, g1, r1, rfl, n1, ok1, gp1, h1', k1, p1⟩ | ⟨g, k1, p1⟩
  · rw [k1] at c3
    rw [bd_l p1]
    have q1 := v1 t1 g1 _ rfl n1
    rw [q1] at l3 c3 ⊢
    exact ⟨c3, gp1, b, by show 3 * b ≤ hdP r1; omega, l3⟩
  · rw [k1] at c3
    rw [bd_r p1]; exact ⟨c3, l3.rf⟩
theorem c_readRule {h : MH} {ls r : List (Nat × Nat)} {m b t g : Nat} {S : LSt} (hR : S.2.1 < 40) (cp : CP h ls (.inl ((t, g) :: r))) (gp : GapL ((t, g) :: r)) (b3 : 3 * b ≤ g) (lw : LwC h m b S) : ∃ h2, E L scr (d + 31) 79 [vR 900006 0, vR 900005 m] h = some (none, h2) ∧ Upd (WRu m) h h2 ∧ KO h2 ls m (pRule S ((t, g) :: r)) := by
  obtain ⟨i, t', ea, i9, et, tt, cu⟩ := id cp.cur
  obtain ⟨g', r', ez⟩ := cu _ rfl
  have tz : t' = t := by injection ez with z _; injection z with z _; exact z.symm
  subst tz
  have ob : ¬ oob (nI i) 901 := oob_nI i9 (by decide)
  have ixi : ix (nI i) = i := ix_nI (by omega)
  have okl := cp.ok
  have nx : t' ≠ 4000 → GapL r ∧ g ≤ hdP r := fun ne => by
    have ok1 : OkL r := okl.2.elim (fun z => absurd z.1 ne) (fun z => z.2)
    obtain ⟨g1, -, g2⟩ := gap_t gp ok1
    exact ⟨g2, by omega⟩

  by_cases x1 : t' = 1
  · subst x1
    obtain ⟨gp1, g1⟩ := nx (by decide)
    obtain ⟨h1, e1, u1, c1⟩ := c_pass (L := L) (scr := scr) (d := d + 29) cp (by decide)
    have l1 := lw.rd u1
    have et2 : tkI 1 = 1 := rfl
    have pe : pRule S ((1, g) :: r) = pOneN 15 100 S r := by
      show (if 1 = 8 then pPrice S r else if 1 = 9 then pBusy S r else if 1 = 10 then pDeposit S r else if 1 = 11 then pLate S r else if 1 = 1 then pOneN 15 100 S r else if 1 = 12 then pRight S r else if 1 = 13 then pOneN 16 999 S r else if 1 = 14 then pHarm S r else if 1 = 15 then pShutR S r else .inr g) = _
      rw [if_neg (by decide), if_neg (by decide), if_neg (by decide), if_neg (by decide), if_pos rfl]
    rw [pe]
    obtain ⟨h2, w, e2, u2, k2⟩ := c_oneN (L := L) (scr := scr) (d := d + 28) (i := 15) (hi := 100) (s := 608) (by decide) (by decide) c1 gp1 (by omega) l1 (fun h b w q => q.n1 (by decide) (LawEq.s15 q.1))
    refine ⟨_, r_Reader_readRule (d := d + 30) _ _ _ (Sm.step (t' := 5) (lo' := [some (vR 900006 0), some (vR 900005 m), some (vI 1), some (vI 1)]) (st' := [vI 1, vR 900006 0]) (h' := h) ?_ (Sm.ret ?_)), (u1.mono WRu_rd).tr u2, k2⟩
    · rw [t_Reader_readRule_0, ea, rd_Reader_tokens ob, ixi, et, et2, if_pos rfl, if_neg i0n1]
    · replace e1 : E L scr (d + 30) 77 [vR 900006 0, vI 1] h = some (none, h1) := e1
      replace e2 : E L scr (d + 30) 78 [vR 900006 0, vI 0, vI 100] h1 = some (some (vI (nI w)), h2) := e2
      rw [t_Reader_readRule_5, e1, clV_ok, if_pos rfl, e2, clI_ok]
  by_cases x8 : t' = 8
  · subst x8
    obtain ⟨gp1, g1⟩ := nx (by decide)
    obtain ⟨h1, e1, u1, c1⟩ := c_pass (L := L) (scr := scr) (d := d + 29) cp (by decide)
    have l1 := lw.rd u1
    have et2 : tkI 8 = 8 := rfl
    have pe : pRule S ((8, g) :: r) = pPrice S r := by
      show (if 8 = 8 then pPrice S r else if 8 = 9 then pBusy S r else if 8 = 10 then pDeposit S r else if 8 = 11 then pLate S r else if 8 = 1 then pOneN 15 100 S r else if 8 = 12 then pRight S r else if 8 = 13 then pOneN 16 999 S r else if 8 = 14 then pHarm S r else if 8 = 15 then pShutR S r else .inr g) = _
      rw [if_pos rfl]
    rw [pe]
    obtain ⟨h2, e2, u2, k2⟩ := c_readPrice (L := L) (scr := scr) (d := d + 27) c1 gp1 (by omega) l1
    refine ⟨h2, r_Reader_readRule (d := d + 30) _ _ _ (Sm.step (t' := 5) (lo' := [some (vR 900006 0), some (vR 900005 m), some (vI 8), some (vI 1)]) (st' := [vI 8, vR 900006 0]) (h' := h) ?_ (Sm.ret ?_)), (u1.mono WRu_rd).tr u2, k2⟩
    · rw [t_Reader_readRule_0, ea, rd_Reader_tokens ob, ixi, et, et2, if_neg (show ¬ (8 : Int32) = 1 by decide), if_neg (show ¬ (8 : Int32) < 8 by decide), if_neg (show ¬ (15 : Int32) < 8 by decide), if_neg i0n1]
    · replace e1 : E L scr (d + 30) 77 [vR 900006 0, vI 8] h = some (none, h1) := e1
      rw [t_Reader_readRule_5, e1, clV_ok, if_neg (show ¬ (8 : Int32) = 1 by decide), if_neg (show ¬ (8 : Int32) = 2 by decide), if_neg (show ¬ (8 : Int32) = 3 by decide), if_neg (show ¬ (8 : Int32) = 4 by decide), if_neg (show ¬ (8 : Int32) = 5 by decide), if_neg (show ¬ (8 : Int32) = 6 by decide), if_neg (show ¬ (8 : Int32) = 7 by decide), if_pos rfl, e2, clV_ok]
  by_cases x9 : t' = 9
  · subst x9
    obtain ⟨gp1, g1⟩ := nx (by decide)
    obtain ⟨h1, e1, u1, c1⟩ := c_pass (L := L) (scr := scr) (d := d + 29) cp (by decide)
    have l1 := lw.rd u1
    have et2 : tkI 9 = 9 := rfl
    have pe : pRule S ((9, g) :: r) = pBusy S r := by
      show (if 9 = 8 then pPrice S r else if 9 = 9 then pBusy S r else if 9 = 10 then pDeposit S r else if 9 = 11 then pLate S r else if 9 = 1 then pOneN 15 100 S r else if 9 = 12 then pRight S r else if 9 = 13 then pOneN 16 999 S r else if 9 = 14 then pHarm S r else if 9 = 15 then pShutR S r else .inr g) = _
      rw [if_neg (by decide), if_pos rfl]
    rw [pe]
    obtain ⟨h2, e2, u2, k2⟩ := c_readBusy (L := L) (scr := scr) (d := d + 27) hR c1 gp1 (by omega) l1
    refine ⟨h2, r_Reader_readRule (d := d + 30) _ _ _ (Sm.step (t' := 5) (lo' := [some (vR 900006 0), some (vR 900005 m), some (vI 9), some (vI 1)]) (st' := [vI 9, vR 900006 0]) (h' := h) ?_ (Sm.ret ?_)), (u1.mono WRu_rd).tr u2, k2⟩
    · rw [t_Reader_readRule_0, ea, rd_Reader_tokens ob, ixi, et, et2, if_neg (show ¬ (9 : Int32) = 1 by decide), if_neg (show ¬ (9 : Int32) < 8 by decide), if_neg (show ¬ (15 : Int32) < 9 by decide), if_neg i0n1]
    · replace e1 : E L scr (d + 30) 77 [vR 900006 0, vI 9] h = some (none, h1) := e1
      rw [t_Reader_readRule_5, e1, clV_ok, if_neg (show ¬ (9 : Int32) = 1 by decide), if_neg (show ¬ (9 : Int32) = 2 by decide), if_neg (show ¬ (9 : Int32) = 3 by decide), if_neg (show ¬ (9 : Int32) = 4 by decide), if_neg (show ¬ (9 : Int32) = 5 by decide), if_neg (show ¬ (9 : Int32) = 6 by decide), if_neg (show ¬ (9 : Int32) = 7 by decide), if_neg (show ¬ (9 : Int32) = 8 by decide), if_pos rfl, e2, clV_ok]
  by_cases x10 : t' = 10
  · subst x10
    obtain ⟨gp1, g1⟩ := nx (by decide)
    obtain ⟨h1, e1, u1, c1⟩ := c_pass (L := L) (scr := scr) (d := d + 29) cp (by decide)
    have l1 := lw.rd u1
    have et2 : tkI 10 = 10 := rfl
    have pe : pRule S ((10, g) :: r) = pDeposit S r := by
      show (if 10 = 8 then pPrice S r else if 10 = 9 then pBusy S r else if 10 = 10 then pDeposit S r else if 10 = 11 then pLate S r else if 10 = 1 then pOneN 15 100 S r else if 10 = 12 then pRight S r else if 10 = 13 then pOneN 16 999 S r else if 10 = 14 then pHarm S r else if 10 = 15 then pShutR S r else .inr g) = _
      rw [if_neg (by decide), if_neg (by decide), if_pos rfl]
    rw [pe]
    obtain ⟨h2, e2, u2, k2⟩ := c_readDeposit (L := L) (scr := scr) (d := d + 27) c1 gp1 (by omega) l1
    refine ⟨h2, r_Reader_readRule (d := d + 30) _ _ _ (Sm.step (t' := 5) (lo' := [some (vR 900006 0), some (vR 900005 m), some (vI 10), some (vI 1)]) (st' := [vI 10, vR 900006 0]) (h' := h) ?_ (Sm.ret ?_)), (u1.mono WRu_rd).tr u2, k2⟩
    · rw [t_Reader_readRule_0, ea, rd_Reader_tokens ob, ixi, et, et2, if_neg (show ¬ (10 : Int32) = 1 by decide), if_neg (show ¬ (10 : Int32) < 8 by decide), if_neg (show ¬ (15 : Int32) < 10 by decide), if_neg i0n1]
    · replace e1 : E L scr (d + 30) 77 [vR 900006 0, vI 10] h = some (none, h1) := e1
      rw [t_Reader_readRule_5, e1, clV_ok, if_neg (show ¬ (10 : Int32) = 1 by decide), if_neg (show ¬ (10 : Int32) = 2 by decide), if_neg (show ¬ (10 : Int32) = 3 by decide), if_neg (show ¬ (10 : Int32) = 4 by decide), if_neg (show ¬ (10 : Int32) = 5 by decide), if_neg (show ¬ (10 : Int32) = 6 by decide), if_neg (show ¬ (10 : Int32) = 7 by decide), if_neg (show ¬ (10 : Int32) = 8 by decide), if_neg (show ¬ (10 : Int32) = 9 by decide), if_pos rfl, e2, clV_ok]
  by_cases x11 : t' = 11
  · subst x11
    obtain ⟨gp1, g1⟩ := nx (by decide)
    obtain ⟨h1, e1, u1, c1⟩ := c_pass (L := L) (scr := scr) (d := d + 29) cp (by decide)
    have l1 := lw.rd u1
    have et2 : tkI 11 = 11 := rfl
    have pe : pRule S ((11, g) :: r) = pLate S r := by
      show (if 11 = 8 then pPrice S r else if 11 = 9 then pBusy S r else if 11 = 10 then pDeposit S r else if 11 = 11 then pLate S r else if 11 = 1 then pOneN 15 100 S r else if 11 = 12 then pRight S r else if 11 = 13 then pOneN 16 999 S r else if 11 = 14 then pHarm S r else if 11 = 15 then pShutR S r else .inr g) = _
      rw [if_neg (by decide), if_neg (by decide), if_neg (by decide), if_pos rfl]
    rw [pe]
    obtain ⟨h2, e2, u2, k2⟩ := c_readLate (L := L) (scr := scr) (d := d + 27) c1 gp1 (by omega) l1
    refine ⟨h2, r_Reader_readRule (d := d + 30) _ _ _ (Sm.step (t' := 5) (lo' := [some (vR 900006 0), some (vR 900005 m), some (vI 11), some (vI 1)]) (st' := [vI 11, vR 900006 0]) (h' := h) ?_ (Sm.ret ?_)), (u1.mono WRu_rd).tr u2, k2⟩
    · rw [t_Reader_readRule_0, ea, rd_Reader_tokens ob, ixi, et, et2, if_neg (show ¬ (11 : Int32) = 1 by decide), if_neg (show ¬ (11 : Int32) < 8 by decide), if_neg (show ¬ (15 : Int32) < 11 by decide), if_neg i0n1]
    · replace e1 : E L scr (d + 30) 77 [vR 900006 0, vI 11] h = some (none, h1) := e1
      rw [t_Reader_readRule_5, e1, clV_ok, if_neg (show ¬ (11 : Int32) = 1 by decide), if_neg (show ¬ (11 : Int32) = 2 by decide), if_neg (show ¬ (11 : Int32) = 3 by decide), if_neg (show ¬ (11 : Int32) = 4 by decide), if_neg (show ¬ (11 : Int32) = 5 by decide), if_neg (show ¬ (11 : Int32) = 6 by decide), if_neg (show ¬ (11 : Int32) = 7 by decide), if_neg (show ¬ (11 : Int32) = 8 by decide), if_neg (show ¬ (11 : Int32) = 9 by decide), if_neg (show ¬ (11 : Int32) = 10 by decide), if_pos rfl, e2, clV_ok]
  by_cases x12 : t' = 12
  · subst x12
    obtain ⟨gp1, g1⟩ := nx (by decide)
    obtain ⟨h1, e1, u1, c1⟩ := c_pass (L := L) (scr := scr) (d := d + 29) cp (by decide)
    have l1 := lw.rd u1
    have et2 : tkI 12 = 12 := rfl
    have pe : pRule S ((12, g) :: r) = pRight S r := by
      show (if 12 = 8 then pPrice S r else if 12 = 9 then pBusy S r else if 12 = 10 then pDeposit S r else if 12 = 11 then pLate S r else if 12 = 1 then pOneN 15 100 S r else if 12 = 12 then pRight S r else if 12 = 13 then pOneN 16 999 S r else if 12 = 14 then pHarm S r else if 12 = 15 then pShutR S r else .inr g) = _
      rw [if_neg (by decide), if_neg (by decide), if_neg (by decide), if_neg (by decide), if_neg (by decide), if_pos rfl]
    rw [pe]
    obtain ⟨h2, e2, u2, k2⟩ := c_readRight (L := L) (scr := scr) (d := d + 27) c1 gp1 (by omega) l1
    refine ⟨h2, r_Reader_readRule (d := d + 30) _ _ _ (Sm.step (t' := 5) (lo' := [some (vR 900006 0), some (vR 900005 m), some (vI 12), some (vI 1)]) (st' := [vI 12, vR 900006 0]) (h' := h) ?_ (Sm.ret ?_)), (u1.mono WRu_rd).tr u2, k2⟩
    · rw [t_Reader_readRule_0, ea, rd_Reader_tokens ob, ixi, et, et2, if_neg (show ¬ (12 : Int32) = 1 by decide), if_neg (show ¬ (12 : Int32) < 8 by decide), if_neg (show ¬ (15 : Int32) < 12 by decide), if_neg i0n1]
    · replace e1 : E L scr (d + 30) 77 [vR 900006 0, vI 12] h = some (none, h1) := e1
      rw [t_Reader_readRule_5, e1, clV_ok, if_neg (show ¬ (12 : Int32) = 1 by decide), if_neg (show ¬ (12 : Int32) = 2 by decide), if_neg (show ¬ (12 : Int32) = 3 by decide), if_neg (show ¬ (12 : Int32) = 4 by decide), if_neg (show ¬ (12 : Int32) = 5 by decide), if_neg (show ¬ (12 : Int32) = 6 by decide), if_neg (show ¬ (12 : Int32) = 7 by decide), if_neg (show ¬ (12 : Int32) = 8 by decide), if_neg (show ¬ (12 : Int32) = 9 by decide), if_neg (show ¬ (12 : Int32) = 10 by decide), if_neg (show ¬ (12 : Int32) = 11 by decide), if_pos rfl, e2, clV_ok]
  by_cases x13 : t' = 13
  · subst x13
    obtain ⟨gp1, g1⟩ := nx (by decide)
    obtain ⟨h1, e1, u1, c1⟩ := c_pass (L := L) (scr := scr) (d := d + 29) cp (by decide)
    have l1 := lw.rd u1
    have et2 : tkI 13 = 13 := rfl
    have pe : pRule S ((13, g) :: r) = pOneN 16 999 S r := by
      show (if 13 = 8 then pPrice S r else if 13 = 9 then pBusy S r else if 13 = 10 then pDeposit S r else if 13 = 11 then pLate S r else if 13 = 1 then pOneN 15 100 S r else if 13 = 12 then pRight S r else if 13 = 13 then pOneN 16 999 S r else if 13 = 14 then pHarm S r else if 13 = 15 then pShutR S r else .inr g) = _
      rw [if_neg (by decide), if_neg (by decide), if_neg (by decide), if_neg (by decide), if_neg (by decide), if_neg (by decide), if_pos rfl]
    rw [pe]
    obtain ⟨h2, w, e2, u2, k2⟩ := c_oneN (L := L) (scr := scr) (d := d + 28) (i := 16) (hi := 999) (s := 609) (by decide) (by decide) c1 gp1 (by omega) l1 (fun h b w q => q.n1 (by decide) (LawEq.s16 q.1))
    refine ⟨_, r_Reader_readRule (d := d + 30) _ _ _ (Sm.step (t' := 5) (lo' := [some (vR 900006 0), some (vR 900005 m), some (vI 13), some (vI 1)]) (st' := [vI 13, vR 900006 0]) (h' := h) ?_ (Sm.ret ?_)), (u1.mono WRu_rd).tr u2, k2⟩
    · rw [t_Reader_readRule_0, ea, rd_Reader_tokens ob, ixi, et, et2, if_neg (show ¬ (13 : Int32) = 1 by decide), if_neg (show ¬ (13 : Int32) < 8 by decide), if_neg (show ¬ (15 : Int32) < 13 by decide), if_neg i0n1]
    · replace e1 : E L scr (d + 30) 77 [vR 900006 0, vI 13] h = some (none, h1) := e1
      replace e2 : E L scr (d + 30) 78 [vR 900006 0, vI 0, vI 999] h1 = some (some (vI (nI w)), h2) := e2
      rw [t_Reader_readRule_5, e1, clV_ok, if_neg (show ¬ (13 : Int32) = 1 by decide), if_neg (show ¬ (13 : Int32) = 2 by decide), if_neg (show ¬ (13 : Int32) = 3 by decide), if_neg (show ¬ (13 : Int32) = 4 by decide), if_neg (show ¬ (13 : Int32) = 5 by decide), if_neg (show ¬ (13 : Int32) = 6 by decide), if_neg (show ¬ (13 : Int32) = 7 by decide), if_neg (show ¬ (13 : Int32) = 8 by decide), if_neg (show ¬ (13 : Int32) = 9 by decide), if_neg (show ¬ (13 : Int32) = 10 by decide), if_neg (show ¬ (13 : Int32) = 11 by decide), if_neg (show ¬ (13 : Int32) = 12 by decide), if_pos rfl, e2, clI_ok]
  by_cases x14 : t' = 14
  · subst x14
    obtain ⟨gp1, g1⟩ := nx (by decide)
    obtain ⟨h1, e1, u1, c1⟩ := c_pass (L := L) (scr := scr) (d := d + 29) cp (by decide)
    have l1 := lw.rd u1
    have et2 : tkI 14 = 14 := rfl
    have pe : pRule S ((14, g) :: r) = pHarm S r := by
      show (if 14 = 8 then pPrice S r else if 14 = 9 then pBusy S r else if 14 = 10 then pDeposit S r else if 14 = 11 then pLate S r else if 14 = 1 then pOneN 15 100 S r else if 14 = 12 then pRight S r else if 14 = 13 then pOneN 16 999 S r else if 14 = 14 then pHarm S r else if 14 = 15 then pShutR S r else .inr g) = _
      rw [if_neg (by decide), if_neg (by decide), if_neg (by decide), if_neg (by decide), if_neg (by decide), if_neg (by decide), if_neg (by decide), if_pos rfl]
    rw [pe]
    obtain ⟨h2, e2, u2, k2⟩ := c_readHarm (L := L) (scr := scr) (d := d) hR c1 gp1 (by omega) l1
    refine ⟨h2, r_Reader_readRule (d := d + 30) _ _ _ (Sm.step (t' := 5) (lo' := [some (vR 900006 0), some (vR 900005 m), some (vI 14), some (vI 1)]) (st' := [vI 14, vR 900006 0]) (h' := h) ?_ (Sm.ret ?_)), (u1.mono WRu_rd).tr u2, k2⟩
    · rw [t_Reader_readRule_0, ea, rd_Reader_tokens ob, ixi, et, et2, if_neg (show ¬ (14 : Int32) = 1 by decide), if_neg (show ¬ (14 : Int32) < 8 by decide), if_neg (show ¬ (15 : Int32) < 14 by decide), if_neg i0n1]
    · replace e1 : E L scr (d + 30) 77 [vR 900006 0, vI 14] h = some (none, h1) := e1
      rw [t_Reader_readRule_5, e1, clV_ok, if_neg (show ¬ (14 : Int32) = 1 by decide), if_neg (show ¬ (14 : Int32) = 2 by decide), if_neg (show ¬ (14 : Int32) = 3 by decide), if_neg (show ¬ (14 : Int32) = 4 by decide), if_neg (show ¬ (14 : Int32) = 5 by decide), if_neg (show ¬ (14 : Int32) = 6 by decide), if_neg (show ¬ (14 : Int32) = 7 by decide), if_neg (show ¬ (14 : Int32) = 8 by decide), if_neg (show ¬ (14 : Int32) = 9 by decide), if_neg (show ¬ (14 : Int32) = 10 by decide), if_neg (show ¬ (14 : Int32) = 11 by decide), if_neg (show ¬ (14 : Int32) = 12 by decide), if_neg (show ¬ (14 : Int32) = 13 by decide), if_pos rfl, e2, clV_ok]
  by_cases x15 : t' = 15
  · subst x15
    obtain ⟨gp1, g1⟩ := nx (by decide)
    obtain ⟨h1, e1, u1, c1⟩ := c_pass (L := L) (scr := scr) (d := d + 29) cp (by decide)
    have l1 := lw.rd u1
    have et2 : tkI 15 = 15 := rfl
    have pe : pRule S ((15, g) :: r) = pShutR S r := by
      show (if 15 = 8 then pPrice S r else if 15 = 9 then pBusy S r else if 15 = 10 then pDeposit S r else if 15 = 11 then pLate S r else if 15 = 1 then pOneN 15 100 S r else if 15 = 12 then pRight S r else if 15 = 13 then pOneN 16 999 S r else if 15 = 14 then pHarm S r else if 15 = 15 then pShutR S r else .inr g) = _
      rw [if_neg (by decide), if_neg (by decide), if_neg (by decide), if_neg (by decide), if_neg (by decide), if_neg (by decide), if_neg (by decide), if_neg (by decide), if_pos rfl]
    rw [pe]
    obtain ⟨h2, e2, u2, k2⟩ := c_readShut (L := L) (scr := scr) (d := d) hR c1 gp1 (by omega) l1
    refine ⟨h2, r_Reader_readRule (d := d + 30) _ _ _ (Sm.step (t' := 5) (lo' := [some (vR 900006 0), some (vR 900005 m), some (vI 15), some (vI 1)]) (st' := [vI 15, vR 900006 0]) (h' := h) ?_ (Sm.ret ?_)), (u1.mono WRu_rd).tr u2, k2⟩
    · rw [t_Reader_readRule_0, ea, rd_Reader_tokens ob, ixi, et, et2, if_neg (show ¬ (15 : Int32) = 1 by decide), if_neg (show ¬ (15 : Int32) < 8 by decide), if_neg (show ¬ (15 : Int32) < 15 by decide), if_neg i0n1]
    · replace e1 : E L scr (d + 30) 77 [vR 900006 0, vI 15] h = some (none, h1) := e1
      rw [t_Reader_readRule_5, e1, clV_ok, if_neg (show ¬ (15 : Int32) = 1 by decide), if_neg (show ¬ (15 : Int32) = 2 by decide), if_neg (show ¬ (15 : Int32) = 3 by decide), if_neg (show ¬ (15 : Int32) = 4 by decide), if_neg (show ¬ (15 : Int32) = 5 by decide), if_neg (show ¬ (15 : Int32) = 6 by decide), if_neg (show ¬ (15 : Int32) = 7 by decide), if_neg (show ¬ (15 : Int32) = 8 by decide), if_neg (show ¬ (15 : Int32) = 9 by decide), if_neg (show ¬ (15 : Int32) = 10 by decide), if_neg (show ¬ (15 : Int32) = 11 by decide), if_neg (show ¬ (15 : Int32) = 12 by decide), if_neg (show ¬ (15 : Int32) = 13 by decide), if_neg (show ¬ (15 : Int32) = 14 by decide), if_pos rfl, e2, clV_ok]
  -- no such word
  have N : ∀ k, k ∈ [1, 8, 9, 10, 11, 12, 13, 14, 15] → k < 2000 → t' ≠ k → ¬ tkI t' = nI k := fun k _ hk ne z => ne ((tkI_eq tt hk).mp z)
  have out : tkI t' < 8 ∨ 15 < tkI t' := by
    rcases tk_small tt with ⟨-, z⟩ | ⟨-, z⟩ | ⟨z1, z2⟩
    · rw [z]; exact Or.inl (by decide)
    · rw [z]; exact Or.inl (by decide)
    · rw [z2]
      rcases Nat.lt_or_ge t' 8 with c | c
      · exact Or.inl ((nI_ltI (b := 8) (by omega) (by decide)).mpr c)
      · exact Or.inr ((nI_ltI (a := 15) (by decide) (by omega)).mpr (by omega))
  obtain ⟨h1, e1, u1, c1⟩ := c_takeX (L := L) (scr := scr) (d := d + 29) cp
  replace c1 : CP h1 ls (.inr g) := c1
  have n1 : ¬ tkI t' = 1 := N 1 (by decide) (by decide) x1
  have pe : pRule S ((t', g) :: r) = .inr g := by
    show (if t' = 8 then pPrice S r else if t' = 9 then pBusy S r else if t' = 10 then pDeposit S r else if t' = 11 then pLate S r else if t' = 1 then pOneN 15 100 S r else if t' = 12 then pRight S r else if t' = 13 then pOneN 16 999 S r else if t' = 14 then pHarm S r else if t' = 15 then pShutR S r else .inr g) = _
    rw [if_neg x8, if_neg x9, if_neg x10, if_neg x11, if_neg x1, if_neg x12, if_neg x13, if_neg x14, if_neg x15]
  rw [pe]
  refine ⟨h1, r_Reader_readRule (d := d + 30) _ _ _ (Sm.step (t' := 5) (lo' := [some (vR 900006 0), some (vR 900005 m), some (vI (tkI t')), some (vI 0)]) (st' := [vI (-3), vR 900006 0]) (h' := h) ?_ (Sm.ret ?_)), u1.mono WRu_rd, c1, (lw.rd u1).rf⟩
  · rw [t_Reader_readRule_0, ea, rd_Reader_tokens ob, ixi, et, if_neg n1]
    by_cases a : tkI t' < 8
    · rw [if_pos a, if_pos rfl]
    · rw [if_neg a, if_pos (out.resolve_left a), if_pos rfl]
  · rw [t_Reader_readRule_5, e1, clV_ok, if_neg n1]
    by_cases y2 : tkI t' = 2
    · rw [if_pos y2]
    · rw [if_neg y2]
      by_cases y3 : tkI t' = 3
      · rw [if_pos y3]
      · rw [if_neg y3]
        by_cases y4 : tkI t' = 4
        · rw [if_pos y4]
        · rw [if_neg y4]
          by_cases y5 : tkI t' = 5
          · rw [if_pos y5]
          · rw [if_neg y5]
            by_cases y6 : tkI t' = 6
            · rw [if_pos y6]
            · rw [if_neg y6]
              by_cases y7 : tkI t' = 7
              · rw [if_pos y7]
              · rw [if_neg y7]
                rw [if_neg (show ¬ tkI t' = 8 from N 8 (by decide) (by decide) x8), if_neg (show ¬ tkI t' = 9 from N 9 (by decide) (by decide) x9), if_neg (show ¬ tkI t' = 10 from N 10 (by decide) (by decide) x10), if_neg (show ¬ tkI t' = 11 from N 11 (by decide) (by decide) x11), if_neg (show ¬ tkI t' = 12 from N 12 (by decide) (by decide) x12), if_neg (show ¬ tkI t' = 13 from N 13 (by decide) (by decide) x13), if_neg (show ¬ tkI t' = 14 from N 14 (by decide) (by decide) x14), if_neg (show ¬ tkI t' = 15 from N 15 (by decide) (by decide) x15)]
end CRules4

/-! CALLS of the dock: paint, renew -/
theorem withR_id1 {h : MH} {s n : Nat} {r : RW} (hr : hI (withR h r) s n = hI h s n) : withR h ((s, n, hI h s n) :: r) = withR h r := by
  refine congrArg (fun z => (z, h.2)) ?_
  funext a b
  show (if a = s ∧ b = n then hI h s n else lkR h.1 r a b) = lkR h.1 r a b
  by_cases c : a = s ∧ b = n
  · rw [if_pos c, c.1, c.2]; exact hr.symm
  · rw [if_neg c]
theorem withR_sI0 {h : MH} {s n i : Nat} {v : Int32} : sI h s n i v = withR h [(s, n, up (hI h s n) i v)] := by
  have e : withR h [(s, n, hI h s n)] = h := withR_id1 rfl
  have := withR_set (h := h) (s := s) (n := n) (f := hI h s n) (r := []) (i := i) (v := v)
  rw [e] at this
  exact this
theorem and1 (x : Int32) : x &&& 1 = 0 ∨ x &&& 1 = 1 := by
  have h : (x.toBitVec &&& 1#32).toNat = x.toBitVec.toNat % 2 := by
    rw [BitVec.toNat_and]
    exact Nat.and_one_is_mod _
  have h2 : x.toBitVec.toNat % 2 < 2 := Nat.mod_lt _ (by decide)
  have h3 : (x &&& 1).toBitVec = x.toBitVec &&& 1#32 := rfl
  rcases Nat.lt_or_ge (x.toBitVec.toNat % 2) 1 with c | c
  · refine Or.inl (Int32.toBitVec_inj.mp (BitVec.eq_of_toNat_eq ?_))
    rw [h3, h]
    show _ = 0
    omega
  · refine Or.inr (Int32.toBitVec_inj.mp (BitVec.eq_of_toNat_eq ?_))
    rw [h3, h]
    show _ = 1
    omega
/-- the k-th bit of x -/
def bitB (x : Int32) (k : Int32) : Bool := decide ((x >>> (k &&& 31)) &&& 1 = 1)
theorem bitB_1 {x k : Int32} (h : bitB x k = true) : (x >>> (k &&& 31)) &&& 1 = 1 := of_decide_eq_true h
theorem bitB_0 {x k : Int32} (h : bitB x k = false) : (x >>> (k &&& 31)) &&& 1 = 0 := by
  rcases and1 (x >>> (k &&& 31)) with c | c
  · exact c
  · rw [show bitB x k = true from decide_eq_true c] at h; cases h
section Dock
variable {L : Nat} {scr : Nat → Int32} {d : Nat}
theorem c_M_has (x k : Int32) (h : MH) : E L scr (d + 1) 200 [vI x, vI k] h = some (some (vI (zb (bitB x k))), h) := by
  refine r_M_has _ _ _ (Sm.ret ?_)
  rw [t_M_has_0]
  cases e : bitB x k with
  | true => rw [if_pos (bitB_1 e), rtZ1]; rfl
  | false => rw [if_neg (by rw [bitB_0 e]; decide), rtZ0]; rfl
/-- the class's list of boats that dry -/
abbrev dryC (h : MH) (k : Nat) : RW := [(404000010, 0, dryL (hI h 400000020 0) (hI h 404000010 0) k), (406, 0, up (hI h 406 0) 0 (nI (dryN (hI h 400000020 0) k)))]
abbrev dryM (h : MH) (k : Nat) : RW := [(1378000020, 0, dryL (hI h 1374000020 0) (hI h 1378000020 0) k), (1380, 0, up (hI h 1380 0) 0 (nI (dryN (hI h 1374000020 0) k)))]
theorem c_listDry {h : MH} (hw : ∀ k, ∃ v, v ≤ 9 ∧ hI h 400000020 0 k = nI v) (h10 : dryN (hI h 400000020 0) 20 ≤ 10) : E L scr (d + 1) 34 [vR 900003 0] h = some (none, withR h (dryC h 20)) := by
  obtain ⟨w, ew⟩ : ∃ w, w = hI h 400000020 0 := ⟨_, rfl⟩
  have g0 : sI h 406 0 0 0 = withR h (dryC h 0) := by
    rw [withR_sI0]
    exact (withR_id1 (withR_miss (by decide))).symm
  refine r_Dock_listDry _ _ (Sm.step (t' := 1) (lo' := [some (vR 900003 0), some (vI 0)]) (st' := []) (h' := withR h (dryC h 0)) (by rw [t_Dock_listDry_0, g0]) ?_)
  have cw : ∀ k, hI (withR h (dryC h k)) 400000020 0 = hI h 400000020 0 := fun k => by rw [withR_miss (by decide), withR_miss (by decide)]; rfl
  have cn : ∀ k, hI (withR h (dryC h k)) 406 0 0 = nI (dryN (hI h 400000020 0) k) := fun k => by rw [withR_miss (by decide), withR_hit, up_s]
  refine Sm.find (lo := fun k => [some (vR 900003 0), some (vI (nI k))]) (hh := fun k => withR h (dryC h k)) (r := fun _ => (none, withR h (dryC h 20))) (fun k => decide (10 ≤ dryN (hI h 400000020 0) k)) 20 (fun k hk pk => ?_) (fun k hk pk _ => Sm.ret ?_) (fun _ => Sm.ret ?_)
  · have pk := of_decide_eq_false pk
    rw [t_Dock_listDry_1, if_neg (show ¬ (20 : Int32) ≤ nI k from nI_ge (b := 20) hk (by decide)), cn, if_neg (show ¬ (10 : Int32) ≤ nI (dryN (hI h 400000020 0) k) from nI_ge (b := 10) (by omega) (by decide)), rd_Dock_dryWeeks (oob_nI hk (by decide)), ix_nI (by omega), cw]
    obtain ⟨v, hv, ev⟩ := hw k
    by_cases c : hI h 400000020 0 k = 0
    · rw [if_pos (by rw [c]; decide)]
      have e1 : dryN (hI h 400000020 0) (k + 1) = dryN (hI h 400000020 0) k := if_pos c
      have e2 : dryL (hI h 400000020 0) (hI h 404000010 0) (k + 1) = dryL (hI h 400000020 0) (hI h 404000010 0) k := if_pos c
      rw [nI_1]
      show _ = some (Sum.inl (1, _, [], withR h [(_, 0, dryL (hI h 400000020 0) (hI h 404000010 0) (k + 1)), (_, 0, up (hI h 406 0) 0 (nI (dryN (hI h 400000020 0) (k + 1))))]))
      rw [e1, e2]
    · have v0 : v ≠ 0 := fun z => c (by rw [ev, z]; rfl)
      rw [if_neg (by rw [ev]; exact nI_ge (a := 0) (b := v) (by omega) (by omega)), wr_Dock_dry (oob_nI (by omega) (by decide)), ix_nI (by omega), withR_set, withR_miss (by decide), withR_hit, up_s, nI_1, nI_1]
      have e1 : dryN (hI h 400000020 0) (k + 1) = dryN (hI h 400000020 0) k + 1 := if_neg c
      have e2 : dryL (hI h 400000020 0) (hI h 404000010 0) (k + 1) = up (dryL (hI h 400000020 0) (hI h 404000010 0) k) (dryN (hI h 400000020 0) k) (nI k) := if_neg c
      show _ = some (Sum.inl (1, _, [], withR h [(_, 0, dryL (hI h 400000020 0) (hI h 404000010 0) (k + 1)), (_, 0, up (hI h 406 0) 0 (nI (dryN (hI h 400000020 0) (k + 1))))]))
      rw [e1, e2, withR_sI (by decide) withR_set, up_up]
  · have pk := of_decide_eq_true pk
    have e1 : dryN (hI h 400000020 0) 20 = dryN (hI h 400000020 0) k := by
      have := dryN_mono (hI h 400000020 0) (k := k) (n := 20) (by omega)
      omega
    rw [t_Dock_listDry_1, if_neg (show ¬ (20 : Int32) ≤ nI k from nI_ge (b := 20) hk (by decide)), cn, if_pos (show (10 : Int32) ≤ nI (dryN (hI h 400000020 0) k) from nI_le (a := 10) (by omega) (by omega))]
    show _ = some (Sum.inr (none, withR h [(_, 0, dryL (hI h 400000020 0) (hI h 404000010 0) 20), (_, 0, up (hI h 406 0) 0 (nI (dryN (hI h 400000020 0) 20)))]))
    rw [dry_eq (by omega) e1, e1]
  · rw [t_Dock_listDry_1, if_pos (show (20 : Int32) ≤ nI 20 by decide)]
theorem c_M_dries {h : MH} {n : Nat} (hn : n ≤ 20) (en : hI h 1335 0 0 = nI n) : E L scr (d + 1) 314 [vR 900012 0] h = some (none, withR h (dryM h n)) := by
  have g0 : sI h 1380 0 0 0 = withR h (dryM h 0) := by
    rw [withR_sI0]
    exact (withR_id1 (withR_miss (by decide))).symm
  refine r_M_dries _ _ (Sm.step (t' := 1) (lo' := [some (vR 900012 0), some (vI 0)]) (st' := []) (h' := withR h (dryM h 0)) (by rw [t_M_dries_0, g0]) ?_)
  have cw : ∀ k, hI (withR h (dryM h k)) 1374000020 0 = hI h 1374000020 0 := fun k => by rw [withR_miss (by decide), withR_miss (by decide)]; rfl
  have cb : ∀ k, hI (withR h (dryM h k)) 1335 0 = hI h 1335 0 := fun k => by rw [withR_miss (by decide), withR_miss (by decide)]; rfl
  have cn : ∀ k, hI (withR h (dryM h k)) 1380 0 0 = nI (dryN (hI h 1374000020 0) k) := fun k => by rw [withR_miss (by decide), withR_hit, up_s]
  refine Sm.for (lo := fun k => [some (vR 900012 0), some (vI (nI k))]) (hh := fun k => withR h (dryM h k)) n (fun k hk => ?_) (Sm.ret ?_)
  · rw [t_M_dries_1, cb, en, if_neg (nI_ge hk (by omega)), rd_M_weeks (oob_nI (by omega) (by decide)), ix_nI (by omega), cw]
    have hle := dryN_le (hI h 1374000020 0) k
    by_cases c : hI h 1374000020 0 k = 0
    · rw [if_pos c]
      have e1 : dryN (hI h 1374000020 0) (k + 1) = dryN (hI h 1374000020 0) k := if_pos c
      have e2 : dryL (hI h 1374000020 0) (hI h 1378000020 0) (k + 1) = dryL (hI h 1374000020 0) (hI h 1378000020 0) k := if_pos c
      rw [nI_1]
      show _ = some (Sum.inl (1, _, [], withR h [(_, 0, dryL (hI h 1374000020 0) (hI h 1378000020 0) (k + 1)), (_, 0, up (hI h 1380 0) 0 (nI (dryN (hI h 1374000020 0) (k + 1))))]))
      rw [e1, e2]
    · rw [if_neg c, cn, wr_M_dry (oob_nI (by omega) (by decide)), ix_nI (by omega), withR_set, withR_miss (by decide), withR_hit, up_s, nI_1, nI_1]
      have e1 : dryN (hI h 1374000020 0) (k + 1) = dryN (hI h 1374000020 0) k + 1 := if_neg c
      have e2 : dryL (hI h 1374000020 0) (hI h 1378000020 0) (k + 1) = up (dryL (hI h 1374000020 0) (hI h 1378000020 0) k) (dryN (hI h 1374000020 0) k) (nI k) := if_neg c
      show _ = some (Sum.inl (1, _, [], withR h [(_, 0, dryL (hI h 1374000020 0) (hI h 1378000020 0) (k + 1)), (_, 0, up (hI h 1380 0) 0 (nI (dryN (hI h 1374000020 0) (k + 1))))]))
      rw [e1, e2, withR_sI (by decide) withR_set, up_up]
  · rw [t_M_dries_1, cb, en, if_pos (nI_le (Nat.le_refl _) (by omega))]
theorem dryC_Scr {h : MH} {k : Nat} : Upd Scr h (withR h (dryC h k)) := withR_Upd (fun q hq => by
  simp only [List.mem_cons, List.not_mem_nil, or_false] at hq
  rcases hq with rfl | rfl <;> (dsimp only; decide))
theorem dryM_Scr {h : MH} {k : Nat} : Upd Scr h (withR h (dryM h k)) := withR_Upd (fun q hq => by
  simp only [List.mem_cons, List.not_mem_nil, or_false] at hq
  rcases hq with rfl | rfl <;> (dsimp only; decide))
abbrev WD : List (Nat × Nat) := [(400000020, 0), (401000020, 0), (1374000020, 0), (1375000020, 0)] ++ Scr
theorem call_paint (x y z : Int32) (h : MH) (q : RDry h) (qb : RBoat h) : Both L scr (d + 40) WD RDry 165 315 [vR 900011 0, vI x, vI y, vI z] [vR 900012 0, vI x, vI y, vI z] h := by
  obtain ⟨b1, nB, hnB, eb, mb, b2⟩ := qb
  obtain ⟨q1, q2, ⟨n, hn, bn, q3⟩, q4, q5⟩ := id q
  have en : n = nB := (nI_eq (by omega) (by omega)).mp (by rw [← bn, ← eb])
  subst en
  cases hx : ixB x n with
  | false =>
    refine both0 (vI 0) (r_P_paint _ _ _ _ _ (Sm.ret ?_)) (r_M_paint _ _ _ _ _ (Sm.ret ?_)) q
    · rw [t_P_paint_0, c_P_isBoat eb, clI_ok, hx, itF, rtZ0]
    · rw [t_M_paint_0, c_M_isBoat (by omega) mb, clI_ok, hx, itF, rtZ0]
  | true =>
    cases hy : inB y 0 9 with
    | false =>
      refine both0 (vI 0) (r_P_paint _ _ _ _ _ (Sm.ret ?_)) (r_M_paint _ _ _ _ _ (Sm.ret ?_)) q
      · rw [t_P_paint_0, c_P_isBoat eb, clI_ok, hx, itT, c_P_within, clI_ok, hy, itF, rtZ0]
      · rw [t_M_paint_0, c_M_isBoat (by omega) mb, clI_ok, hx, itT, c_M_isIn, clI_ok, hy, itF, rtZ0]
    | true =>
      cases hz : inB z 0 99 with
      | false =>
        refine both0 (vI 0) (r_P_paint _ _ _ _ _ (Sm.ret ?_)) (r_M_paint _ _ _ _ _ (Sm.ret ?_)) q
        · rw [t_P_paint_0, c_P_isBoat eb, clI_ok, hx, itT, c_P_within, clI_ok, hy, itT, c_P_within, clI_ok, hz, itF, rtZ0]
        · rw [t_M_paint_0, c_M_isBoat (by omega) mb, clI_ok, hx, itT, c_M_isIn, clI_ok, hy, itT, c_M_isIn, clI_ok, hz, itF, rtZ0]
      | true =>
        obtain ⟨i, hi, hi2, rfl⟩ := ixB_t hx
        obtain ⟨a, ha, rfl⟩ := inB_t (n := 9) rfl hy
        obtain ⟨b, hb, rfl⟩ := inB_t (n := 99) rfl hz
        have ob : ¬ oob (nI i) 20 := oob_nI (by omega) (by decide)
        have eL := c_listDry (L := L) (scr := scr) (d := d + 37) (h := h) (fun k => (q4 k).1) q5
        obtain ⟨w, ew⟩ : ∃ w, w = hI h 400000020 0 := ⟨_, rfl⟩
        obtain ⟨g, hg⟩ : ∃ g, g = withR h (dryC h 20) := ⟨_, rfl⟩
        have ug : Upd Scr h g := by rw [hg]; exact dryC_Scr
        have gn : hI g 406 0 0 = nI (dryN w 20) := by rw [hg, withR_miss (by decide), withR_hit, up_s, ew]
        rw [← hg] at eL
        have gw : hI g 400000020 0 = w := by rw [ug.2 _ _ (by decide), ew]
        have vI0 : nI a ≤ 0 ↔ a = 0 := by rw [show (0 : Int32) = nI 0 from rfl, nI_leI (by omega) (by decide)]; omega
        -- the answers
        by_cases full : a ≠ 0 ∧ w i = 0 ∧ dryN w 20 = 10
        · -- refused
          have eC : E L scr (d + 40) 165 [vR 900011 0, vI (nI i), vI (nI a), vI (nI b)] h = some (some (vI 0), g) := by
            have e1 : E L scr (d + 39) 33 [vR 900003 0, vI (nI i), vI (nI a), vI (nI b)] h = some (some (vI 0), g) := by
              refine r_Dock_setPaint _ _ _ _ _ (Sm.ret ?_)
              rw [t_Dock_setPaint_0, eL, clV_ok, if_neg (fun z => full.1 (vI0.mp z)), rd_Dock_dryWeeks ob, ix_nI hi2, gw, if_pos full.2.1, gn, full.2.2, if_neg (by decide), rtZ0]
            refine r_P_paint _ _ _ _ _ (Sm.ret ?_)
            rw [t_P_paint_0, c_P_isBoat eb, clI_ok, hx, itT, c_P_within, clI_ok, hy, itT, c_P_within, clI_ok, hz, itT, e1, clI_ok, rtZ0]
          have mg : hI g 1335 0 0 = nI n := by rw [ug.2 _ _ (by decide)]; exact mb
          have eD := c_M_dries (L := L) (scr := scr) (d := d + 38) hn mg
          have mw : hI g 1374000020 0 = w := by rw [ug.2 _ _ (by decide), ew]; exact Eq.symm q1
          have dz : dryN w 20 = dryN w n := dryN_zero hn (by rw [ew]; exact q3)
          refine ⟨vI 0, g, withR g (dryM g n), eC, r_M_paint _ _ _ _ _ (Sm.ret ?_), (ug.tr dryM_Scr).mono (fun q hq => List.mem_append_right _ hq), q.fr (ug.tr dryM_Scr) (by decide)⟩
          rw [t_M_paint_0, c_M_isBoat (by omega) mg, clI_ok, hx, itT, c_M_isIn, clI_ok, hy, itT, c_M_isIn, clI_ok, hz, itT, eD, clV_ok, if_neg (fun z => full.1 (vI0.mp z)), rd_M_weeks ob, ix_nI hi2, withR_miss (by decide), withR_miss (by decide)]
          rw [show hI (withR g []) 1374000020 0 i = 0 by show hI g 1374000020 0 i = 0; rw [mw]; exact full.2.1, if_pos rfl, withR_miss (by decide), withR_hit, up_s, mw, ← dz, full.2.2, if_pos (show nI 10 = 10 from rfl), rtZ0]
        · have eC : E L scr (d + 40) 165 [vR 900011 0, vI (nI i), vI (nI a), vI (nI b)] h = some (some (vI 1), sI (sI g 400000020 0 i (nI a)) 401000020 0 i (nI b)) := by
            have e1 : E L scr (d + 39) 33 [vR 900003 0, vI (nI i), vI (nI a), vI (nI b)] h = some (some (vI 1), sI (sI g 400000020 0 i (nI a)) 401000020 0 i (nI b)) := by
              refine r_Dock_setPaint _ _ _ _ _ (Sm.ret ?_)
              rw [t_Dock_setPaint_0, eL, clV_ok]
              by_cases c1 : a = 0
              · rw [if_pos (vI0.mpr c1), wr_Dock_dryWeeks ob, ix_nI hi2, wr_Dock_dryCoin ob, ix_nI hi2, rtZ1]
              · rw [if_neg (fun z => c1 (vI0.mp z)), rd_Dock_dryWeeks ob, ix_nI hi2, gw]
                by_cases c2 : w i = 0
                · have c3 : dryN w 20 ≠ 10 := fun z => full ⟨c1, c2, z⟩
                  have c4 : dryN w 20 < 10 := by
                    have : dryN w 20 ≤ 10 := by rw [ew]; exact q5
                    omega
                  rw [if_pos c2, gn, if_pos (show nI (dryN w 20) < 10 from nI_lt (b := 10) c4 (by decide)), wr_Dock_dryWeeks ob, ix_nI hi2, wr_Dock_dryCoin ob, ix_nI hi2, rtZ1]
                · rw [if_neg c2, wr_Dock_dryWeeks ob, ix_nI hi2, wr_Dock_dryCoin ob, ix_nI hi2, rtZ1]
            refine r_P_paint _ _ _ _ _ (Sm.ret ?_)
            rw [t_P_paint_0, c_P_isBoat eb, clI_ok, hx, itT, c_P_within, clI_ok, hy, itT, c_P_within, clI_ok, hz, itT, e1, clI_ok, rtZ1]
          obtain ⟨g2, hg2⟩ : ∃ g2, g2 = sI (sI g 400000020 0 i (nI a)) 401000020 0 i (nI b) := ⟨_, rfl⟩
          rw [← hg2] at eC
          have mg : hI g2 1335 0 0 = nI n := by rw [hg2, hI_rn (by decide), hI_rn (by decide), ug.2 _ _ (by decide)]; exact mb
          have mw : hI g2 1374000020 0 = w := by rw [hg2, hI_rn (by decide), hI_rn (by decide), ug.2 _ _ (by decide), ew]; exact Eq.symm q1
          have eD := c_M_dries (L := L) (scr := scr) (d := d + 38) hn mg
          obtain ⟨f, hf⟩ : ∃ f, f = withR g2 (dryM g2 n) := ⟨_, rfl⟩
          rw [← hf] at eD
          have uf : Upd Scr g2 f := by rw [hf]; exact dryM_Scr
          have dz : dryN w 20 = dryN w n := dryN_zero hn (by rw [ew]; exact q3)
          have fn : hI f 1380 0 0 = nI (dryN w n) := by rw [hf, withR_miss (by decide), withR_hit, up_s, mw]
          have fw : hI f 1374000020 0 = w := by rw [uf.2 _ _ (by decide), mw]
          have uw : Upd WD h g := ug.mono (fun q hq => List.mem_append_right _ hq)
          have uw2 : Upd WD h f := (by rw [hg2]; exact ((uw.sI (by decide)).sI (by decide)) : Upd WD h g2).tr (uf.mono (fun q hq => List.mem_append_right _ hq))
          have fr : ∀ s, (s, 0) ∉ Scr → s ≠ 400000020 → s ≠ 401000020 → hI f s 0 = hI h s 0 := fun s hs h1 h2 => by
            rw [uf.2 _ _ hs, hg2, hI_rn (fun z => h2 z.1), hI_rn (fun z => h1 z.1), ug.2 _ _ hs]
          refine ⟨vI 1, g2, sI (sI f 1374000020 0 i (nI a)) 1375000020 0 i (nI b), eC, r_M_paint _ _ _ _ _ (Sm.ret ?_), (uw2.sI (by decide)).sI (by decide), ?_⟩
          · rw [t_M_paint_0, c_M_isBoat (by omega) mg, clI_ok, hx, itT, c_M_isIn, clI_ok, hy, itT, c_M_isIn, clI_ok, hz, itT, eD, clV_ok]
            by_cases c1 : a = 0
            · rw [if_pos (vI0.mpr c1), wr_M_weeks ob, ix_nI hi2, wr_M_weekCoin ob, ix_nI hi2, rtZ1]
            · rw [if_neg (fun z => c1 (vI0.mp z)), rd_M_weeks ob, ix_nI hi2, fw]
              by_cases c2 : w i = 0
              · have c3 : dryN w n ≠ 10 := fun z => full ⟨c1, c2, by rw [dz]; exact z⟩
                have := dryN_le w n
                rw [if_pos c2, fn, if_neg (show ¬ nI (dryN w n) = 10 from fun z => c3 ((nI_eq (a := dryN w n) (b := 10) (by omega) (by decide)).mp z)), wr_M_weeks ob, ix_nI hi2, wr_M_weekCoin ob, ix_nI hi2, rtZ1]
              · rw [if_neg c2, wr_M_weeks ob, ix_nI hi2, wr_M_weekCoin ob, ix_nI hi2, rtZ1]
          · have r1 : hI f 400000020 0 = up w i (nI a) := by
              rw [uf.2 _ _ (by decide), hg2, hI_rn (by decide), hI_rs, gw]
            have r2 : hI f 401000020 0 = up (hI h 401000020 0) i (nI b) := by
              rw [uf.2 _ _ (by decide), hg2, hI_rs, hI_rn (by decide), ug.2 _ _ (by decide)]
            have r3 : hI f 1375000020 0 = hI h 1375000020 0 := fr _ (by decide) (by decide) (by decide)
            have r4 : hI f 200 0 = hI h 200 0 := fr _ (by decide) (by decide) (by decide)
            unfold RDry PDry
            simp only [hI_row, Nat.reduceEqDiff, false_and, and_false, and_true, true_and, if_true, if_false, reduceIte]
            rw [r1, r2, r3, r4, fw]
            refine ⟨rfl, by rw [q2], ⟨n, hn, bn, fun k hk => ?_⟩, fun k => ⟨?_, ?_⟩, ?_⟩
            · rw [up_n (by omega), ew]; exact q3 k hk
            · unfold up
              split
              · exact ⟨a, ha, rfl⟩
              · rw [ew]; exact (q4 k).1
            · unfold up
              split
              · exact ⟨b, hb, rfl⟩
              · exact (q4 k).2
            · have du := dryN_up (w := w) (i := i) (v := nI a) 20
              have w10 : dryN w 20 ≤ 10 := by rw [ew]; exact q5
              by_cases c1 : a = 0
              · rw [if_neg (show ¬ (i < 20 ∧ nI a ≠ 0) from fun z => z.2 (by rw [c1]; rfl))] at du
                omega
              · by_cases c2 : w i = 0
                · have : dryN w 20 ≠ 10 := fun z => full ⟨c1, c2, z⟩
                  have : (if i < 20 ∧ nI a ≠ 0 then 1 else 0) ≤ 1 := by split <;> omega
                  omega
                · rw [if_pos (show i < 20 ∧ w i ≠ 0 from ⟨by omega, c2⟩)] at du
                  have : (if i < 20 ∧ nI a ≠ 0 then 1 else 0) ≤ 1 := by split <;> omega
                  omega
end Dock

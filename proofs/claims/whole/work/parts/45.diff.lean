/-! CALL: differ -/
theorem cu_dec {dd sj vl md ms m1 m2 oa : Nat → Int32} {T n : Nat} (h : TellOk dd sj vl md ms m1 m2 oa T n) : ∀ {t i : Nat}, t ≤ T → ∃ a b, a ≤ 9 ∧ b ≤ 9 ∧ lastF 3 0 dd sj (sh m1) t i = nI a ∧ lastF 3 0 dd sj (sh m2) t i = nI b ∧ lastF 3 0 dd sj vl t i = nI (10 * a + b)
  | 0, _, _ => ⟨0, 0, by omega, by omega, rfl, rfl, rfl⟩
  | t + 1, i, ht => by
    unfold lastF
    by_cases c : dd t = 3 ∧ sj t = nI i
    · rw [if_pos c, if_pos c, if_pos c]
      obtain ⟨-, -, j, -, -, h3⟩ := h.1 t (by omega)
      rcases h3 with h3 | ⟨-, h4 | h4 | h4⟩
      · exact absurd (h3.1.symm.trans c.1) (by decide)
      · exact absurd (h4.1.symm.trans c.1) (by decide)
      · exact absurd (h4.1.symm.trans c.1) (by decide)
      · obtain ⟨-, a, b, ha, hb, e1, e2, e3⟩ := h4
        exact ⟨a, b, ha, hb, e1, e2, e3⟩
    · rw [if_neg c, if_neg c, if_neg c]
      exact cu_dec h (by omega)
theorem cu_iff {dd sj vl md ms m1 m2 oa : Nat → Int32} {T n : Nat} (h : TellOk dd sj vl md ms m1 m2 oa T n) {t u i : Nat} (ht : t ≤ T) (hu : u ≤ T) : decide (lastF 3 0 dd sj vl t i = lastF 3 0 dd sj vl u i) = (decide (lastF 3 0 dd sj (sh m1) u i = lastF 3 0 dd sj (sh m1) t i) && decide (lastF 3 0 dd sj (sh m2) u i = lastF 3 0 dd sj (sh m2) t i)) := by
  obtain ⟨a, b, ha, hb, e1, e2, e3⟩ := cu_dec h (t := t) (i := i) ht
  obtain ⟨a2, b2, ha2, hb2, f1, f2, f3⟩ := cu_dec h (t := u) (i := i) hu
  rw [e1, e2, e3, f1, f2, f3, ← Bool.decide_and]
  apply decide_eq_decide.mpr
  rw [nI_eq (by omega) (by omega), nI_eq (by omega) (by omega), nI_eq (by omega) (by omega)]
  omega
theorem vwx_o {h : MH} {o o2 : Nat} {B S C : Nat → Int32} {n a : Nat} (ho : o2 ≠ o) : hI (withR h (vwL h o B S C n)) a o2 = hI h a o2 := by
  unfold vwL
  rw [withR_miss (fun z => ho z.2), withR_miss (fun z => ho z.2), withR_miss (fun z => ho z.2), withR_miss (fun z => ho z.2)]
  rfl
/-- whether by the t-th telling and by the u-th the i-th hire is known alike -/
def alk (h : MH) (t u i : Nat) : Bool := (decide (i < cnS h t) == decide (i < cnS h u)) && (decide (bkS h t i = bkS h u i) && (decide (swS h t i = swS h u i) && decide (cuS h t i = cuS h u i)))
/-- five rows in one -/
def otR (r K B S C D : Nat → Int32) : Nat → Nat → Int32
  | 0 => r
  | k + 1 => up (up (up (up (up (otR r K B S C D k) (5 * k) (K k)) (5 * k + 1) (B k)) (5 * k + 2) (S k)) (5 * k + 3) (C k)) (5 * k + 4) (D k)
theorem otR_at {r K B S C D : Nat → Int32} : ∀ {n k : Nat}, k < n → otR r K B S C D n (5 * k) = K k ∧ otR r K B S C D n (5 * k + 1) = B k ∧ otR r K B S C D n (5 * k + 2) = S k ∧ otR r K B S C D n (5 * k + 3) = C k ∧ otR r K B S C D n (5 * k + 4) = D k
  | 0, _, h => absurd h (Nat.not_lt_zero _)
  | n + 1, k, h => by
    unfold otR
    rcases Nat.lt_succ_iff_lt_or_eq.mp h with q | q
    · have ih := otR_at (r := r) (K := K) (B := B) (S := S) (C := C) (D := D) q
      refine ⟨?_, ?_, ?_, ?_, ?_⟩
      · rw [up_n (by omega), up_n (by omega), up_n (by omega), up_n (by omega), up_n (by omega)]; exact ih.1
      · rw [up_n (by omega), up_n (by omega), up_n (by omega), up_n (by omega), up_n (by omega)]; exact ih.2.1
      · rw [up_n (by omega), up_n (by omega), up_n (by omega), up_n (by omega), up_n (by omega)]; exact ih.2.2.1
      · rw [up_n (by omega), up_n (by omega), up_n (by omega), up_n (by omega), up_n (by omega)]; exact ih.2.2.2.1
      · rw [up_n (by omega), up_n (by omega), up_n (by omega), up_n (by omega), up_n (by omega)]; exact ih.2.2.2.2
    · subst q
      refine ⟨?_, ?_, ?_, ?_, ?_⟩
      · rw [up_n (by omega), up_n (by omega), up_n (by omega), up_n (by omega), up_s]
      · rw [up_n (by omega), up_n (by omega), up_n (by omega), up_s]
      · rw [up_n (by omega), up_n (by omega), up_s]
      · rw [up_n (by omega), up_s]
      · rw [up_s]
section Diff
variable {L : Nat} {scr : Nat → Int32} {d : Nat}
theorem c_knowsAlike {g : MH} {c1 c2 i : Nat} {B S C B2 S2 C2 : Nat → Int32} (hi : i < 120) (hc1 : c1 ≤ 120) (hc2 : c2 ≤ 120) (e1 : hI g 1101 0 0 = nI c1) (e2 : hI g 1101 1 0 = nI c2) (f1 : hI g 1102000120 0 = B) (f2 : hI g 1102000120 1 = B2) (f3 : hI g 1103000120 0 = S) (f4 : hI g 1103000120 1 = S2) (f5 : hI g 1104000120 0 = C) (f6 : hI g 1104000120 1 = C2) : E L scr (d + 1) 115 [vR 900010 0, vR 900010 1, vI (nI i)] g = some (some (vI (zb (if i < c1 ∧ i < c2 then (decide (B i = B2 i) && (decide (S i = S2 i) && decide (C i = C2 i))) else decide (i < c1) == decide (i < c2)))), g) := by
  have ob : ¬ oob (nI i) 120 := oob_nI hi (by decide)
  have lt : ∀ {c : Nat}, c ≤ 120 → (nI c ≤ nI i ↔ ¬ i < c) := fun hc => by rw [nI_leI (by omega) (by omega)]; omega
  by_cases k1 : i < c1
  · by_cases k2 : i < c2
    · rw [if_pos ⟨k1, k2⟩]
      refine r_View_knowsAlike _ _ _ _ (Sm.step (t' := 4) (lo' := [some (vR 900010 0), some (vR 900010 1), some (vI (nI i)), some (vI 1), none]) (st' := [vI 1]) (h' := g) ?_ (Sm.ret ?_))
      · rw [t_View_knowsAlike_0, e1, e2, if_neg (fun z => (lt hc1).mp z k1), if_neg (fun z => (lt hc2).mp z k2)]
      · rw [t_View_knowsAlike_4, if_neg i0n1, if_neg i0n1, rd_View_backAt ob, rd_View_backAt ob, ix_nI (by omega), f1, f2]
        by_cases x1 : B i = B2 i
        · rw [if_pos x1, decide_eq_true x1, rd_View_swamped ob, rd_View_swamped ob, ix_nI (by omega), f3, f4]
          by_cases x2 : S i = S2 i
          · rw [if_pos x2, decide_eq_true x2, rd_View_cushioned ob, rd_View_cushioned ob, ix_nI (by omega), f5, f6]
            by_cases x3 : C i = C2 i
            · rw [if_pos x3, decide_eq_true x3]; rfl
            · rw [if_neg x3, decide_eq_false x3]; rfl
          · rw [if_neg x2, decide_eq_false x2]; rfl
        · rw [if_neg x1, decide_eq_false x1]; rfl
    · rw [if_neg (fun z => k2 z.2), decide_eq_true k1, decide_eq_false k2]
      refine r_View_knowsAlike _ _ _ _ (Sm.step (t' := 4) (lo' := [some (vR 900010 0), some (vR 900010 1), some (vI (nI i)), some (vI 1), none]) (st' := [vI 0]) (h' := g) ?_ (Sm.ret ?_))
      · rw [t_View_knowsAlike_0, e1, e2, if_neg (fun z => (lt hc1).mp z k1), if_pos ((lt hc2).mpr k2)]
      · rw [t_View_knowsAlike_4, if_neg i0n1, if_pos rfl, if_neg i0n1]; rfl
  · rw [if_neg (fun z => k1 z.1), decide_eq_false k1]
    by_cases k2 : i < c2
    · rw [decide_eq_true k2]
      refine r_View_knowsAlike _ _ _ _ (Sm.step (t' := 4) (lo' := [some (vR 900010 0), some (vR 900010 1), some (vI (nI i)), some (vI 0), none]) (st' := [vI 1]) (h' := g) ?_ (Sm.ret ?_))
      · rw [t_View_knowsAlike_0, e1, e2, if_pos ((lt hc1).mpr k1), if_neg (fun z => (lt hc2).mp z k2)]
      · rw [t_View_knowsAlike_4, if_pos rfl, if_neg (show ¬ (0 : Int32) = 1 by decide)]; rfl
    · rw [decide_eq_false k2]
      refine r_View_knowsAlike _ _ _ _ (Sm.step (t' := 4) (lo' := [some (vR 900010 0), some (vR 900010 1), some (vI (nI i)), some (vI 0), none]) (st' := [vI 0]) (h' := g) ?_ (Sm.ret ?_))
      · rw [t_View_knowsAlike_0, e1, e2, if_pos ((lt hc1).mpr k1), if_pos ((lt hc2).mpr k2)]
      · rw [t_View_knowsAlike_4, if_pos rfl, if_pos rfl]; rfl
theorem one_zb (b : Bool) : (if zb b = 0 then (0 : Int32) else 1) = zb b := by cases b <;> rfl
theorem c_M_keeps {n : Nat} (hn : n ≤ 120) {f : MH} (en : hI f 1336 0 0 = nI n) : E L scr (d + 2) 278 [vR 900012 0] f = some (none, withR f [(1355000600, 0, otR (hI f 1355000600 0) (fun k => zb (decide (hI f 1343000120 0 k ≤ hI f 1354 0 0))) (hI f 1350000120 0) (hI f 1351000120 0) (hI f 1352000120 0) (hI f 1353000120 0) n)]) := by
  obtain ⟨R, hR⟩ : ∃ R, R = otR (hI f 1355000600 0) (fun k => zb (decide (hI f 1343000120 0 k ≤ hI f 1354 0 0))) (hI f 1350000120 0) (hI f 1351000120 0) (hI f 1352000120 0) (hI f 1353000120 0) := ⟨_, rfl⟩
  rw [← hR]
  obtain ⟨g, hg⟩ : ∃ g : Nat → MH, g = fun k => withR f [(1355000600, 0, R k)] := ⟨_, rfl⟩
  have g0 : g 0 = f := by
    rw [hg]
    refine withR_id (fun q hq => ?_)
    rw [List.mem_singleton] at hq
    subst hq
    rw [hR]; rfl
  have gm : ∀ (r : Nat → Int32) a b, a ≠ 1355000600 → hI (withR f [(1355000600, 0, r)]) a b = hI f a b := fun r a b hne => withR_miss (fun z => hne z.1)
  refine r_M_keeps _ _ (Sm.step (t' := 1) (lo' := [some (vR 900012 0), some (vI 0)]) (st' := []) (h' := g 0) (by rw [t_M_keeps_0, g0]) ?_)
  have e2 : g n = withR f [(1355000600, 0, R n)] := by rw [hg]
  rw [← e2]
  refine Sm.for (lo := fun k => [some (vR 900012 0), some (vI (nI k))]) (hh := g) n (fun k hk => ?_) (Sm.ret ?_)
  · have ob : ¬ oob (nI k) 120 := oob_nI (by omega) (by decide)
    have o : ∀ j, j < 5 → ¬ oob (nI (5 * k + j)) 600 := fun j hj => oob_nI (by omega) (by decide)
    rw [hg]
    show dn L scr (E L scr (d + 1)) B_M_keeps C_M_keeps 1 [some (vR 900012 0), some (vI (nI k))] [] (withR f [(1355000600, 0, R k)]) = some (Sum.inl (1, [some (vR 900012 0), some (vI (nI (k + 1)))], [], withR f [(1355000600, 0, R (k + 1))]))
    have eR : R (k + 1) = up (up (up (up (up (R k) (5 * k) (zb (decide (hI f 1343000120 0 k ≤ hI f 1354 0 0)))) (5 * k + 1) (hI f 1350000120 0 k)) (5 * k + 2) (hI f 1351000120 0 k)) (5 * k + 3) (hI f 1352000120 0 k)) (5 * k + 4) (hI f 1353000120 0 k) := by rw [hR]; rfl
    rw [t_M_keeps_1, gm _ 1336 0 (by decide), en, if_neg (nI_ge hk (by omega)), c_M_isKnown (by omega), clI_ok, c_M_one, clI_ok, one_zb, gm _ 1343000120 0 (by decide), gm _ 1354 0 (by decide), show (5 : Int32) = nI 5 from rfl, nI_mul, nI_1, show (2 : Int32) = nI 2 from rfl, show (3 : Int32) = nI 3 from rfl, show (4 : Int32) = nI 4 from rfl, nI_add, nI_add, nI_add, nI_1]
    rw [wr_M_other (show ¬ oob (nI (5 * k)) 600 from o 0 (by omega)), ix_nI (by omega), withR_set]
    rw [rd_M_backAt ob, ix_nI (by omega), gm _ 1350000120 0 (by decide), wr_M_other (o 1 (by omega)), ix_nI (by omega), withR_set]
    rw [rd_M_swamped ob, ix_nI (by omega), gm _ 1351000120 0 (by decide), wr_M_other (o 2 (by omega)), ix_nI (by omega), withR_set]
    rw [rd_M_taken ob, ix_nI (by omega), gm _ 1352000120 0 (by decide), wr_M_other (o 3 (by omega)), ix_nI (by omega), withR_set]
    rw [rd_M_brought ob, ix_nI (by omega), gm _ 1353000120 0 (by decide), wr_M_other (o 4 (by omega)), ix_nI (by omega), withR_set, eR]
  · rw [hg]
    show dn L scr (E L scr (d + 1)) B_M_keeps C_M_keeps 1 [some (vR 900012 0), some (vI (nI n))] [] (withR f [(1355000600, 0, R n)]) = some (Sum.inr (none, withR f [(1355000600, 0, R n)]))
    rw [t_M_keeps_1, gm _ 1336 0 (by decide), en, if_pos (nI_le (Nat.le_refl _) (by omega))]
theorem zb_eq {a b : Bool} : zb a = zb b ↔ a = b := by cases a <;> cases b <;> decide
theorem call_differ (x y z : Int32) (h : MH) (q : RHire h) : Both L scr (d + 40) Scr (fun _ => True) 144 279 [vR 900011 0, vI x, vI y, vI z] [vR 900012 0, vI x, vI y, vI z] h := by
  obtain ⟨q1, q2, q3, q4, q5, n, T, nb, hn, hT, hnb, ch, mh, cl, ml, bn, tk, hk, hsep⟩ := id q
  cases hx : inB x 0 (nI T) with
  | false =>
    refine both0 (vI (-1)) (r_P_differ _ _ _ _ _ (Sm.ret ?_)) (r_M_differ _ _ _ _ _ (Sm.ret ?_)) trivial
    · rw [t_P_differ_0, c_P_isTelling cl, clI_ok, hx, itF]
    · rw [t_M_differ_0, c_M_isTelling ml, clI_ok, hx, itF]
  | true =>
    cases hy : inB y 0 (nI T) with
    | false =>
      refine both0 (vI (-1)) (r_P_differ _ _ _ _ _ (Sm.ret ?_)) (r_M_differ _ _ _ _ _ (Sm.ret ?_)) trivial
      · rw [t_P_differ_0, c_P_isTelling cl, clI_ok, hx, itT, c_P_isTelling cl, clI_ok, hy, itF]
      · rw [t_M_differ_0, c_M_isTelling ml, clI_ok, hx, itT, c_M_isTelling ml, clI_ok, hy, itF]
    | true =>
      by_cases hz : -1 ≤ z
      · obtain ⟨t, ht, rfl⟩ := inB_T (by omega) hx
        obtain ⟨u, hu, rfl⟩ := inB_T (by omega) hy
        -- the class's two views
        obtain ⟨hm1, B1, S1, C1, eS1, fS1⟩ := see_g (L := L) (scr := scr) (d := d + 37) q 0 hT cl ht hn ch
        obtain ⟨g1, hg1⟩ : ∃ g1, g1 = withR h (vwL h 0 B1 S1 C1 (cnS h t)) := ⟨_, rfl⟩
        have u1 : Upd Scr h g1 := by rw [hg1]; exact vwx_Scr
        obtain ⟨hm2, B2, S2, C2, eS2, fS2⟩ := see_g (L := L) (scr := scr) (d := d + 37) (q.fr u1 ScrH) 1 hT (by rw [u1.2 _ _ (by decide)]; exact cl) hu hn (by rw [u1.2 _ _ (by decide)]; exact ch)
        have cn2 : cnS g1 u = cnS h u := by show cntW (hI g1 211000400 0) u = cntW (hI h 211000400 0) u; rw [u1.2 _ _ (by decide)]
        obtain ⟨g2, hg2⟩ : ∃ g2, g2 = withR g1 (vwL g1 1 B2 S2 C2 (cnS g1 u)) := ⟨_, rfl⟩
        have u2 : Upd Scr h g2 := u1.tr (by rw [hg2]; exact vwx_Scr1)
        rw [← hg1] at eS1
        rw [← hg2] at eS2
        have o1 : ∀ a, hI g2 a 0 = hI g1 a 0 := fun a => by rw [hg2]; exact vwx_o (by decide)
        have fB1 : hI g2 1102000120 0 = B1 := by rw [o1, hg1]; exact vwx_B
        have fS1' : hI g2 1103000120 0 = S1 := by rw [o1, hg1]; exact vwx_S
        have fC1 : hI g2 1104000120 0 = C1 := by rw [o1, hg1]; exact vwx_C
        have fn1 : hI g2 1101 0 0 = nI (cnS h t) := by rw [o1, hg1]; exact vwx_n
        have fB2 : hI g2 1102000120 1 = B2 := by rw [hg2]; exact vwx_B
        have fS2' : hI g2 1103000120 1 = S2 := by rw [hg2]; exact vwx_S
        have fC2 : hI g2 1104000120 1 = C2 := by rw [hg2]; exact vwx_C
        have fn2 : hI g2 1101 1 0 = nI (cnS h u) := by rw [hg2, ← cn2]; exact vwx_n
        have gb2 : ∀ i, i < cnS h u → B2 i = bkS h u i ∧ S2 i = swS h u i ∧ C2 i = cuS h u i := fun i hi => by
          have := fS2 i (by rw [cn2]; exact hi)
          rw [this.1, this.2.1, this.2.2]
          show lastF 1 (-1) (hI g1 211000400 0) (hI g1 212000400 0) (hI g1 213000400 0) u i = _ ∧ lastF 2 0 (hI g1 211000400 0) (hI g1 212000400 0) (hI g1 213000400 0) u i = _ ∧ lastF 3 0 (hI g1 211000400 0) (hI g1 212000400 0) (hI g1 213000400 0) u i = _
          rw [u1.2 _ _ (by decide), u1.2 _ _ (by decide), u1.2 _ _ (by decide)]
          exact ⟨rfl, rfl, rfl⟩
        have new : ∀ (v : Nat), v ≤ T → ∀ i, i < n → ¬ i < cnS h v → bkS h v i = -1 ∧ swS h v i = 0 ∧ cuS h v i = 0 := fun v hv i hi hc => ⟨lastF_new tk.bk (by decide) hv (by omega) (by show cntW (hI h 211000400 0) v ≤ i; exact Nat.le_of_not_lt hc), lastF_new tk.bk (by decide) hv (by omega) (by show cntW (hI h 211000400 0) v ≤ i; exact Nat.le_of_not_lt hc), lastF_new tk.bk (by decide) hv (by omega) (by show cntW (hI h 211000400 0) v ≤ i; exact Nat.le_of_not_lt hc)⟩
        have eA : ∀ i, i < n → ∀ d, E L scr (d + 1) 115 [vR 900010 0, vR 900010 1, vI (nI i)] g2 = some (some (vI (zb (alk h t u i))), g2) := fun i hi d => by
          have hm2' : cnS h u ≤ n := by rw [← cn2]; exact hm2
          rw [c_knowsAlike (by omega) (by omega) (by omega) fn1 fn2 fB1 fB2 fS1' fS2' fC1 fC2]
          have : (if i < cnS h t ∧ i < cnS h u then (decide (B1 i = B2 i) && (decide (S1 i = S2 i) && decide (C1 i = C2 i))) else decide (i < cnS h t) == decide (i < cnS h u)) = alk h t u i := by
            unfold alk
            by_cases k1 : i < cnS h t
            · by_cases k2 : i < cnS h u
              · rw [if_pos ⟨k1, k2⟩, (fS1 i k1).1, (fS1 i k1).2.1, (fS1 i k1).2.2, (gb2 i k2).1, (gb2 i k2).2.1, (gb2 i k2).2.2, decide_eq_true k1, decide_eq_true k2]; rfl
              · rw [if_neg (fun z => k2 z.2), decide_eq_true k1, decide_eq_false k2]; rfl
            · by_cases k2 : i < cnS h u
              · rw [if_neg (fun z => k1 z.1), decide_eq_false k1, decide_eq_true k2]; rfl
              · have n1 := new t ht i hi k1
                have n2 := new u hu i hi k2
                rw [if_neg (fun z => k1 z.1), decide_eq_false k1, decide_eq_false k2, n1.1, n1.2.1, n1.2.2, n2.1, n2.2.1, n2.2.2]; rfl
          rw [this]
        obtain ⟨F, hF⟩ : ∃ F, F = adF (fun i => !alk h t u i) (fun _ => 1) := ⟨_, rfl⟩
        obtain ⟨p, hp⟩ : ∃ p : Nat → Bool, p = fun i => !alk h t u i && decide (fold F 0 i = z) := ⟨_, rfl⟩
        have hp0 : ∀ i, p i = (!alk h t u i && decide (fold F 0 i = z)) := fun i => by rw [hp]
        have Ft : ∀ k, alk h t u k = true → fold F 0 (k + 1) = fold F 0 k := fun k e => by
          show F k (fold F 0 k) = _
          rw [hF]
          exact adF_f (by show (!alk h t u k) = false; rw [e]; rfl)
        have Ff : ∀ k, alk h t u k = false → fold F 0 (k + 1) = fold F 0 k + 1 := fun k e => by
          show F k (fold F 0 k) = _
          rw [hF]
          exact adF_t (by show (!alk h t u k) = true; rw [e]; rfl)
        obtain ⟨ans, hans⟩ : ∃ ans : Option Nat → Int32, ans = fun o => match o with | some i => nI i | none => if z = -1 then fold F 0 n else -1 := ⟨_, rfl⟩
        have as : ∀ i, ans (some i) = nI i := fun i => by rw [hans]
        have an : ans none = if z = -1 then fold F 0 n else -1 := by rw [hans]
        have gh2 : hI g2 202 0 0 = nI n := by rw [u2.2 _ _ (by decide)]; exact ch
        have eC : E L scr (d + 40) 144 [vR 900011 0, vI (nI t), vI (nI u), vI z] h = some (some (vI (ans (ffst p n))), g2) := by
          refine r_P_differ _ _ _ _ _ (Sm.step (t' := 3) (lo' := [some (vR 900011 0), some (vI (nI t)), some (vI (nI u)), some (vI z), some (vI 0), some (vI 0)]) (st' := []) (h' := g2) ?_ ?_)
          · rw [t_P_differ_0, c_P_isTelling cl, clI_ok, hx, itT, c_P_isTelling cl, clI_ok, hy, itT, if_pos hz, eS1, clV_ok, eS2, clV_ok]
          refine Sm.find (lo := fun k => [some (vR 900011 0), some (vI (nI t)), some (vI (nI u)), some (vI z), some (vI (fold F 0 k)), some (vI (nI k))]) (hh := fun _ => g2) (r := fun o => (some (vI (ans o)), g2)) p n (fun k hk pk => ?_) (fun k hk pk _ => Sm.ret ?_) (fun _ => Sm.ret ?_)
          · rw [hp0] at pk
            rw [t_P_differ_3, gh2, if_neg (nI_ge hk (by omega)), eA k hk, clI_ok]
            cases ea : alk h t u k with
            | true => rw [itT, Ft k ea, nI_1]
            | false =>
              rw [ea, Bool.not_false, Bool.true_and] at pk
              rw [itF, if_neg (of_decide_eq_false pk), Ff k ea, nI_1]
          · rw [hp0, Bool.and_eq_true] at pk
            have ea : alk h t u k = false := by have := pk.1; cases e : alk h t u k with
              | true => rw [e] at this; cases this
              | false => rfl
            rw [t_P_differ_3, gh2, if_neg (nI_ge hk (by omega)), eA k hk, clI_ok, ea, itF, if_pos (of_decide_eq_true pk.2), as]
          · rw [t_P_differ_3, gh2, if_pos (nI_le (Nat.le_refl _) (by omega)), an]
            by_cases c : z = -1
            · rw [if_pos c, if_pos c]
            · rw [if_neg c, if_neg c]
        -- the reference's two readings
        obtain ⟨V1, V2, V3, V4, eK2, fK2⟩ := kn_g (L := L) (scr := scr) (d := d + 38) q hT cl hu hn ch (g := g2) (fun r hr => u2.2 _ _ (ScrH r hr))
        obtain ⟨f1, hf1⟩ : ∃ f1, f1 = withR g2 (knL g2 V1 V2 V3 V4 (nI u)) := ⟨_, rfl⟩
        rw [← hf1] at eK2
        have v1 : Upd Scr h f1 := u2.tr (by rw [hf1]; exact kn_Scr)
        have mh1 : hI f1 1336 0 0 = nI n := by rw [v1.2 _ _ (by decide)]; exact mh
        have eKe := c_M_keeps (L := L) (scr := scr) (d := d + 37) hn mh1
        have g5 : hI f1 1350000120 0 = V1 := by rw [hf1]; exact kn_B
        have g6 : hI f1 1351000120 0 = V2 := by rw [hf1]; exact kn_S
        have g7 : hI f1 1352000120 0 = V3 := by rw [hf1]; exact kn_C
        have g8 : hI f1 1353000120 0 = V4 := by rw [hf1]; exact kn_D
        have g9 : hI f1 1354 0 0 = nI u := by rw [hf1]; exact kn_t
        have tb1 : hI f1 1343000120 0 = hI h 207000120 0 := by rw [v1.2 _ _ (by decide)]; exact Eq.symm q5
        rw [g5, g6, g7, g8, g9, tb1] at eKe
        obtain ⟨R, hR⟩ : ∃ R, R = otR (hI f1 1355000600 0) (fun k => zb (decide (hI h 207000120 0 k ≤ nI u))) V1 V2 V3 V4 n := ⟨_, rfl⟩
        rw [← hR] at eKe
        obtain ⟨f2, hf2⟩ : ∃ f2, f2 = withR f1 [(1355000600, 0, R)] := ⟨_, rfl⟩
        rw [← hf2] at eKe
        have v2 : Upd Scr h f2 := v1.tr (by
          rw [hf2]
          exact withR_Upd (fun q hq => by
            rw [List.mem_singleton] at hq
            subst hq
            dsimp only
            decide))
        obtain ⟨W1, W2, W3, W4, eK1, fK1⟩ := kn_g (L := L) (scr := scr) (d := d + 38) q hT cl ht hn ch (g := f2) (fun r hr => v2.2 _ _ (ScrH r hr))
        obtain ⟨f3, hf3⟩ : ∃ f3, f3 = withR f2 (knL f2 W1 W2 W3 W4 (nI t)) := ⟨_, rfl⟩
        rw [← hf3] at eK1
        have v3 : Upd Scr h f3 := v2.tr (by rw [hf3]; exact kn_Scr)
        have w5 : hI f3 1350000120 0 = W1 := by rw [hf3]; exact kn_B
        have w6 : hI f3 1351000120 0 = W2 := by rw [hf3]; exact kn_S
        have w7 : hI f3 1352000120 0 = W3 := by rw [hf3]; exact kn_C
        have w8 : hI f3 1353000120 0 = W4 := by rw [hf3]; exact kn_D
        have w9 : hI f3 1354 0 0 = nI t := by rw [hf3]; exact kn_t
        have tb3 : hI f3 1343000120 0 = hI h 207000120 0 := by rw [v3.2 _ _ (by decide)]; exact Eq.symm q5
        have mh3 : hI f3 1336 0 0 = nI n := by rw [v3.2 _ _ (by decide)]; exact mh
        have wo : hI f3 1355000600 0 = R := by
          rw [hf3, kn_miss (by decide) (by decide) (by decide) (by decide) (by decide), hf2]
          exact withR_hit
        have ml2 : hI g2 1337 0 0 = nI T := by rw [u2.2 _ _ (by decide)]; exact ml
        -- one hire on the reference's side
        have iter : ∀ (k : Nat) (z6 : Option MV) (cnt : Int32) (r : RT), k < n → Sm L scr (d + 39) B_M_differ C_M_differ 7 [some (vR 900012 0), some (vI (nI t)), some (vI (nI u)), some (vI z), some (vI cnt), some (vI (nI k)), z6] [vI (zb (alk h t u k))] f3 r → Sm L scr (d + 39) B_M_differ C_M_differ 3 [some (vR 900012 0), some (vI (nI t)), some (vI (nI u)), some (vI z), some (vI cnt), some (vI (nI k)), z6] [] f3 r := by
          intro k z6 cnt r hk1 kk
          have ob : ¬ oob (nI k) 120 := oob_nI (by omega) (by decide)
          have oj : ∀ j, j < 5 → ¬ oob (nI (5 * k + j)) 600 := fun j hj => oob_nI (by omega) (by decide)
          obtain ⟨ra, rb, rc, rd, re⟩ := otR_at (r := hI f1 1355000600 0) (K := fun k => zb (decide (hI h 207000120 0 k ≤ nI u))) (B := V1) (S := V2) (C := V3) (D := V4) hk1
          rw [← hR] at ra rb rc rd re
          have td1 := told_dec hT ht hk hk1
          have td2 := told_dec hT hu hk hk1
          refine Sm.step (t' := 5) (lo' := [some (vR 900012 0), some (vI (nI t)), some (vI (nI u)), some (vI z), some (vI cnt), some (vI (nI k)), z6]) (st' := [vI (zb (decide (k < cnS h u)))]) (h' := f3) ?_ (Sm.step (t' := 7) (lo' := [some (vR 900012 0), some (vI (nI t)), some (vI (nI u)), some (vI z), some (vI cnt), some (vI (nI k)), z6]) (st' := [vI (zb (alk h t u k))]) (h' := f3) ?_ kk)
          · rw [t_M_differ_3, mh3, if_neg (nI_ge hk1 (by omega)), show (5 : Int32) = nI 5 from rfl, nI_mul, rd_M_other (show ¬ oob (nI (5 * k)) 600 from oj 0 (by omega)), ix_nI (by omega), wo, ra]
            show (if zb (decide (hI h 207000120 0 k ≤ nI u)) = 1 then _ else _) = _
            rw [td2]
            cases decide (k < cntW (hI h 211000400 0) u) with
            | true => exact if_pos rfl
            | false => exact if_neg (by decide)
          · rw [t_M_differ_5, c_M_isKnown (by omega), clI_ok, w9, tb3, td1]
            have hal : alk h t u k = ((decide (k < cnS h u) == decide (k < cnS h t)) && (decide (bkS h u k = bkS h t k) && (decide (swS h u k = swS h t k) && (decide (tkS h u k = tkS h t k) && decide (brS h u k = brS h t k))))) := by
              unfold alk
              rw [show decide (cuS h t k = cuS h u k) = (decide (tkS h u k = tkS h t k) && decide (brS h u k = brS h t k)) from cu_iff tk ht hu, Bool.beq_comm, show decide (bkS h t k = bkS h u k) = decide (bkS h u k = bkS h t k) from decide_eq_decide.mpr eq_comm, show decide (swS h t k = swS h u k) = decide (swS h u k = swS h t k) from decide_eq_decide.mpr eq_comm]
            rw [hal]
            by_cases x0 : decide (k < cnS h u) = decide (k < cnS h t)
            · rw [if_pos (by rw [zb_eq]; exact x0), x0, show (5 : Int32) = nI 5 from rfl, nI_mul, nI_1, show (2 : Int32) = nI 2 from rfl, show (3 : Int32) = nI 3 from rfl, show (4 : Int32) = nI 4 from rfl, nI_add, nI_add, nI_add, rd_M_other (oj 1 (by omega)), ix_nI (by omega), wo, rb, rd_M_backAt ob, ix_nI (by omega), w5, (fK2 k hk1).1, (fK1 k hk1).1]
              have bt : (decide (k < cnS h t) == decide (k < cnS h t)) = true := by cases decide (k < cnS h t) <;> rfl
              rw [bt]
              by_cases x1 : bkS h u k = bkS h t k
              · rw [if_pos x1, decide_eq_true x1, rd_M_other (oj 2 (by omega)), ix_nI (by omega), wo, rc, rd_M_swamped ob, ix_nI (by omega), w6, (fK2 k hk1).2.1, (fK1 k hk1).2.1]
                by_cases x2 : swS h u k = swS h t k
                · rw [if_pos x2, decide_eq_true x2, rd_M_other (oj 3 (by omega)), ix_nI (by omega), wo, rd, rd_M_taken ob, ix_nI (by omega), w7, (fK2 k hk1).2.2.1, (fK1 k hk1).2.2.1]
                  by_cases x3 : tkS h u k = tkS h t k
                  · rw [if_pos x3, decide_eq_true x3, rd_M_other (oj 4 (by omega)), ix_nI (by omega), wo, re, rd_M_brought ob, ix_nI (by omega), w8, (fK2 k hk1).2.2.2, (fK1 k hk1).2.2.2]
                    by_cases x4 : brS h u k = brS h t k
                    · rw [if_pos x4, decide_eq_true x4]; rfl
                    · rw [if_neg x4, decide_eq_false x4]; rfl
                  · rw [if_neg x3, decide_eq_false x3]; rfl
                · rw [if_neg x2, decide_eq_false x2]; rfl
              · rw [if_neg x1, decide_eq_false x1]; rfl
            · rw [if_neg (fun z => x0 (zb_eq.mp z))]
              have bf : (decide (k < cnS h u) == decide (k < cnS h t)) = false := by
                cases e1 : decide (k < cnS h u) <;> cases e2 : decide (k < cnS h t)
                · exact absurd (e1.trans e2.symm) x0
                · rfl
                · rfl
                · exact absurd (e1.trans e2.symm) x0
              rw [bf]; rfl
        have eM : E L scr (d + 40) 279 [vR 900012 0, vI (nI t), vI (nI u), vI z] g2 = some (some (vI (ans (ffst p n))), f3) := by
          refine r_M_differ _ _ _ _ _ (Sm.step (t' := 3) (lo' := [some (vR 900012 0), some (vI (nI t)), some (vI (nI u)), some (vI z), some (vI 0), some (vI 0), none]) (st' := []) (h' := f3) ?_ ?_)
          · rw [t_M_differ_0, c_M_isTelling ml2, clI_ok, hx, itT, c_M_isTelling ml2, clI_ok, hy, itT, if_pos hz, eK2, clV_ok, eKe, clV_ok, eK1, clV_ok]
          obtain ⟨zz, hzz⟩ : ∃ zz : Nat → Option MV, zz = fun k => match k with | 0 => none | j + 1 => some (vI (zb (alk h t u j))) := ⟨_, rfl⟩
          have zs : ∀ k, zz (k + 1) = some (vI (zb (alk h t u k))) := fun k => by rw [hzz]
          have z0 : zz 0 = none := by rw [hzz]
          rw [← z0]
          have stepK : ∀ (r : RT) (k : Nat), k < n → p k = false → Sm L scr (d + 39) B_M_differ C_M_differ 3 [some (vR 900012 0), some (vI (nI t)), some (vI (nI u)), some (vI z), some (vI (fold F 0 (k + 1))), some (vI (nI (k + 1))), zz (k + 1)] [] f3 r → Sm L scr (d + 39) B_M_differ C_M_differ 3 [some (vR 900012 0), some (vI (nI t)), some (vI (nI u)), some (vI z), some (vI (fold F 0 k)), some (vI (nI k)), zz k] [] f3 r := by
            intro r k hk1 pk kk
            refine iter k _ _ r hk1 (Sm.step (t' := 3) (lo' := [some (vR 900012 0), some (vI (nI t)), some (vI (nI u)), some (vI z), some (vI (fold F 0 (k + 1))), some (vI (nI (k + 1))), zz (k + 1)]) (st' := []) (h' := f3) ?_ kk)
            rw [hp0] at pk
            rw [t_M_differ_7, zs]
            cases ea : alk h t u k with
            | true => rw [itT, Ft k ea, nI_1]
            | false =>
              rw [ea, Bool.not_false, Bool.true_and] at pk
              rw [itF, if_neg (of_decide_eq_false pk), Ff k ea, nI_1]
          cases hfi : ffst p n with
          | none =>
            refine Sm.iter (lo := fun k => [some (vR 900012 0), some (vI (nI t)), some (vI (nI u)), some (vI z), some (vI (fold F 0 k)), some (vI (nI k)), zz k]) (hh := fun _ => f3) n (fun k hk1 kk => stepK _ k hk1 (ffst_none hfi k hk1) kk) (Sm.ret ?_)
            rw [t_M_differ_3, mh3, if_pos (nI_le (Nat.le_refl _) (by omega)), an]
            by_cases c : z = -1
            · rw [if_pos c, if_pos c]
            · rw [if_neg c, if_neg c]
          | some j =>
            obtain ⟨j1, j2, j3⟩ := ffst_some hfi
            refine Sm.iter (lo := fun k => [some (vR 900012 0), some (vI (nI t)), some (vI (nI u)), some (vI z), some (vI (fold F 0 k)), some (vI (nI k)), zz k]) (hh := fun _ => f3) j (fun k hk1 kk => stepK _ k (by omega) (j3 k hk1) kk) (iter j _ _ _ j1 (Sm.ret ?_))
            rw [hp0, Bool.and_eq_true] at j2
            have ea : alk h t u j = false := by have := j2.1; cases e : alk h t u j with
              | true => rw [e] at this; cases this
              | false => rfl
            rw [t_M_differ_7, ea, itF, if_pos (of_decide_eq_true j2.2), as]
        exact ⟨_, g2, f3, eC, eM, v3, trivial⟩
      · refine both0 (vI (-1)) (r_P_differ _ _ _ _ _ (Sm.ret ?_)) (r_M_differ _ _ _ _ _ (Sm.ret ?_)) trivial
        · rw [t_P_differ_0, c_P_isTelling cl, clI_ok, hx, itT, c_P_isTelling cl, clI_ok, hy, itT, if_neg hz]
        · rw [t_M_differ_0, c_M_isTelling ml, clI_ok, hx, itT, c_M_isTelling ml, clI_ok, hy, itT, if_neg hz]
end Diff

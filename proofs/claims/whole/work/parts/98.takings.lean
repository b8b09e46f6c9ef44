/-! CALLS: takings, cost -/
/-- a sum of those with p -/
def sumI (p : Nat → Bool) (v : Nat → Int32) : Nat → Int32
  | 0 => 0
  | k + 1 => if p k = true then sumI p v k + v k else sumI p v k
theorem sumI_t {p : Nat → Bool} {v : Nat → Int32} {k : Nat} (h : p k = true) : sumI p v (k + 1) = sumI p v k + v k := if_pos h
theorem sumI_f {p : Nat → Bool} {v : Nat → Int32} {k : Nat} (h : p k = false) : sumI p v (k + 1) = sumI p v k := if_neg (by rw [h]; decide)
theorem sumI_trunc {p : Nat → Bool} {v : Nat → Int32} {m : Nat} : ∀ {n}, m ≤ n → (∀ j, m ≤ j → j < n → p j = false) → sumI p v n = sumI p v m
  | 0, h, _ => by have : m = 0 := by omega
                  rw [this]
  | n + 1, h, h2 => by
    rcases Nat.lt_or_ge n m with c | c
    · have e : m = n + 1 := by omega
      rw [e]
    · rw [sumI_f (h2 n c (Nat.lt_succ_self n)), sumI_trunc c (fun j a b => h2 j a (by omega))]
section Takings
variable {L : Nat} {scr : Nat → Int32} {d : Nat}
theorem c_isBackOn {H : HN} {m : Nat} {g : MH} (k : CK H m g) {i D : Nat} (hi : i < m) (hD : D < 100) : E L scr (d + 2) 193 [vR 900011 0, vI (nI i), vI (nI D)] g = some (some (vI (zb (decide (H.o i / 720 = D) && H.bk i))), g) := by
  obtain ⟨⟨-, o2⟩, -⟩ := k.2.2 i hi
  refine r_P_isBackOn _ _ _ _ (Sm.ret ?_)
  rw [t_P_isBackOn_0, c_dayOfH k hi, clI_ok]
  by_cases c : H.o i / 720 = D
  · rw [if_pos (by rw [c]), c_isBackH k hi, clI_ok, decide_eq_true c, Bool.true_and]
    cases H.bk i with
    | false => rw [if_pos (show zb false = 0 from rfl)]; rfl
    | true => rw [if_neg (show ¬ zb true = 0 by decide)]; rfl
  · rw [if_neg (fun z => c ((nI_eq (by omega) (by omega)).mp z)), decide_eq_false c]; rfl
theorem c_M_isOn {H : HN} {m n : Nat} {g : MH} (k : MK H m n g) {i D : Nat} (hi : i < n) (hD : D < 100) : E L scr (d + 3) 276 [vR 900012 0, vI (nI i), vI (nI D)] g = some (some (vI (zb (decide (i < m) && (decide (H.o i / 720 = D) && H.bk i)))), g) := by
  have hn := k.2.1
  obtain ⟨⟨o1, o2⟩, -⟩ := k.2.2.2 i hi
  refine r_M_isOn _ _ _ _ (Sm.ret ?_)
  rw [t_M_isOn_0, c_M_isBackH k hi, clI_ok]
  cases e : decide (i < m) && H.bk i with
  | false =>
    rw [if_pos (show zb false = 0 from rfl), Bool.and_left_comm, e, Bool.and_false]; rfl
  | true =>
    rw [if_neg (show ¬ zb true = 0 by decide), rd_M_outAt (oob_nI (by omega) (by decide)), ix_nI (by omega), o1, dvI_ok (by decide), show nI (H.o i) / 720 = nI (H.o i / 720) from nI_div (b := 720) (by omega) (by decide), Bool.and_left_comm, e, Bool.and_true]
    by_cases c : H.o i / 720 = D
    · rw [if_pos (by rw [c]), decide_eq_true c]; rfl
    · rw [if_neg (fun z => c ((nI_eq (by omega) (by omega)).mp z)), decide_eq_false c]; rfl
theorem call_takings (x y : Int32) (h : MH) (q : RHire h) (qb : RBoat h) (qw : RWater h) (qs : RSpell h) (qd : RWeed h) (qr : RRule h) (qn : RNum h) (ql : RLaw h) : Both L scr (d + 40) Scr (fun _ => True) 143 277 [vR 900011 0, vI x, vI y] [vR 900012 0, vI x, vI y] h := by
  obtain ⟨q1, q2, q3, q4, q5, n, T, nb, hn, hT, hnb, ch, mh, cl, ml, bn, tk, hk, hsep⟩ := id q
  cases hx : ixB x 100 with
  | false =>
    refine both0 (vI (-1000000)) (r_P_takings _ _ _ _ (Sm.ret ?_)) (r_M_takings _ _ _ _ (Sm.ret ?_)) trivial
    · rw [t_P_takings_0, c_P_isDay, clI_ok, hx, itF]
    · rw [t_M_takings_0, c_M_isDay, clI_ok, hx, itF]
  | true =>
    cases hy : inB y 0 (nI T) with
    | false =>
      refine both0 (vI (-1000000)) (r_P_takings _ _ _ _ (Sm.ret ?_)) (r_M_takings _ _ _ _ (Sm.ret ?_)) trivial
      · rw [t_P_takings_0, c_P_isDay, clI_ok, hx, itT, c_P_isTelling cl, clI_ok, hy, itF]
      · rw [t_M_takings_0, c_M_isDay, clI_ok, hx, itT, c_M_isTelling ml, clI_ok, hy, itF]
    | true =>
      obtain ⟨t, ht, rfl⟩ := inB_T (by omega) hy
      obtain ⟨D, hD, -, rfl⟩ := ixB_t hx
      obtain ⟨H, m, h1, sw, ca, cb, qq, u, eS, v1, hmn, -, hH, no, cc, kM⟩ := bill_ctx (L := L) (scr := scr) (d := d + 35) (e := d + 35) q qb hT cl ht hn ch
      obtain ⟨lo, f, R, s, p, φ, hf, ld0⟩ := law_at (L := L) (scr := scr) qr qn ql (D := D) hD
      have ld : LawD L scr h D lo f R s p φ := ⟨hf, ld0⟩
      obtain ⟨-, -, -, ns, hns, cs, -⟩ := id qs
      obtain ⟨h2, eW, uW, wW⟩ := c_countWet (L := L) (scr := scr) (d := d + 37) (sp_ok qs cs hns v1.1) hD
      have v2 : VC h h1 h2 := v1.up uW (by decide) (by decide)
      rw [rainY_scr v1.1] at wW
      obtain ⟨on, hon⟩ : ∃ on : Nat → Bool, on = fun i => decide (i < m) && (decide (H.o i / 720 = D) && H.bk i) := ⟨_, rfl⟩
      have on0 : ∀ i, on i = (decide (i < m) && (decide (H.o i / 720 = D) && H.bk i)) := fun i => by rw [hon]
      obtain ⟨ow, how⟩ : ∃ ow : Nat → Int32, ow = fun i => nI (PRn h H lo f R s p i (FRn H m f i)) + nI (ltN f (H.mi i) (qq i)) + nI (HMn h H ns u sw R s p φ i) + nI ((ca i - cb i) * f 16) - nI (wtN f (PRn h H lo f R s p i (FRn H m f i)) (H.mi i) (WCn h H ns i (fun _ => false))) := ⟨_, rfl⟩
      have ont : ∀ i, on i = true → i < m ∧ H.o i / 720 = D ∧ H.bk i = true := fun i z => by
        rw [on0, Bool.and_eq_true, Bool.and_eq_true] at z
        exact ⟨of_decide_eq_true z.1, of_decide_eq_true z.2.1, z.2.2⟩
      have A : Sx L scr (d + 39) B_P_takings C_P_takings 0 [some (vR 900011 0), some (vI (nI D)), some (vI (nI t)), none, none, none] h (fun rr => ∃ g, rr = (some (vI (sumI on ow m)), g) ∧ VC h h1 g) := by
        refine Sx.step (t' := 3) (lo' := [some (vR 900011 0), some (vI (nI D)), some (vI (nI t)), some (vR 900005 (lmO lo)), some (vI (sumI on ow 0)), some (vI (nI 0))]) (h' := h2) ?_ (Sx.inv0 (P := fun i lo' g => lo' = [some (vR 900011 0), some (vI (nI D)), some (vI (nI t)), some (vR 900005 (lmO lo)), some (vI (sumI on ow i)), some (vI (nI i))] ∧ VC h h1 g ∧ ∀ x, x < 721 → hI g 1212000721 0 x = nI (wetN h D ns x)) m ⟨rfl, v2, wW⟩ ?_ ?_)
        · rw [t_P_takings_0, c_P_isDay, clI_ok, hx, itT, c_P_isTelling cl, clI_ok, hy, itT, eS, clV_ok, eW, clV_ok, (ld0 h2 v2.1).1, clR_ok]; rfl
        · rintro i hi _ g ⟨rfl, v, w⟩ kk
          have ck := (cc g v).1
          have oi : on i = (decide (H.o i / 720 = D) && H.bk i) := by rw [on0, decide_eq_true hi, Bool.true_and]
          have pre : dn L scr (E L scr (d + 39)) B_P_takings C_P_takings 3 [some (vR 900011 0), some (vI (nI D)), some (vI (nI t)), some (vR 900005 (lmO lo)), some (vI (sumI on ow i)), some (vI (nI i))] [] g = _ := t_P_takings_3 ..
          rw [ck.1, if_neg (nI_ge hi (by omega)), c_isBackOn ck hi hD, clI_ok, ← oi, nI_1] at pre
          cases e : on i with
          | false =>
            rw [e, if_pos (show zb false = 0 from rfl)] at pre
            exact Sx.step pre (kk _ _ ⟨by rw [sumI_f e], v, w⟩)
          | true =>
            obtain ⟨-, eD, hb⟩ := ont i e
            obtain ⟨g2, eB, uB, B⟩ := hire_bill (L := L) (scr := scr) (d := d + 31) cc no hi hb (by rw [eD]; exact ld) hns cs v (by rw [eD]; exact w)
            rw [e, if_neg (show ¬ zb true = 0 by decide), eB, clV_ok, c_owed B, clI_ok] at pre
            refine Sx.step pre (kk _ _ ⟨by rw [sumI_t e, how], v.up uB (by decide) (by decide), fun x hx => by rw [uB.2 _ _ (by decide)]; exact w x hx⟩)
        · rintro _ g ⟨rfl, v, w⟩
          refine Sx.ret (r := (some (vI (sumI on ow m)), g)) ?_ ⟨g, rfl, v⟩
          have ck := (cc g v).1
          have hm2 := ck.2.1
          rw [t_P_takings_3, ck.1, if_pos (nI_le (Nat.le_refl _) (by omega))]
      obtain ⟨_, A1, h3, rfl, v3⟩ := A
      obtain ⟨g1, eK, vM1, cm⟩ := kM h3 v3.1
      have tr : sumI on ow n = sumI on ow m := sumI_trunc hmn (fun j a b => by rw [on0, decide_eq_false (by omega)]; rfl)
      have B : Sx L scr (d + 39) B_M_takings C_M_takings 0 [some (vR 900012 0), some (vI (nI D)), some (vI (nI t)), none, none] h3 (fun rr => ∃ g, rr = (some (vI (sumI on ow m)), g) ∧ VM h g1 g) := by
        refine Sx.step (t' := 3) (lo' := [some (vR 900012 0), some (vI (nI D)), some (vI (nI t)), some (vI (sumI on ow 0)), some (vI (nI 0))]) (h' := g1) ?_ (Sx.inv0 (P := fun i lo' g => lo' = [some (vR 900012 0), some (vI (nI D)), some (vI (nI t)), some (vI (sumI on ow i)), some (vI (nI i))] ∧ VM h g1 g) n ⟨rfl, vM1⟩ ?_ ?_)
        · rw [t_M_takings_0, c_M_isDay, clI_ok, hx, itT, c_M_isTelling (n := T) (by rw [v3.1.2 _ _ (by decide)]; exact ml), clI_ok, hy, itT, eK, clV_ok]; rfl
        · rintro i hi _ g ⟨rfl, v⟩ kk
          have mk := (cm g v).1
          have pre : dn L scr (E L scr (d + 39)) B_M_takings C_M_takings 3 [some (vR 900012 0), some (vI (nI D)), some (vI (nI t)), some (vI (sumI on ow i)), some (vI (nI i))] [] g = _ := t_M_takings_3 ..
          rw [mk.1, if_neg (nI_ge hi (by omega)), c_M_isOn mk hi hD, clI_ok, ← on0, nI_1] at pre
          cases e : on i with
          | false =>
            rw [e, if_pos (show zb false = 0 from rfl)] at pre
            exact Sx.step pre (kk _ _ ⟨by rw [sumI_f e, Int32.add_zero], v⟩)
          | true =>
            obtain ⟨him, eD, hb⟩ := ont i e
            obtain ⟨g3, e3, w3⟩ := hire_owed (d := d + 30) cm no qw qs qd him hb (by rw [eD]; exact ld) hns cs v
            rw [e, if_neg (show ¬ zb true = 0 by decide), e3, clI_ok] at pre
            exact Sx.step pre (kk _ _ ⟨by rw [sumI_t e, how], v.up w3 (by decide) (by decide)⟩)
        · rintro _ g ⟨rfl, v⟩
          refine Sx.ret (r := (some (vI (sumI on ow m)), g)) ?_ ⟨g, rfl, v⟩
          rw [t_M_takings_3, ((cm g v).1).1, if_pos (nI_le (Nat.le_refl _) (by omega)), tr]
      obtain ⟨_, B1, h4, rfl, v4⟩ := B
      exact ⟨vI (sumI on ow m), h3, h4, r_P_takings _ _ _ _ A1, r_M_takings _ _ _ _ B1, v4.1, trivial⟩
theorem call_cost (x y : Int32) (h : MH) (q : RHire h) (qb : RBoat h) (qw : RWater h) (qs : RSpell h) (qd : RWeed h) (qr : RRule h) (qn : RNum h) (ql : RLaw h) : Both L scr (d + 40) Scr (fun _ => True) 145 280 [vR 900011 0, vI x, vI y] [vR 900012 0, vI x, vI y] h := by
  obtain ⟨q1, q2, q3, q4, q5, n, T, nb, hn, hT, hnb, ch, mh, cl, ml, bn, tk, hk, hsep⟩ := id q
  have iy : inB x 0 9 = ixB x 10 := inB_ix (n := 9) rfl (by decide)
  cases hx : ixB x 10 with
  | false =>
    refine both0 (vI (-1)) (r_P_cost _ _ _ _ (Sm.ret ?_)) (r_M_cost _ _ _ _ (Sm.ret ?_)) trivial
    · rw [t_P_cost_0, c_P_isWho, clI_ok, hx, itF]
    · rw [t_M_cost_0, c_M_isIn, clI_ok, iy, hx, itF]
  | true =>
    cases hy : inB y 0 (nI T) with
    | false =>
      refine both0 (vI (-1)) (r_P_cost _ _ _ _ (Sm.ret ?_)) (r_M_cost _ _ _ _ (Sm.ret ?_)) trivial
      · rw [t_P_cost_0, c_P_isWho, clI_ok, hx, itT, c_P_isTelling cl, clI_ok, hy, itF]
      · rw [t_M_cost_0, c_M_isIn, clI_ok, iy, hx, itT, c_M_isTelling ml, clI_ok, hy, itF]
    | true =>
      obtain ⟨t, ht, rfl⟩ := inB_T (by omega) hy
      obtain ⟨w, hw, -, rfl⟩ := ixB_t hx
      obtain ⟨H, m, h1, sw, ca, cb, qq, u, eS, v1, hmn, -, hH, no, cc, kM⟩ := bill_ctx (L := L) (scr := scr) (d := d + 35) (e := d + 35) q qb hT cl ht hn ch
      obtain ⟨-, -, -, ns, hns, cs, -⟩ := id qs
      have LAW : ∀ D, ∃ z : Option Nat × (Nat → Nat) × Nat × (Nat → Nat) × (Nat → Nat) × (Nat → (Nat → Int32) → Bool), D < 100 → LawD L scr h D z.1 z.2.1 z.2.2.1 z.2.2.2.1 z.2.2.2.2.1 z.2.2.2.2.2 := fun D => by
        by_cases hD : D < 100
        · obtain ⟨lo, f, R, s, p, φ, hf, ld0⟩ := law_at (L := L) (scr := scr) qr qn ql (D := D) hD
          exact ⟨(lo, f, R, s, p, φ), fun _ => ⟨hf, ld0⟩⟩
        · exact ⟨(none, fun _ => 0, 0, fun _ => 0, fun _ => 0, fun _ _ => false), fun z => absurd z hD⟩
      obtain ⟨F, hF⟩ : ∃ F : Nat → Option Nat × (Nat → Nat) × Nat × (Nat → Nat) × (Nat → Nat) × (Nat → (Nat → Int32) → Bool), ∀ D, D < 100 → LawD L scr h D (F D).1 (F D).2.1 (F D).2.2.1 (F D).2.2.2.1 (F D).2.2.2.2.1 (F D).2.2.2.2.2 := ⟨fun D => Classical.choose (LAW D), fun D => Classical.choose_spec (LAW D)⟩
      obtain ⟨on, hon⟩ : ∃ on : Nat → Bool, on = fun i => decide (i < m) && (H.bk i && decide (H.w i = w)) := ⟨_, rfl⟩
      have on0 : ∀ i, on i = (decide (i < m) && (H.bk i && decide (H.w i = w))) := fun i => by rw [hon]
      obtain ⟨ow, how⟩ : ∃ ow : Nat → Int32, ow = fun i => nI (PRn h H (F (H.o i / 720)).1 (F (H.o i / 720)).2.1 (F (H.o i / 720)).2.2.1 (F (H.o i / 720)).2.2.2.1 (F (H.o i / 720)).2.2.2.2.1 i 0) - nI (PRn h H (F (H.o i / 720)).1 (F (H.o i / 720)).2.1 (F (H.o i / 720)).2.2.1 (F (H.o i / 720)).2.2.2.1 (F (H.o i / 720)).2.2.2.2.1 i (FRn H m (F (H.o i / 720)).2.1 i)) := ⟨_, rfl⟩
      have A : Sx L scr (d + 39) B_P_cost C_P_cost 0 [some (vR 900011 0), some (vI (nI w)), some (vI (nI t)), none, none] h (fun rr => ∃ g, rr = (some (vI (sumI on ow m)), g) ∧ VC h h1 g) := by
        refine Sx.step (t' := 3) (lo' := [some (vR 900011 0), some (vI (nI w)), some (vI (nI t)), some (vI (sumI on ow 0)), some (vI (nI 0))]) (h' := h1) ?_ (Sx.inv0 (P := fun i lo' g => lo' = [some (vR 900011 0), some (vI (nI w)), some (vI (nI t)), some (vI (sumI on ow i)), some (vI (nI i))] ∧ VC h h1 g) m ⟨rfl, v1⟩ ?_ ?_)
        · rw [t_P_cost_0, c_P_isWho, clI_ok, hx, itT, c_P_isTelling cl, clI_ok, hy, itT, eS, clV_ok]; rfl
        · rintro i hi _ g ⟨rfl, v⟩ kk
          have ck := (cc g v).1
          have hm2 := ck.2.1
          obtain ⟨⟨-, o2⟩, -, ⟨w1, w2⟩, -⟩ := ck.2.2 i hi
          have oi : on i = (H.bk i && decide (H.w i = w)) := by rw [on0, decide_eq_true hi, Bool.true_and]
          have pre : dn L scr (E L scr (d + 39)) B_P_cost C_P_cost 3 [some (vR 900011 0), some (vI (nI w)), some (vI (nI t)), some (vI (sumI on ow i)), some (vI (nI i))] [] g = _ := t_P_cost_3 ..
          rw [ck.1, if_neg (nI_ge hi (by omega)), rd_Book_whoOf (oob_nI (by omega) (by decide)), ix_nI (by omega), w1, nI_1] at pre
          by_cases c : H.w i = w
          · rw [if_pos (by rw [c]), c_isBackH ck hi, clI_ok] at pre
            cases e : H.bk i with
            | false =>
              rw [e, if_pos (show zb false = 0 from rfl)] at pre
              exact Sx.step pre (kk _ _ ⟨by rw [sumI_f (by rw [oi, e]; rfl)], v⟩)
            | true =>
              have ld := hF (H.o i / 720) (by omega)
              obtain ⟨g2, eB, uB, B1, B2⟩ := hire_price (d := d + 31) cc hi e ld v
              rw [e, if_neg (show ¬ zb true = 0 by decide), c_dayOfH ck hi, clI_ok, (ld.2 g v.1).1, clR_ok, eB, clV_ok, B1, B2] at pre
              exact Sx.step pre (kk _ _ ⟨by rw [sumI_t (by rw [oi, e, decide_eq_true c]; rfl), how], v.up uB (by decide) (by decide)⟩)
          · rw [if_neg (fun z => c ((nI_eq (by omega) (by omega)).mp z))] at pre
            exact Sx.step pre (kk _ _ ⟨by rw [sumI_f (by rw [oi, decide_eq_false c, Bool.and_false])], v⟩)
        · rintro _ g ⟨rfl, v⟩
          refine Sx.ret (r := (some (vI (sumI on ow m)), g)) ?_ ⟨g, rfl, v⟩
          have ck := (cc g v).1
          have hm2 := ck.2.1
          rw [t_P_cost_3, ck.1, if_pos (nI_le (Nat.le_refl _) (by omega))]
      obtain ⟨_, A1, h3, rfl, v3⟩ := A
      obtain ⟨g1, eK, vM1, cm⟩ := kM h3 v3.1
      have tr : sumI on ow n = sumI on ow m := sumI_trunc hmn (fun j a b => by rw [on0, decide_eq_false (by omega)]; rfl)
      have B : Sm L scr (d + 39) B_M_cost C_M_cost 0 [some (vR 900012 0), some (vI (nI w)), some (vI (nI t)), none, none] [] h3 (some (vI (sumI on ow m)), g1) := by
        refine Sm.step (t' := 3) (lo' := [some (vR 900012 0), some (vI (nI w)), some (vI (nI t)), some (vI (sumI on ow 0)), some (vI (nI 0))]) (st' := []) (h' := g1) ?_ (Sm.for (lo := fun i => [some (vR 900012 0), some (vI (nI w)), some (vI (nI t)), some (vI (sumI on ow i)), some (vI (nI i))]) (hh := fun _ => g1) n (fun i hi => ?_) (Sm.ret ?_))
        · rw [t_M_cost_0, c_M_isIn, clI_ok, iy, hx, itT, c_M_isTelling (n := T) (by rw [v3.1.2 _ _ (by decide)]; exact ml), clI_ok, hy, itT, eK, clV_ok]; rfl
        · have mk := (cm g1 vM1).1
          obtain ⟨⟨-, o2⟩, -, ⟨w1, w2⟩, -⟩ := mk.2.2.2 i hi
          rw [t_M_cost_3, mk.1, if_neg (nI_ge hi (by omega)), c_M_isBackH mk hi, clI_ok, nI_1]
          cases e : decide (i < m) && H.bk i with
          | false => rw [if_pos (show zb false = 0 from rfl), sumI_f (by rw [on0, ← Bool.and_assoc, e]; rfl), Int32.add_zero]
          | true =>
            have e2 := e
            rw [Bool.and_eq_true] at e2
            have him := of_decide_eq_true e2.1
            rw [if_neg (show ¬ zb true = 0 by decide), rd_M_whoOf (oob_nI (by omega) (by decide)), ix_nI (by omega), w1]
            by_cases c : H.w i = w
            · obtain ⟨-, a2, a3, -⟩ := hire_M (d := d + 31) cm no qw qs qd him e2.2 (hF (H.o i / 720) (by omega)) hns cs vM1
              have p0 : E L scr (d + 39) 268 [vR 900012 0, vI (nI i), vI 0] g1 = _ := a3 0 (Nat.zero_le _)
              rw [if_pos (by rw [c]), p0, clI_ok, a2, clI_ok, a3 (FRn H m (F (H.o i / 720)).2.1 i) (Nat.min_le_left _ _), clI_ok, sumI_t (by rw [on0, ← Bool.and_assoc, e, decide_eq_true c]; rfl), how]
            · rw [if_neg (fun z => c ((nI_eq (by omega) (by omega)).mp z)), sumI_f (by rw [on0, decide_eq_false c, Bool.and_false, Bool.and_false]), Int32.add_zero]
        · have mk := (cm g1 vM1).1
          rw [t_M_cost_3, mk.1, if_pos (nI_le (Nat.le_refl _) (by omega)), tr]
      exact ⟨vI (sumI on ow m), h3, g1, r_P_cost _ _ _ _ A1, r_M_cost _ _ _ _ B, vM1.1, trivial⟩
end Takings

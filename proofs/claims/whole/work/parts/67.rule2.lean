/-! CALL: rule, its second part -/
def lookN (f : Nat → Int32) (v : Nat) : Int32 :=
  if 10 ≤ v ∧ v ≤ 13 then f (v - 10) else if 20 ≤ v ∧ v ≤ 23 then f (v - 16) else if 30 ≤ v ∧ v ≤ 33 then f (v - 22) else if 40 ≤ v ∧ v ≤ 44 then f (v - 28) else if 100 ≤ v ∧ v ≤ 199 then (if 4 ≤ v % 10 then -1 else f (20 + (4 * ((v - 100) / 10) + v % 10))) else -1
theorem inB_nI {v a b : Nat} (hv : v < 2 ^ 31) (ha : a < 2 ^ 31) (hb : b < 2 ^ 31) : inB (nI v) (nI a) (nI b) = decide (a ≤ v ∧ v ≤ b) := by
  unfold inB
  apply decide_eq_decide.mpr
  rw [nI_leI ha hv, nI_leI hv hb]
section Rule2
variable {L : Nat} {scr : Nat → Int32} {d : Nat}
theorem c_Law_look {h : MH} {m v : Nat} {f : Nat → Int32} (hl : LawEq h m f) (hv : v < 2 ^ 31) : E L scr (d + 1) 57 [vR 900005 m, vI (nI v)] h = some (some (vI (lookN f v)), h) := by
  obtain ⟨l1, ⟨l2, l3, l4, l5, l6⟩, l7⟩ := hl
  have em : nI v % 10 = nI (v % 10) := nI_mod (b := 10) hv (by decide)
  have ed : nI v / 10 = nI (v / 10) := nI_div (b := 10) hv (by decide)
  have ne : ∀ a, a < 2 ^ 31 → v ≠ a → ¬ nI v = nI a := fun a ha hne z => hne ((nI_eq hv ha).mp z)
  have k3 : (v < 100 ∨ 200 ≤ v) → dn L scr (E L scr d) B_Law_look C_Law_look 3 [some (vR 900005 m), some (vI (nI v)), some (vI (nI (v % 10)))] [] h = some (Sum.inr (some (vI (lookN f v)), h)) := by
    intro hc
    rw [t_Law_look_3]
    by_cases c1 : v < 10
    · have e : lookN f v = -1 := by
        unfold lookN
        rw [if_neg (by omega), if_neg (by omega), if_neg (by omega), if_neg (by omega), if_neg (by omega)]
      rw [if_pos (show nI v < 10 from nI_lt (b := 10) c1 (by decide)), if_neg (show ¬ nI v = 40 from ne 40 (by decide) (by omega)), if_neg (show ¬ nI v = 41 from ne 41 (by decide) (by omega)), if_neg (show ¬ nI v = 42 from ne 42 (by decide) (by omega)), if_neg (show ¬ nI v = 43 from ne 43 (by decide) (by omega)), if_neg (show ¬ nI v = 44 from ne 44 (by decide) (by omega)), e]
    · rw [if_neg (show ¬ nI v < 10 from nI_nlt (b := 10) (by omega) (by omega))]
      by_cases c2 : 40 ≤ v
      · rw [if_pos (show 40 ≤ nI v from nI_le (a := 40) c2 (by omega))]
        by_cases c3 : v ≤ 44
        · have e : lookN f v = f (v - 28) := by
            unfold lookN
            rw [if_neg (by omega), if_neg (by omega), if_neg (by omega), if_pos (by omega)]
          have hcase : v = 40 ∨ v = 41 ∨ v = 42 ∨ v = 43 ∨ v = 44 := by omega
          rcases hcase with rfl | rfl | rfl | rfl | rfl
          · rw [if_pos (show nI 40 = 40 from rfl), e, l2]
          · rw [if_neg (show ¬ nI 41 = 40 by decide), if_pos (show nI 41 = 41 from rfl), e, l3]
          · rw [if_neg (show ¬ nI 42 = 40 by decide), if_neg (show ¬ nI 42 = 41 by decide), if_pos (show nI 42 = 42 from rfl), e, l4]
          · rw [if_neg (show ¬ nI 43 = 40 by decide), if_neg (show ¬ nI 43 = 41 by decide), if_neg (show ¬ nI 43 = 42 by decide), if_pos (show nI 43 = 43 from rfl), e, l5]
          · rw [if_neg (show ¬ nI 44 = 40 by decide), if_neg (show ¬ nI 44 = 41 by decide), if_neg (show ¬ nI 44 = 42 by decide), if_neg (show ¬ nI 44 = 43 by decide), if_pos (show nI 44 = 44 from rfl), e, l6]
        · have e : lookN f v = -1 := by
            unfold lookN
            rw [if_neg (by omega), if_neg (by omega), if_neg (by omega), if_neg (by omega), if_neg (by omega)]
          rw [if_neg (show ¬ nI v = 40 from ne 40 (by decide) (by omega)), if_neg (show ¬ nI v = 41 from ne 41 (by decide) (by omega)), if_neg (show ¬ nI v = 42 from ne 42 (by decide) (by omega)), if_neg (show ¬ nI v = 43 from ne 43 (by decide) (by omega)), if_neg (show ¬ nI v = 44 from ne 44 (by decide) (by omega)), e]
      · rw [if_neg (show ¬ 40 ≤ nI v from nI_ge (b := 40) (by omega) (by decide))]
        by_cases c4 : v % 10 < 4
        · have ob : ¬ oob (nI (v % 10)) 4 := oob_nI c4 (by decide)
          have j := l1 (v % 10) c4
          rw [if_pos (show nI (v % 10) < 4 from nI_lt (b := 4) c4 (by decide))]
          by_cases c5 : 20 ≤ v
          · rw [if_pos (show 20 ≤ nI v from nI_le (a := 20) c5 hv)]
            by_cases c6 : 30 ≤ v
            · have e : lookN f v = f (v - 22) := by
                unfold lookN
                rw [if_neg (by omega), if_neg (by omega), if_pos (by omega)]
              rw [if_pos (show 30 ≤ nI v from nI_le (a := 30) c6 hv), rd_Law_deposit ob, ix_nI (by omega), j.2.2, e, show 8 + v % 10 = v - 22 by omega]
            · have e : lookN f v = f (v - 16) := by
                unfold lookN
                rw [if_neg (by omega), if_pos (by omega)]
              rw [if_neg (show ¬ 30 ≤ nI v from nI_ge (b := 30) (by omega) (by decide)), rd_Law_each ob, ix_nI (by omega), j.2.1, e, show 4 + v % 10 = v - 16 by omega]
          · have e : lookN f v = f (v - 10) := by
              unfold lookN
              rw [if_pos (by omega)]
            rw [if_neg (show ¬ 20 ≤ nI v from nI_ge (b := 20) (by omega) (by decide)), rd_Law_price ob, ix_nI (by omega), j.1, e, show v % 10 = v - 10 by omega]
        · have e : lookN f v = -1 := by
            unfold lookN
            rw [if_neg (by omega), if_neg (by omega), if_neg (by omega), if_neg (by omega), if_neg (by omega)]
          rw [if_neg (show ¬ nI (v % 10) < 4 from nI_nlt (b := 4) (by omega) (by omega)), e]
  by_cases c1 : v < 100
  · refine r_Law_look _ _ _ (Sm.step (t' := 3) (lo' := [some (vR 900005 m), some (vI (nI v)), some (vI (nI (v % 10)))]) (st' := []) (h' := h) ?_ (Sm.ret (k3 (Or.inl c1))))
    rw [t_Law_look_0, dvI_ok (by decide), em, if_pos (show nI v < 100 from nI_lt (b := 100) c1 (by decide))]
  · by_cases c2 : 200 ≤ v
    · refine r_Law_look _ _ _ (Sm.step (t' := 3) (lo' := [some (vR 900005 m), some (vI (nI v)), some (vI (nI (v % 10)))]) (st' := []) (h' := h) ?_ (Sm.ret (k3 (Or.inr c2))))
      rw [t_Law_look_0, dvI_ok (by decide), em, if_neg (show ¬ nI v < 100 from nI_nlt (b := 100) (by omega) (by omega)), if_pos (show 200 ≤ nI v from nI_le (a := 200) c2 hv)]
    · refine r_Law_look _ _ _ (Sm.ret ?_)
      rw [t_Law_look_0, dvI_ok (by decide), em, ed, if_neg (show ¬ nI v < 100 from nI_nlt (b := 100) (by omega) (by omega)), if_neg (show ¬ 200 ≤ nI v from nI_ge (b := 200) (by omega) (by decide))]
      have e : lookN f v = (if 4 ≤ v % 10 then -1 else f (20 + (4 * ((v - 100) / 10) + v % 10))) := by
        unfold lookN
        rw [if_neg (by omega), if_neg (by omega), if_neg (by omega), if_neg (by omega), if_pos (by omega)]
      rw [e]
      by_cases c3 : 4 ≤ v % 10
      · rw [if_pos (show 4 ≤ nI (v % 10) from nI_le (a := 4) c3 (by omega)), if_pos c3]
      · have ei : (nI (v / 10) - 10) * 4 + nI (v % 10) = nI (4 * ((v - 100) / 10) + v % 10) := by
          rw [show nI (v / 10) - 10 = nI (v / 10 - 10) from nI_sub (b := 10) (by omega), show (4 : Int32) = nI 4 from rfl, nI_mul, nI_add]
          exact congrArg nI (by omega)
        rw [if_neg (show ¬ 4 ≤ nI (v % 10) from nI_ge (b := 4) (by omega) (by decide)), if_neg c3, dvI_ok (by decide), ei, rd_Law_rights (oob_nI (by omega) (by decide)), ix_nI (by omega), l7 _ (by omega)]
theorem call_rule (x y : Int32) (h : MH) (q : RRule h) : Both L scr (d + 40) Scr (fun _ => True) 127 234 [vR 900011 0, vI x, vI y] [vR 900012 0, vI x, vI y] h := by
  obtain ⟨n, hn, e, m, ⟨dy, hd⟩, hl, hb⟩ := q
  cases hx : ixB x 100 with
  | false =>
    refine both0 (vI (-1)) (r_P_rule _ _ _ _ (Sm.ret ?_)) (r_M_rule_1 _ _ _ _ (Sm.ret ?_)) trivial
    · rw [t_P_rule_0, c_P_isDay, clI_ok, hx, itF]
    · rw [t_M_rule_1_0, c_M_isDay, clI_ok, hx, itF]
  | true =>
    obtain ⟨t, ht, ht2, rfl⟩ := ixB_t hx
    obtain ⟨o, ho⟩ : ∃ o, o = lawF dy t n := ⟨_, rfl⟩
    have hC := fun d => c_lawNumber (L := L) (scr := scr) (d := d) (h := h) (n := n) (x := t) (dy := dy) hn ht e (fun k hk => ⟨(hd k hk).1, (hd k hk).2.1, (hd k hk).2.2.1⟩)
    have hP := fun d => c_P_lawOf (L := L) (scr := scr) (d := d) (h := h) (n := n) (x := t) (dy := dy) hn ht e (fun k hk => ⟨(hd k hk).1, (hd k hk).2.1, (hd k hk).2.2.1⟩)
    have hM := fun d => c_M_lawOf (L := L) (scr := scr) (d := d) (h := h) (n := n) (x := t) (dy := dy) hn ht m (fun k hk => ⟨(hd k hk).1, (hd k hk).2.2.2⟩)
    have hL := law_of (x := t) (dy := dy) hl hb
    rw [← ho] at hC hP hM hL
    have o5 : ∀ k, o = some k → k < 5 := fun k z => by rw [ho] at z; have := lawF_lt z; omega
    by_cases y0 : y = 0
    · refine both0 (vI (oI o)) (r_P_rule _ _ _ _ (Sm.ret ?_)) (r_M_rule_1 _ _ _ _ (Sm.ret ?_)) trivial
      · rw [t_P_rule_0, c_P_isDay, clI_ok, hx, itT, if_pos y0, hC, clI_ok]
      · rw [t_M_rule_1_0, c_M_isDay, clI_ok, hx, itT, hM, clI_ok, if_pos y0]
    by_cases yn : y < 0
    · have h1 : ∀ a b : Int32, 0 ≤ a → inB y a b = false := fun a b ha => decide_eq_false (fun z => by
        have := z.1
        rw [Int32.le_iff_toInt_le] at this ha
        rw [Int32.lt_iff_toInt_lt] at yn
        omega)
      have lt : ∀ a : Int32, 0 ≤ a → ¬ a ≤ y := fun a ha z => by
        rw [Int32.le_iff_toInt_le] at z ha
        rw [Int32.lt_iff_toInt_lt] at yn
        omega
      have ne : ∀ a : Int32, 0 ≤ a → ¬ y = a := fun a ha z => by
        rw [z, Int32.lt_iff_toInt_lt] at yn
        rw [Int32.le_iff_toInt_le] at ha
        omega
      refine both0 (vI (-1)) (r_P_rule _ _ _ _ (Sm.ret ?_)) (r_M_rule_1 _ _ _ _ (Sm.ret ?_)) trivial
      · have ek : E L scr (d + 39) 57 [vR 900005 (lmO o), vI y] h = some (some (vI (-1)), h) := by
          refine r_Law_look _ _ _ (Sm.step (t' := 3) (lo' := [some (vR 900005 (lmO o)), some (vI y), some (vI (y % 10))]) (st' := []) (h' := h) ?_ (Sm.ret ?_))
          · rw [t_Law_look_0, dvI_ok (by decide), if_pos (nle_i.mp (lt 100 (by decide)))]
          · rw [t_Law_look_3, if_pos (nle_i.mp (lt 10 (by decide))), if_neg (ne 40 (by decide)), if_neg (ne 41 (by decide)), if_neg (ne 42 (by decide)), if_neg (ne 43 (by decide)), if_neg (ne 44 (by decide))]
        rw [t_P_rule_0, c_P_isDay, clI_ok, hx, itT, if_neg y0, hP, clR_ok, ek, clI_ok]
      · rw [t_M_rule_1_0, c_M_isDay, clI_ok, hx, itT, hM, clI_ok, if_neg y0, c_M_isIn, clI_ok, h1 10 13 (by decide), itF, c_M_isIn, clI_ok, h1 20 23 (by decide), itF, c_M_isIn, clI_ok, h1 30 33 (by decide), itF, c_M_isIn, clI_ok, h1 40 44 (by decide), itF, c_M_isIn, clI_ok, h1 100 199 (by decide), itF]
    · obtain ⟨v, hv, rfl⟩ := nI_of (x := y) yn
      have ib : ∀ a b, a < 2 ^ 31 → b < 2 ^ 31 → inB (nI v) (nI a) (nI b) = decide (a ≤ v ∧ v ≤ b) := fun a b ha hb => inB_nI hv ha hb
      refine both0 (vI (lookN (saidF h o) v)) (r_P_rule _ _ _ _ (Sm.ret ?_)) (r_M_rule_1 _ _ _ _ (Sm.ret ?_)) trivial
      · rw [t_P_rule_0, c_P_isDay, clI_ok, hx, itT, if_neg y0, hP, clR_ok, c_Law_look hL hv, clI_ok]
      · rw [t_M_rule_1_0, c_M_isDay, clI_ok, hx, itT, hM, clI_ok, if_neg y0, c_M_isIn, clI_ok, show inB (nI v) 10 13 = _ from ib 10 13 (by decide) (by decide)]
        unfold lookN
        by_cases c1 : 10 ≤ v ∧ v ≤ 13
        · rw [decide_eq_true c1, itT, if_pos c1, show nI v - 10 = nI (v - 10) from nI_sub (b := 10) c1.1, c_M_said o5 (by omega), clI_ok]
        · rw [decide_eq_false c1, itF, if_neg c1, c_M_isIn, clI_ok, show inB (nI v) 20 23 = _ from ib 20 23 (by decide) (by decide)]
          by_cases c2 : 20 ≤ v ∧ v ≤ 23
          · rw [decide_eq_true c2, itT, if_pos c2, show (4 : Int32) + nI v - 20 = nI (v - 16) by
              rw [show (4 : Int32) + nI v = nI (4 + v) from nI_add 4 v, show nI (4 + v) - 20 = nI (4 + v - 20) from nI_sub (b := 20) (by omega)]
              exact congrArg nI (by omega), c_M_said o5 (by omega), clI_ok]
          · rw [decide_eq_false c2, itF, if_neg c2, c_M_isIn, clI_ok, show inB (nI v) 30 33 = _ from ib 30 33 (by decide) (by decide)]
            by_cases c3 : 30 ≤ v ∧ v ≤ 33
            · rw [decide_eq_true c3, itT, if_pos c3, show (8 : Int32) + nI v - 30 = nI (v - 22) by
                rw [show (8 : Int32) + nI v = nI (8 + v) from nI_add 8 v, show nI (8 + v) - 30 = nI (8 + v - 30) from nI_sub (b := 30) (by omega)]
                exact congrArg nI (by omega), c_M_said o5 (by omega), clI_ok]
            · rw [decide_eq_false c3, itF, if_neg c3, c_M_isIn, clI_ok, show inB (nI v) 40 44 = _ from ib 40 44 (by decide) (by decide)]
              by_cases c4 : 40 ≤ v ∧ v ≤ 44
              · rw [decide_eq_true c4, itT, if_pos c4, show (12 : Int32) + nI v - 40 = nI (v - 28) by
                  rw [show (12 : Int32) + nI v = nI (12 + v) from nI_add 12 v, show nI (12 + v) - 40 = nI (12 + v - 40) from nI_sub (b := 40) (by omega)]
                  exact congrArg nI (by omega), c_M_said o5 (by omega), clI_ok]
              · rw [decide_eq_false c4, itF, if_neg c4, c_M_isIn, clI_ok, show inB (nI v) 100 199 = _ from ib 100 199 (by decide) (by decide)]
                by_cases c5 : 100 ≤ v ∧ v ≤ 199
                · rw [decide_eq_true c5, itT, if_pos c5, dvI_ok (by decide), show nI v % 10 = nI (v % 10) from nI_mod (b := 10) hv (by decide)]
                  by_cases c6 : 4 ≤ v % 10
                  · rw [if_pos (show 4 ≤ nI (v % 10) from nI_le (a := 4) c6 (by omega)), if_pos c6]
                  · have ei : (20 : Int32) + 4 * ((nI v - 100) / 10) + nI (v % 10) = nI (20 + (4 * ((v - 100) / 10) + v % 10)) := by
                      rw [show nI v - 100 = nI (v - 100) from nI_sub (b := 100) c5.1, show nI (v - 100) / 10 = nI ((v - 100) / 10) from nI_div (b := 10) (by omega) (by decide), show (4 : Int32) = nI 4 from rfl, nI_mul, show (20 : Int32) = nI 20 from rfl, nI_add, nI_add]
                      exact congrArg nI (by omega)
                    rw [if_neg (show ¬ 4 ≤ nI (v % 10) from nI_ge (b := 4) (by omega) (by decide)), if_neg c6, dvI_ok (by decide), dvI_ok (by decide), ei, c_M_said o5 (by omega), clI_ok]
                · rw [decide_eq_false c5, itF, if_neg c5]
end Rule2

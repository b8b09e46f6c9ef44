/-! CONDITIONS, on the reference's side: and, or -/
section MLoop
variable {L : Nat} {scr : Nat → Int32} {d : Nat}
theorem mall_run {h : MH} {v : Nat → Nat} {n b D N dp : Nat} {one : List (Nat × Nat) → PC} (hB : 3 * b ≤ N + 6750) (hD : 2 ≤ D) (hdp : hI h 1306 0 0 = nI dp) (ih : ∀ (h : MH) (b p t g : Nat) (r : List (Nat × Nat)), AtM h v n p → lex v n p = (t, g) :: r → hI h 1306 0 0 = nI dp → hI h 1302 0 0 = nI b → 3 * b ≤ g + 6750 → ∃ h2, E L scr (d + 3) 218 [vR 900012 0] h = some (some (vI (zb (isOkC (one ((t, g) :: r))))), h2) ∧ Upd WCq h h2 ∧ MO h h2 v n (D - 1) b g (one ((t, g) :: r))) : ∀ (f : Nat) (h' : MH) (l : List (Nat × Nat)) (φ : Phi), 901 ≤ f + hdP l → MO h h' v n D b N (.inl (l, φ)) → ∃ h2, Sm L scr (d + 3) B_M_all C_M_all 1 [some (vR 900012 0)] [] h' (some (vI (zb (isOkC (pLoop 21 and one f (.inl (l, φ)))))), h2) ∧ Upd WCq h' h2 ∧ MO h h2 v n D b N (pLoop 21 and one f (.inl (l, φ))) := by
  intro f
  induction f with
  | zero =>
    intro h' l φ hl mo
    obtain ⟨q, b2, a, el, -⟩ := mo
    have := (lex_ok (v := v) (p := q) a.1.1).1
    rw [el] at this
    cases l with
    | nil => exact this.elim
    | cons y r => exact absurd this.1 (by replace hl : 901 ≤ 0 + y.2 := hl; omega)
  | succ f ihf =>
    intro h' l φ hl mo
    obtain ⟨q, b2, a, el, es, bb, bn, dd, kj, aj, sg⟩ := id mo
    have okl : OkL l := by rw [← el]; exact (lex_ok a.1.1).1
    have gpl : GapL l := by rw [← el]; exact lex_gap a.2.1
    cases l with
    | nil => exact okl.elim
    | cons y r =>
      obtain ⟨t, g⟩ := y
      replace hl : 901 ≤ f + 1 + g := hl
      replace bn : N + 3 * (b2 - b) + 2 ≤ g := bn
      obtain ⟨h1, q1, e1, u1, a1, l1⟩ := c_M_takes (L := L) (scr := scr) (d := d) (s := 21) (by decide) a el
      have e1' : E L scr (d + 3) 210 [vR 900012 0, vL 6385252] h' = some (some (vI (zb (decide (t = 21)))), h1) := e1
      by_cases ts : t = 21
      · rw [decide_eq_true ts] at e1'
        rw [if_pos ts] at l1
        have ok1 : OkL r := okl.2.elim (fun z => by omega) (fun z => z.2)
        cases r with
        | nil => exact ok1.elim
        | cons y r1 =>
          obtain ⟨t1, g1⟩ := y
          have gp1 : g + tkW t ≤ g1 := gpl.1
          have w1 : 2 ≤ tkW t := by rw [ts]; decide
          obtain ⟨h2, e2, u2, mo2⟩ := ih h1 b2 q1 t1 g1 r1 a1 l1 (by rw [u1.2 1306 0 (by decide), dd]; exact hdp) (by rw [u1.2 1302 0 (by decide)]; exact es) (by omega)
          have pl : pLoop 21 and one (f + 1) (.inl ((t, g) :: (t1, g1) :: r1, φ)) = pLoop 21 and one f (match one ((t1, g1) :: r1) with
            | .inr g => .inr g
            | .inl (r2, ψ) => .inl (r2, fun v => and (φ v) (ψ v))) := if_pos ts
          rw [pl]
          cases eo : one ((t1, g1) :: r1) with
          | inr g3 =>
            rw [eo] at mo2 e2
            have pf : ∀ f, pLoop 21 and one f (.inr g3) = .inr g3 := fun f => by cases f <;> rfl
            replace e2 : E L scr (d + 3) 218 [vR 900012 0] h1 = some (some (vI (zb false)), h2) := e2
            show ∃ h2, Sm L scr (d + 3) _ _ 1 _ [] h' (some (vI (zb (isOkC (pLoop 21 and one f (.inr g3))))), h2) ∧ _ ∧ MO h h2 v n D b N (pLoop 21 and one f (.inr g3))
            rw [pf f]
            obtain ⟨qz, z1, z2, z3⟩ := mo2
            have kk : KpS h h' b := kj
            refine ⟨h2, Sm.ret ?_, (u1.mono wcq1).tr u2, qz, z1, z2, (kk.tr (KpS.of b u1 (by decide)) (Nat.le_refl _)).tr z3 (by omega)⟩
            rw [t_M_all_1, e1', clI_ok, itT, e2, clI_ok, itF]; rfl
          | inl y =>
            obtain ⟨r2, ψ⟩ := y
            rw [eo] at mo2 e2
            replace e2 : E L scr (d + 3) 218 [vR 900012 0] h1 = some (some (vI (zb true)), h2) := e2
            obtain ⟨q2, b3, a2, l2, es2, bb2, bn2, dd2, kj2, aj2, sg2⟩ := mo2
            have ok2 : hdP r2 ≤ 900 := by
              have := (lex_ok (v := v) (p := q2) a2.1.1).1
              rw [l2] at this
              cases r2 with
              | nil => exact this.elim
              | cons y r3 => exact this.1
            obtain ⟨h3, e3, u3, s3, k1, k2, k3⟩ := c_M_puts (L := L) (scr := scr) (d := d + 2) 4 0 0 (by omega) es2
            have f1 : hI h1 1317002700 0 = hI h' 1317002700 0 := u1.2 _ _ (by decide)
            have f2 : hI h1 1318002700 0 = hI h' 1318002700 0 := u1.2 _ _ (by decide)
            have f3 : hI h1 1319002700 0 = hI h' 1319002700 0 := u1.2 _ _ (by decide)
            have f4 : hI h1 1306 0 = hI h' 1306 0 := u1.2 _ _ (by decide)
            have o1 : ∀ j, j < b2 → hI h3 1317002700 0 j = hI h' 1317002700 0 j ∧ hI h3 1318002700 0 j = hI h' 1318002700 0 j ∧ hI h3 1319002700 0 j = hI h' 1319002700 0 j := fun j hj => by
              obtain ⟨x1, x2, x3⟩ := kj2 j hj
              rw [k1, k2, k3, up_n (by omega), up_n (by omega), up_n (by omega), x1, x2, x3, f1, f2, f3]
              exact ⟨rfl, rfl, rfl⟩
            have o2 : ∀ j, j < b3 → hI h3 1317002700 0 j = hI h2 1317002700 0 j ∧ hI h3 1318002700 0 j = hI h2 1318002700 0 j ∧ hI h3 1319002700 0 j = hI h2 1319002700 0 j := fun j hj => by
              rw [k1, k2, k3, up_n (by omega), up_n (by omega), up_n (by omega)]
              exact ⟨rfl, rfl, rfl⟩
            obtain ⟨h4, s4, u4, mo4⟩ := ihf h3 r2 (fun v => and (φ v) (ψ v)) (by omega) ⟨q2, b3 + 1, ⟨TxV.fr u3 (by decide) a2.1, a2.2.1, by rw [u3.2 1305 0 (by decide)]; exact a2.2.2⟩, l2, s3, by omega, by omega, by rw [u3.2 1306 0 (by decide), dd2, f4, dd], fun j hj => by
              obtain ⟨x1, x2, x3⟩ := o1 j (by omega)
              obtain ⟨y1, y2, y3⟩ := kj j hj
              rw [x1, x2, x3, y1, y2, y3]; exact ⟨rfl, rfl, rfl⟩, fun j j1 j2 hj => by
              rcases Nat.lt_or_ge j b2 with c | c
              · obtain ⟨x1, x2, -⟩ := o1 j c
                rw [x1] at hj
                rw [x2]; exact aj j j1 c hj
              · rcases Nat.lt_or_ge j b3 with c3 | c3
                · obtain ⟨x1, x2, -⟩ := o2 j c3
                  rw [x1] at hj
                  rw [x2]; exact aj2 j c c3 hj
                · have : j = b3 := by omega
                  subst this
                  rw [k1, up_s] at hj
                  exact absurd (by decide) hj, fun w => by
              refine SegL.and (SegL.cong (sg w) (fun j j1 j2 => ?_)) (SegL.cong (sg2 w) (fun j j1 j2 => ?_)) (by omega) (by omega) ?_
              · obtain ⟨x1, x2, x3⟩ := o1 j j2
                show dcM w _ _ _ = dcM w _ _ _
                rw [x1, x2, x3]
              · obtain ⟨x1, x2, x3⟩ := o2 j j2
                show dcM w _ _ _ = dcM w _ _ _
                rw [x1, x2, x3]
              · show (dcM w (hI h3 1317002700 0 b3) _ _).1 = _
                rw [k1, up_s]; rfl⟩
            refine ⟨h4, Sm.step ?_ s4, (u1.mono wcq1).tr (u2.tr ((u3.mono wcq2).tr u4)), mo4⟩
            rw [t_M_all_1, e1', clI_ok, itT, e2, clI_ok, itT, e3, clV_ok]
      · rw [decide_eq_false ts] at e1'
        rw [if_neg ts] at l1
        have pl : pLoop 21 and one (f + 1) (.inl ((t, g) :: r, φ)) = .inl ((t, g) :: r, φ) := if_neg ts
        rw [pl]
        have f1 : hI h1 1317002700 0 = hI h' 1317002700 0 := u1.2 _ _ (by decide)
        have f2 : hI h1 1318002700 0 = hI h' 1318002700 0 := u1.2 _ _ (by decide)
        have f3 : hI h1 1319002700 0 = hI h' 1319002700 0 := u1.2 _ _ (by decide)
        refine ⟨h1, Sm.ret ?_, u1.mono wcq1, q1, b2, a1, l1, by rw [u1.2 1302 0 (by decide)]; exact es, bb, bn, by rw [u1.2 1306 0 (by decide)]; exact dd, fun j hj => by rw [f1, f2, f3]; exact kj j hj, fun j j1 j2 hj => by rw [f1] at hj; rw [f2]; exact aj j j1 j2 hj, fun w => SegL.cong (sg w) (fun j _ _ => by show dcM w _ _ _ = dcM w _ _ _; rw [f1, f2, f3])⟩
        rw [t_M_all_1, e1', clI_ok, itF]; rfl
theorem many_run {h : MH} {v : Nat → Nat} {n b D N dp : Nat} {one : List (Nat × Nat) → PC} (hB : 3 * b ≤ N + 6750) (hD : 2 ≤ D) (hdp : hI h 1306 0 0 = nI dp) (ih : ∀ (h : MH) (b p t g : Nat) (r : List (Nat × Nat)), AtM h v n p → lex v n p = (t, g) :: r → hI h 1306 0 0 = nI dp → hI h 1302 0 0 = nI b → 3 * b ≤ g + 6750 → ∃ h2, E L scr (d + 3) 217 [vR 900012 0] h = some (some (vI (zb (isOkC (one ((t, g) :: r))))), h2) ∧ Upd WCq h h2 ∧ MO h h2 v n (D - 1) b g (one ((t, g) :: r))) : ∀ (f : Nat) (h' : MH) (l : List (Nat × Nat)) (φ : Phi), 901 ≤ f + hdP l → MO h h' v n D b N (.inl (l, φ)) → ∃ h2, Sm L scr (d + 3) B_M_any C_M_any 1 [some (vR 900012 0)] [] h' (some (vI (zb (isOkC (pLoop 20 or one f (.inl (l, φ)))))), h2) ∧ Upd WCq h' h2 ∧ MO h h2 v n D b N (pLoop 20 or one f (.inl (l, φ))) := by
  intro f
  induction f with
  | zero =>
    intro h' l φ hl mo
    obtain ⟨q, b2, a, el, -⟩ := mo
    have := (lex_ok (v := v) (p := q) a.1.1).1
    rw [el] at this
    cases l with
    | nil => exact this.elim
    | cons y r => exact absurd this.1 (by replace hl : 901 ≤ 0 + y.2 := hl; omega)
  | succ f ihf =>
    intro h' l φ hl mo
    obtain ⟨q, b2, a, el, es, bb, bn, dd, kj, aj, sg⟩ := id mo
    have okl : OkL l := by rw [← el]; exact (lex_ok a.1.1).1
    have gpl : GapL l := by rw [← el]; exact lex_gap a.2.1
    cases l with
    | nil => exact okl.elim
    | cons y r =>
      obtain ⟨t, g⟩ := y
      replace hl : 901 ≤ f + 1 + g := hl
      replace bn : N + 3 * (b2 - b) + 2 ≤ g := bn
      obtain ⟨h1, q1, e1, u1, a1, l1⟩ := c_M_takes (L := L) (scr := scr) (d := d) (s := 20) (by decide) a el
      have e1' : E L scr (d + 3) 210 [vR 900012 0, vL 28530] h' = some (some (vI (zb (decide (t = 20)))), h1) := e1
      by_cases ts : t = 20
      · rw [decide_eq_true ts] at e1'
        rw [if_pos ts] at l1
        have ok1 : OkL r := okl.2.elim (fun z => by omega) (fun z => z.2)
        cases r with
        | nil => exact ok1.elim
        | cons y r1 =>
          obtain ⟨t1, g1⟩ := y
          have gp1 : g + tkW t ≤ g1 := gpl.1
          have w1 : 2 ≤ tkW t := by rw [ts]; decide
          obtain ⟨h2, e2, u2, mo2⟩ := ih h1 b2 q1 t1 g1 r1 a1 l1 (by rw [u1.2 1306 0 (by decide), dd]; exact hdp) (by rw [u1.2 1302 0 (by decide)]; exact es) (by omega)
          have pl : pLoop 20 or one (f + 1) (.inl ((t, g) :: (t1, g1) :: r1, φ)) = pLoop 20 or one f (match one ((t1, g1) :: r1) with
            | .inr g => .inr g
            | .inl (r2, ψ) => .inl (r2, fun v => or (φ v) (ψ v))) := if_pos ts
          rw [pl]
          cases eo : one ((t1, g1) :: r1) with
          | inr g3 =>
            rw [eo] at mo2 e2
            have pf : ∀ f, pLoop 20 or one f (.inr g3) = .inr g3 := fun f => by cases f <;> rfl
            replace e2 : E L scr (d + 3) 217 [vR 900012 0] h1 = some (some (vI (zb false)), h2) := e2
            show ∃ h2, Sm L scr (d + 3) _ _ 1 _ [] h' (some (vI (zb (isOkC (pLoop 20 or one f (.inr g3))))), h2) ∧ _ ∧ MO h h2 v n D b N (pLoop 20 or one f (.inr g3))
            rw [pf f]
            obtain ⟨qz, z1, z2, z3⟩ := mo2
            have kk : KpS h h' b := kj
            refine ⟨h2, Sm.ret ?_, (u1.mono wcq1).tr u2, qz, z1, z2, (kk.tr (KpS.of b u1 (by decide)) (Nat.le_refl _)).tr z3 (by omega)⟩
            rw [t_M_any_1, e1', clI_ok, itT, e2, clI_ok, itF]; rfl
          | inl y =>
            obtain ⟨r2, ψ⟩ := y
            rw [eo] at mo2 e2
            replace e2 : E L scr (d + 3) 217 [vR 900012 0] h1 = some (some (vI (zb true)), h2) := e2
            obtain ⟨q2, b3, a2, l2, es2, bb2, bn2, dd2, kj2, aj2, sg2⟩ := mo2
            have ok2 : hdP r2 ≤ 900 := by
              have := (lex_ok (v := v) (p := q2) a2.1.1).1
              rw [l2] at this
              cases r2 with
              | nil => exact this.elim
              | cons y r3 => exact this.1
            obtain ⟨h3, e3, u3, s3, k1, k2, k3⟩ := c_M_puts (L := L) (scr := scr) (d := d + 2) 3 0 0 (by omega) es2
            have f1 : hI h1 1317002700 0 = hI h' 1317002700 0 := u1.2 _ _ (by decide)
            have f2 : hI h1 1318002700 0 = hI h' 1318002700 0 := u1.2 _ _ (by decide)
            have f3 : hI h1 1319002700 0 = hI h' 1319002700 0 := u1.2 _ _ (by decide)
            have f4 : hI h1 1306 0 = hI h' 1306 0 := u1.2 _ _ (by decide)
            have o1 : ∀ j, j < b2 → hI h3 1317002700 0 j = hI h' 1317002700 0 j ∧ hI h3 1318002700 0 j = hI h' 1318002700 0 j ∧ hI h3 1319002700 0 j = hI h' 1319002700 0 j := fun j hj => by
              obtain ⟨x1, x2, x3⟩ := kj2 j hj
              rw [k1, k2, k3, up_n (by omega), up_n (by omega), up_n (by omega), x1, x2, x3, f1, f2, f3]
              exact ⟨rfl, rfl, rfl⟩
            have o2 : ∀ j, j < b3 → hI h3 1317002700 0 j = hI h2 1317002700 0 j ∧ hI h3 1318002700 0 j = hI h2 1318002700 0 j ∧ hI h3 1319002700 0 j = hI h2 1319002700 0 j := fun j hj => by
              rw [k1, k2, k3, up_n (by omega), up_n (by omega), up_n (by omega)]
              exact ⟨rfl, rfl, rfl⟩
            obtain ⟨h4, s4, u4, mo4⟩ := ihf h3 r2 (fun v => or (φ v) (ψ v)) (by omega) ⟨q2, b3 + 1, ⟨TxV.fr u3 (by decide) a2.1, a2.2.1, by rw [u3.2 1305 0 (by decide)]; exact a2.2.2⟩, l2, s3, by omega, by omega, by rw [u3.2 1306 0 (by decide), dd2, f4, dd], fun j hj => by
              obtain ⟨x1, x2, x3⟩ := o1 j (by omega)
              obtain ⟨y1, y2, y3⟩ := kj j hj
              rw [x1, x2, x3, y1, y2, y3]; exact ⟨rfl, rfl, rfl⟩, fun j j1 j2 hj => by
              rcases Nat.lt_or_ge j b2 with c | c
              · obtain ⟨x1, x2, -⟩ := o1 j c
                rw [x1] at hj
                rw [x2]; exact aj j j1 c hj
              · rcases Nat.lt_or_ge j b3 with c3 | c3
                · obtain ⟨x1, x2, -⟩ := o2 j c3
                  rw [x1] at hj
                  rw [x2]; exact aj2 j c c3 hj
                · have : j = b3 := by omega
                  subst this
                  rw [k1, up_s] at hj
                  exact absurd (by decide) hj, fun w => by
              refine SegL.or (SegL.cong (sg w) (fun j j1 j2 => ?_)) (SegL.cong (sg2 w) (fun j j1 j2 => ?_)) (by omega) (by omega) ?_
              · obtain ⟨x1, x2, x3⟩ := o1 j j2
                show dcM w _ _ _ = dcM w _ _ _
                rw [x1, x2, x3]
              · obtain ⟨x1, x2, x3⟩ := o2 j j2
                show dcM w _ _ _ = dcM w _ _ _
                rw [x1, x2, x3]
              · show (dcM w (hI h3 1317002700 0 b3) _ _).1 = _
                rw [k1, up_s]; rfl⟩
            refine ⟨h4, Sm.step ?_ s4, (u1.mono wcq1).tr (u2.tr ((u3.mono wcq2).tr u4)), mo4⟩
            rw [t_M_any_1, e1', clI_ok, itT, e2, clI_ok, itT, e3, clV_ok]
      · rw [decide_eq_false ts] at e1'
        rw [if_neg ts] at l1
        have pl : pLoop 20 or one (f + 1) (.inl ((t, g) :: r, φ)) = .inl ((t, g) :: r, φ) := if_neg ts
        rw [pl]
        have f1 : hI h1 1317002700 0 = hI h' 1317002700 0 := u1.2 _ _ (by decide)
        have f2 : hI h1 1318002700 0 = hI h' 1318002700 0 := u1.2 _ _ (by decide)
        have f3 : hI h1 1319002700 0 = hI h' 1319002700 0 := u1.2 _ _ (by decide)
        refine ⟨h1, Sm.ret ?_, u1.mono wcq1, q1, b2, a1, l1, by rw [u1.2 1302 0 (by decide)]; exact es, bb, bn, by rw [u1.2 1306 0 (by decide)]; exact dd, fun j hj => by rw [f1, f2, f3]; exact kj j hj, fun j j1 j2 hj => by rw [f1] at hj; rw [f2]; exact aj j j1 j2 hj, fun w => SegL.cong (sg w) (fun j _ _ => by show dcM w _ _ _ = dcM w _ _ _; rw [f1, f2, f3])⟩
        rw [t_M_any_1, e1', clI_ok, itF]; rfl
end MLoop

/-! CONDITIONS, on the class's side: and, or -/
section CLoop
variable {L : Nat} {scr : Nat → Int32} {d : Nat}
theorem all_run {h : MH} {ls : List (Nat × Nat)} {m b g D : Nat} {one : List (Nat × Nat) → PC} (x2 : Int32) (b3 : 3 * b ≤ g) (hD : 2 ≤ D) (ih : ∀ (h : MH) (b : Nat) (l : List (Nat × Nat)), CP h ls (.inl l) → CdN h m b → GapL l → 3 * b ≤ hdP l → ∃ h2, E L scr (d + 1) 89 [vR 900006 0, vR 900005 m, vI x2] h = some (none, h2) ∧ Upd (WOne m) h h2 ∧ CT h h2 ls m (D - 1) b (hdP l) 0 (one l)) : ∀ (f i : Nat) (h' : MH) (x : PC), i + f = 900 → CT h h' ls m D b g 0 x → ∃ h2, Sm L scr (d + 1) B_Reader_readAll C_Reader_readAll 1 [some (vR 900006 0), some (vR 900005 m), some (vI x2), some (vI (nI i))] [] h' (none, h2) ∧ Upd (WOne m) h' h2 ∧ CT h h2 ls m D b g 0 (pLoop 21 and one f x) := by
  intro f
  induction f with
  | zero =>
    intro i h' x hi ct
    refine ⟨h', Sm.ret ?_, Upd.rf _ h', ct⟩
    rw [t_Reader_readAll_1, if_pos (show (900 : Int32) ≤ nI i from nI_le (a := 900) (by omega) (by omega))]
  | succ f ihf =>
    intro i h' x hi ct
    have n9 : ¬ (900 : Int32) ≤ nI i := nI_ge (b := 900) (by omega) (by decide)
    cases x with
    | inr g2 =>
      obtain ⟨c1, -⟩ := id ct
      obtain ⟨-, -, c3, c4, -⟩ := c1
      have ng : ¬ nI g2 = -1 := nI_ne1 (by omega)
      refine ⟨h', Sm.ret ?_, Upd.rf _ h', ct⟩
      rw [t_Reader_readAll_1, if_neg n9, c4, if_neg ng]
    | inl x =>
      obtain ⟨l, φ⟩ := x
      obtain ⟨cp, gp, b2, hb2, bb, by2, kj, sg⟩ := id ct
      have rf : hI h' 705 0 0 = -1 := by obtain ⟨-, -, i, -, -, -, c6⟩ := cp; exact c6
      obtain ⟨i1, t, ea, i9, et, tt, cu⟩ := cp.cur
      obtain ⟨g', r, er⟩ := cu _ rfl
      subst er
      have ob : ¬ oob (nI i1) 901 := oob_nI i9 (by decide)
      have ixi : ix (nI i1) = i1 := ix_nI (by omega)
      by_cases ts : t = 21
      · subst ts
        have et2 : hI h' 702000901 0 i1 = 21 := et
        obtain ⟨h1, e1, u1, c1⟩ := c_pass (L := L) (scr := scr) (d := d) cp (by decide)
        obtain ⟨-, ⟨z, -⟩ | ⟨-, ok1⟩⟩ := cp.hd
        · omega
        have gr : GapL r ∧ g' + 2 ≤ hdP r := by
          cases r with
          | nil => exact ok1.elim
          | cons q r2 => exact ⟨gp.2, by have := gp.1; have w : 2 ≤ tkW 21 := by decide
                                         show g' + 2 ≤ q.2; omega⟩
        replace by2 : g + 3 * (b2 - b) + 2 ≤ g' + 3 * 0 := by2
        obtain ⟨h2, e2, u2, ct2⟩ := ih h1 b2 r c1 (hb2.rd u1) gr.1 (by omega)
        have step : ∀ h3, E L scr (d + 1) 55 [vR 900005 m, vI (-2)] h2 = some (none, h3) → ∀ h4, Sm L scr (d + 1) B_Reader_readAll C_Reader_readAll 1 [some (vR 900006 0), some (vR 900005 m), some (vI x2), some (vI (nI (i + 1)))] [] h3 (none, h4) → Sm L scr (d + 1) B_Reader_readAll C_Reader_readAll 1 [some (vR 900006 0), some (vR 900005 m), some (vI x2), some (vI (nI i))] [] h' (none, h4) := fun h3 e3 h4 s => by
          refine Sm.step ?_ s
          rw [t_Reader_readAll_1, if_neg n9, rf, if_pos rfl, ea, rd_Reader_tokens ob, ixi, et2, if_pos rfl]
          have e1' : E L scr (d + 1) 77 [vR 900006 0, vI 21] h' = some (none, h1) := e1
          rw [e1', clV_ok, e2, clV_ok, e3, clV_ok, nI_1]
        have pl : pLoop 21 and one (f + 1) (.inl ((21, g') :: r, φ)) = pLoop 21 and one f (match one r with
          | .inr g => .inr g
          | .inl (r2, ψ) => .inl (r2, fun v => and (φ v) (ψ v))) := if_pos rfl
        rw [pl]
        cases eo : one r with
        | inr g3 =>
          rw [eo] at ct2
          obtain ⟨c2, b4, n4⟩ := ct2
          obtain ⟨h3, b5, e3, u3, n5⟩ := c_emitN (L := L) (scr := scr) (d := d) (-2) n4
          obtain ⟨h4, s4, u4, ct4⟩ := ihf (i + 1) h3 (.inr g3) (by omega) ⟨c2.fr u3 WLw_rd, b5, n5⟩
          exact ⟨h4, step h3 e3 h4 s4, (u1.mono WOne_l).tr (u2.tr ((u3.mono WOne_r).tr u4)), ct4⟩
        | inl y =>
          obtain ⟨r2, ψ⟩ := y
          rw [eo] at ct2
          obtain ⟨c2, gp2, b4, n4, bb4, by4, kj4, sg4⟩ := ct2
          have h9 : hdP r2 ≤ 900 := by
            cases r2 with
            | nil => exact Nat.zero_le _
            | cons q r3 => exact c2.hd.1
          obtain ⟨h3, e3, u3, ⟨b41, n5, k5⟩ | ⟨b41, -⟩⟩ := c_emit (L := L) (scr := scr) (d := d) (-2) n4
          · have cd1 : hI h1 616000300 m = hI h' 616000300 m := u1.2 _ _ WRd_cd.1
            obtain ⟨h4, s4, u4, ct4⟩ := ihf (i + 1) h3 (.inl (r2, fun v => and (φ v) (ψ v))) (by omega) ⟨c2.fr u3 WLw_rd, gp2, b4 + 1, ⟨by omega, n5⟩, by omega, by omega, fun j hj => by
              rw [k5, up_n (by omega), kj4 j (by omega), cd1, kj j hj], fun v => by
              have s1 : SegL (fun j => dcC v (hI h3 616000300 m j)) D b b2 (φ v) := by
                have := sg v
                rw [if_neg (by decide)] at this
                refine SegL.cong this (fun q q1 q2 => ?_)
                show dcC v (hI h3 616000300 m q) = dcC v (hI h' 616000300 m q)
                rw [k5, up_n (by omega), kj4 q q2, cd1]
              have s2 : SegL (fun j => dcC v (hI h3 616000300 m j)) (D - 1) b2 b4 (ψ v) := by
                have := sg4 v
                rw [if_neg (by decide)] at this
                refine SegL.cong this (fun q q1 q2 => ?_)
                show dcC v (hI h3 616000300 m q) = dcC v (hI h2 616000300 m q)
                rw [k5, up_n (by omega)]
              rw [if_neg (by decide)]
              exact SegL.and s1 s2 (by omega) (by omega) (by
                show (dcC v (hI h3 616000300 m b4)).1 = _
                rw [k5, up_s]; rfl)⟩
            exact ⟨h4, step h3 e3 h4 s4, (u1.mono WOne_l).tr (u2.tr ((u3.mono WOne_r).tr u4)), ct4⟩
          · omega
      · have pl : pLoop 21 and one (f + 1) (.inl ((t, g') :: r, φ)) = .inl ((t, g') :: r, φ) := if_neg ts
        refine ⟨h', Sm.ret ?_, Upd.rf _ h', by rw [pl]; exact ct⟩
        rw [t_Reader_readAll_1, if_neg n9, rf, if_pos rfl, ea, rd_Reader_tokens ob, ixi, et, if_neg (show ¬ tkI t = 21 from fun z => ts ((tkI_eq (c := 21) tt (by decide)).mp z))]
theorem any_run {h : MH} {ls : List (Nat × Nat)} {m b g D : Nat} {one : List (Nat × Nat) → PC} (x2 : Int32) (b3 : 3 * b ≤ g) (hD : 2 ≤ D) (ih : ∀ (h : MH) (b : Nat) (l : List (Nat × Nat)), CP h ls (.inl l) → CdN h m b → GapL l → 3 * b ≤ hdP l → ∃ h2, E L scr (d + 1) 88 [vR 900006 0, vR 900005 m, vI x2] h = some (none, h2) ∧ Upd (WOne m) h h2 ∧ CT h h2 ls m (D - 1) b (hdP l) 0 (one l)) : ∀ (f i : Nat) (h' : MH) (x : PC), i + f = 900 → CT h h' ls m D b g 0 x → ∃ h2, Sm L scr (d + 1) B_Reader_readAny C_Reader_readAny 1 [some (vR 900006 0), some (vR 900005 m), some (vI x2), some (vI (nI i))] [] h' (none, h2) ∧ Upd (WOne m) h' h2 ∧ CT h h2 ls m D b g 0 (pLoop 20 or one f x) := by
  intro f
  induction f with
  | zero =>
    intro i h' x hi ct
    refine ⟨h', Sm.ret ?_, Upd.rf _ h', ct⟩
    rw [t_Reader_readAny_1, if_pos (show (900 : Int32) ≤ nI i from nI_le (a := 900) (by omega) (by omega))]
  | succ f ihf =>
    intro i h' x hi ct
    have n9 : ¬ (900 : Int32) ≤ nI i := nI_ge (b := 900) (by omega) (by decide)
    cases x with
    | inr g2 =>
      obtain ⟨c1, -⟩ := id ct
      obtain ⟨-, -, c3, c4, -⟩ := c1
      have ng : ¬ nI g2 = -1 := nI_ne1 (by omega)
      refine ⟨h', Sm.ret ?_, Upd.rf _ h', ct⟩
      rw [t_Reader_readAny_1, if_neg n9, c4, if_neg ng]
    | inl x =>
      obtain ⟨l, φ⟩ := x
      obtain ⟨cp, gp, b2, hb2, bb, by2, kj, sg⟩ := id ct
      have rf : hI h' 705 0 0 = -1 := by obtain ⟨-, -, i, -, -, -, c6⟩ := cp; exact c6
      obtain ⟨i1, t, ea, i9, et, tt, cu⟩ := cp.cur
      obtain ⟨g', r, er⟩ := cu _ rfl
      subst er
      have ob : ¬ oob (nI i1) 901 := oob_nI i9 (by decide)
      have ixi : ix (nI i1) = i1 := ix_nI (by omega)
      by_cases ts : t = 20
      · subst ts
        have et2 : hI h' 702000901 0 i1 = 20 := et
        obtain ⟨h1, e1, u1, c1⟩ := c_pass (L := L) (scr := scr) (d := d) cp (by decide)
        obtain ⟨-, ⟨z, -⟩ | ⟨-, ok1⟩⟩ := cp.hd
        · omega
        have gr : GapL r ∧ g' + 2 ≤ hdP r := by
          cases r with
          | nil => exact ok1.elim
          | cons q r2 => exact ⟨gp.2, by have := gp.1; have w : 2 ≤ tkW 20 := by decide
                                         show g' + 2 ≤ q.2; omega⟩
        replace by2 : g + 3 * (b2 - b) + 2 ≤ g' + 3 * 0 := by2
        obtain ⟨h2, e2, u2, ct2⟩ := ih h1 b2 r c1 (hb2.rd u1) gr.1 (by omega)
        have step : ∀ h3, E L scr (d + 1) 55 [vR 900005 m, vI (-3)] h2 = some (none, h3) → ∀ h4, Sm L scr (d + 1) B_Reader_readAny C_Reader_readAny 1 [some (vR 900006 0), some (vR 900005 m), some (vI x2), some (vI (nI (i + 1)))] [] h3 (none, h4) → Sm L scr (d + 1) B_Reader_readAny C_Reader_readAny 1 [some (vR 900006 0), some (vR 900005 m), some (vI x2), some (vI (nI i))] [] h' (none, h4) := fun h3 e3 h4 s => by
          refine Sm.step ?_ s
          rw [t_Reader_readAny_1, if_neg n9, rf, if_pos rfl, ea, rd_Reader_tokens ob, ixi, et2, if_pos rfl]
          have e1' : E L scr (d + 1) 77 [vR 900006 0, vI 20] h' = some (none, h1) := e1
          rw [e1', clV_ok, e2, clV_ok, e3, clV_ok, nI_1]
        have pl : pLoop 20 or one (f + 1) (.inl ((20, g') :: r, φ)) = pLoop 20 or one f (match one r with
          | .inr g => .inr g
          | .inl (r2, ψ) => .inl (r2, fun v => or (φ v) (ψ v))) := if_pos rfl
        rw [pl]
        cases eo : one r with
        | inr g3 =>
          rw [eo] at ct2
          obtain ⟨c2, b4, n4⟩ := ct2
          obtain ⟨h3, b5, e3, u3, n5⟩ := c_emitN (L := L) (scr := scr) (d := d) (-3) n4
          obtain ⟨h4, s4, u4, ct4⟩ := ihf (i + 1) h3 (.inr g3) (by omega) ⟨c2.fr u3 WLw_rd, b5, n5⟩
          exact ⟨h4, step h3 e3 h4 s4, (u1.mono WOne_l).tr (u2.tr ((u3.mono WOne_r).tr u4)), ct4⟩
        | inl y =>
          obtain ⟨r2, ψ⟩ := y
          rw [eo] at ct2
          obtain ⟨c2, gp2, b4, n4, bb4, by4, kj4, sg4⟩ := ct2
          have h9 : hdP r2 ≤ 900 := by
            cases r2 with
            | nil => exact Nat.zero_le _
            | cons q r3 => exact c2.hd.1
          obtain ⟨h3, e3, u3, ⟨b41, n5, k5⟩ | ⟨b41, -⟩⟩ := c_emit (L := L) (scr := scr) (d := d) (-3) n4
          · have cd1 : hI h1 616000300 m = hI h' 616000300 m := u1.2 _ _ WRd_cd.1
            obtain ⟨h4, s4, u4, ct4⟩ := ihf (i + 1) h3 (.inl (r2, fun v => or (φ v) (ψ v))) (by omega) ⟨c2.fr u3 WLw_rd, gp2, b4 + 1, ⟨by omega, n5⟩, by omega, by omega, fun j hj => by
              rw [k5, up_n (by omega), kj4 j (by omega), cd1, kj j hj], fun v => by
              have s1 : SegL (fun j => dcC v (hI h3 616000300 m j)) D b b2 (φ v) := by
                have := sg v
                rw [if_neg (by decide)] at this
                refine SegL.cong this (fun q q1 q2 => ?_)
                show dcC v (hI h3 616000300 m q) = dcC v (hI h' 616000300 m q)
                rw [k5, up_n (by omega), kj4 q q2, cd1]
              have s2 : SegL (fun j => dcC v (hI h3 616000300 m j)) (D - 1) b2 b4 (ψ v) := by
                have := sg4 v
                rw [if_neg (by decide)] at this
                refine SegL.cong this (fun q q1 q2 => ?_)
                show dcC v (hI h3 616000300 m q) = dcC v (hI h2 616000300 m q)
                rw [k5, up_n (by omega)]
              rw [if_neg (by decide)]
              exact SegL.or s1 s2 (by omega) (by omega) (by
                show (dcC v (hI h3 616000300 m b4)).1 = _
                rw [k5, up_s]; rfl)⟩
            exact ⟨h4, step h3 e3 h4 s4, (u1.mono WOne_l).tr (u2.tr ((u3.mono WOne_r).tr u4)), ct4⟩
          · omega
      · have pl : pLoop 20 or one (f + 1) (.inl ((t, g') :: r, φ)) = .inl ((t, g') :: r, φ) := if_neg ts
        refine ⟨h', Sm.ret ?_, Upd.rf _ h', by rw [pl]; exact ct⟩
        rw [t_Reader_readAny_1, if_neg n9, rf, if_pos rfl, ea, rd_Reader_tokens ob, ixi, et, if_neg (show ¬ tkI t = 20 from fun z => ts ((tkI_eq (c := 20) tt (by decide)).mp z))]
end CLoop

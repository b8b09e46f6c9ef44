/-! CONDITIONS, on the class's side: a test -/
/-- what a test leaves, behind c words not -/
def CT (h h2 : MH) (ls : List (Nat × Nat)) (m D b g c : Nat) : PC → Prop
  | .inr g2 => CP h2 ls (.inr g2) ∧ ∃ b2, CdN h2 m b2
  | .inl (r, φ) => CP h2 ls (.inl r) ∧ GapL r ∧ ∃ b2, CdN h2 m b2 ∧ b < b2 ∧ g + 3 * (b2 - b) + 2 ≤ hdP r + 3 * c ∧ (∀ j, j < b → hI h2 616000300 m j = hI h 616000300 m j) ∧ ∀ v, SegL (fun j => dcC v (hI h2 616000300 m j)) D b b2 (if c % 2 = 1 then !(φ v) else φ v)
theorem pTest_w {t g : Nat} {r : List (Nat × Nat)} (h : ¬ t < 8) : pTest ((t, g) :: r) = .inr g := by
  cases r with
  | nil => rfl
  | cons q r =>
    cases r with
    | nil => show (if t < 8 then _ else _) = _; rw [if_neg h]
    | cons q2 r => show (if t < 8 then _ else _) = _; rw [if_neg h]
theorem pTest_s {t g s g2 : Nat} {r : List (Nat × Nat)} (h : t < 8) (hs : ¬ (60 ≤ s ∧ s ≤ 62)) : pTest ((t, g) :: (s, g2) :: r) = .inr g2 := by
  cases r with
  | nil => show (if t < 8 then _ else _) = _; rw [if_pos h]
  | cons q2 r => show (if t < 8 then (if 60 ≤ s ∧ s ≤ 62 then _ else _) else _) = _; rw [if_pos h, if_neg hs]
theorem pTest_k {t g s g2 k g3 : Nat} {r : List (Nat × Nat)} (h : t < 8) (hs : 60 ≤ s ∧ s ≤ 62) : pTest ((t, g) :: (s, g2) :: (k, g3) :: r) = if 1000 ≤ k ∧ k < 2000 then .inl (r, tstF t s (k - 1000)) else .inr g3 := by
  show (if t < 8 then (if 60 ≤ s ∧ s ≤ 62 then _ else _) else _) = _
  rw [if_pos h, if_pos hs]
section CTest2
variable {L : Nat} {scr : Nat → Int32} {d : Nat}
theorem c_isCmpT {t : Nat} (ht : t = 4000 ∨ TokT t) (h : MH) : E L scr (d + 1) 71 [vI (tkI t)] h = some (some (vI (zb (decide (60 ≤ t ∧ t ≤ 62)))), h) := by
  refine r_Reader_isComparison _ _ (Sm.ret ?_)
  have k0 := tkI_eq (c := 60) ht (by decide)
  have k1 := tkI_eq (c := 61) ht (by decide)
  have k2 := tkI_eq (c := 62) ht (by decide)
  rw [t_Reader_isComparison_0]
  by_cases a : tkI t = 60
  · have := k0.mp a
    rw [if_pos a, decide_eq_true (show 60 ≤ t ∧ t ≤ 62 by omega)]; rfl
  · have na : t ≠ 60 := fun z => a (k0.mpr z)
    rw [if_neg a]
    by_cases b : tkI t = 61
    · have := k1.mp b
      rw [if_pos b, decide_eq_true (show 60 ≤ t ∧ t ≤ 62 by omega)]; rfl
    · have nb : t ≠ 61 := fun z => b (k1.mpr z)
      rw [if_neg b]
      by_cases e : tkI t = 62
      · have := k2.mp e
        rw [if_pos e, decide_eq_true (show 60 ≤ t ∧ t ≤ 62 by omega)]; rfl
      · have ne : t ≠ 62 := fun z => e (k2.mpr z)
        rw [if_neg e, decide_eq_false (show ¬ (60 ≤ t ∧ t ≤ 62) by omega)]; rfl
/-- a token passed -/
theorem c_pass {h : MH} {ls r : List (Nat × Nat)} {t g : Nat} (cp : CP h ls (.inl ((t, g) :: r))) (ht : t < 2000) : ∃ h2, E L scr (d + 1) 77 [vR 900006 0, vI (nI t)] h = some (none, h2) ∧ Upd WRd h h2 ∧ CP h2 ls (.inl r) := by
  obtain ⟨h1, e1, u1, c1⟩ := c_takeN (L := L) (scr := scr) (d := d) cp ht
  refine ⟨h1, e1, u1, ?_⟩
  have z : tkP (fun t2 => decide (t2 = t)) (.inl ((t, g) :: r)) = .inl r := by
    show (if decide (t = t) = true then _ else _) = _
    rw [if_pos (decide_eq_true rfl)]
  rw [z] at c1; exact c1
theorem one_T {h : MH} {ls r : List (Nat × Nat)} {m b o c t g D : Nat} (hc : c ≤ 9) (oc : o + c ≤ 8) (cp : CP h ls (.inl ((t, g) :: r))) (hb : CdN h m b) (gp : GapL ((t, g) :: r)) (h40 : o + c = 8 ∨ t ≠ 40) (b3 : 3 * b + 3 * c ≤ g) (hD : 1 ≤ D) (z4 z5 z6 : Option MV) : ∃ h2, Sm L scr (d + 1) B_Reader_readOne C_Reader_readOne 2 [some (vR 900006 0), some (vR 900005 m), some (vI (nI o)), some (vI (nI (o + c))), z4, z5, z6] [] h (none, h2) ∧ Upd (WOne m) h h2 ∧ CT h h2 ls m D b g c (pTest ((t, g) :: r)) := by
  obtain ⟨g9, tt⟩ := cp.hd
  have tt2 : t = 4000 ∨ TokT t := tt.elim (fun z => Or.inl z.1) (fun z => Or.inr z.1)
  obtain ⟨i, t', ea, i9, et, -, cu⟩ := cp.cur
  obtain ⟨g', r', er'⟩ := cu _ rfl
  have e6 : t = t' := congrArg (fun l : List (Nat × Nat) => (l.headD (0, 0)).1) er'
  rw [← e6] at et
  have ob : ¬ oob (nI i) 901 := oob_nI i9 (by decide)
  have ixi : ix (nI i) = i := ix_nI (by omega)
  have rf : hI h 705 0 0 = -1 := by obtain ⟨-, -, i, -, -, -, c6⟩ := cp; exact c6
  obtain ⟨k1, hk⟩ : ∃ k1 : Int32, k1 = if tkI t < 0 then -3 else if (8 : Int32) ≤ tkI t then -3 else tkI t := ⟨_, rfl⟩
  have st2 : ∀ h2, Sm L scr (d + 1) B_Reader_readOne C_Reader_readOne 5 [some (vR 900006 0), some (vR 900005 m), some (vI (nI o)), some (vI (nI (o + c))), some (vI (tkI t)), z5, z6] [vI k1, vR 900006 0] h (none, h2) → Sm L scr (d + 1) B_Reader_readOne C_Reader_readOne 2 [some (vR 900006 0), some (vR 900005 m), some (vI (nI o)), some (vI (nI (o + c))), z4, z5, z6] [] h (none, h2) := fun h2 s => by
    refine Sm.step ?_ s
    rw [t_Reader_readOne_2, ea, rd_Reader_tokens ob, ixi, et, rf, if_pos rfl]
    have n40 : o + c = 8 ∨ ¬ tkI t = 40 := h40.imp id (fun z y => z ((tkI_eq (c := 40) tt2 (by decide)).mp y))
    by_cases o8 : (8 : Int32) ≤ nI (o + c)
    · rw [if_pos o8]
      by_cases x0 : tkI t < 0
      · rw [if_pos x0] at hk ⊢
        rw [hk]
      · rw [if_neg x0] at hk ⊢
        by_cases x8 : (8 : Int32) ≤ tkI t
        · rw [if_pos x8] at hk ⊢
          rw [hk]
        · rw [if_neg x8] at hk ⊢
          rw [hk]
    · rw [if_neg o8]
      have n4 : ¬ tkI t = 40 := n40.resolve_left (fun z => o8 (by rw [z]; decide))
      rw [rd_Reader_tokens ob, ixi, et, if_neg n4]
      by_cases x0 : tkI t < 0
      · rw [if_pos x0] at hk ⊢
        rw [hk]
      · rw [if_neg x0] at hk ⊢
        by_cases x8 : (8 : Int32) ≤ tkI t
        · rw [if_pos x8] at hk ⊢
          rw [hk]
        · rw [if_neg x8] at hk ⊢
          rw [hk]
  by_cases t8 : t < 8
  · have ek : tkI t = nI t := by unfold tkI; rw [if_neg (by omega), if_neg (by omega)]
    have hk2 : k1 = nI t := by
      rw [hk, ek, if_neg (show ¬ nI t < 0 from nlt0.mpr (nI_le (a := 0) (by omega) (by omega))), if_neg (show ¬ (8 : Int32) ≤ nI t from nI_ge (b := 8) t8 (by decide))]
    obtain ⟨h1, e1, u1, c1⟩ := c_pass (L := L) (scr := scr) (d := d) cp (by omega)
    have ok1 : OkL r := tt.elim (fun z => by omega) (fun z => z.2)
    cases r with
    | nil => exact ok1.elim
    | cons q r2 =>
      obtain ⟨s, g2⟩ := q
      obtain ⟨gp1, gp2⟩ := gp
      have tw : tkW t = 3 := by unfold tkW; rw [if_pos (by omega), if_neg (by omega)]
      obtain ⟨g29, ts⟩ := c1.hd
      have ts2 : s = 4000 ∨ TokT s := ts.elim (fun z => Or.inl z.1) (fun z => Or.inr z.1)
      obtain ⟨i1, s', ea1, i19, et1, -, cu1⟩ := c1.cur
      obtain ⟨g', r', er'⟩ := cu1 _ rfl
      have e7 : s = s' := congrArg (fun l : List (Nat × Nat) => (l.headD (0, 0)).1) er'
      rw [← e7] at et1
      have ob1 : ¬ oob (nI i1) 901 := oob_nI i19 (by decide)
      have ixi1 : ix (nI i1) = i1 := ix_nI (by omega)
      by_cases cs : 60 ≤ s ∧ s ≤ 62
      · have es : tkI s = nI s := by unfold tkI; rw [if_neg (by omega), if_neg (by omega)]
        obtain ⟨h2, e2, u2, c2⟩ := c_pass (L := L) (scr := scr) (d := d) c1 (by omega)
        have ok2 : OkL r2 := ts.elim (fun z => by omega) (fun z => z.2)
        cases r2 with
        | nil => exact ok2.elim
        | cons q r3 =>
          obtain ⟨k, g3⟩ := q
          obtain ⟨gp3, gp4⟩ := gp2
          have tw2 : tkW s = 1 := by unfold tkW; rw [if_neg (by omega)]
          obtain ⟨i2, k', ea2, i29, et2, -, cu2⟩ := c2.cur
          obtain ⟨g', r', er'⟩ := cu2 _ rfl
          have e8 : k = k' := congrArg (fun l : List (Nat × Nat) => (l.headD (0, 0)).1) er'
          rw [← e8] at et2
          have ob2 : ¬ oob (nI i2) 901 := oob_nI i29 (by decide)
          have ixi2 : ix (nI i2) = i2 := ix_nI (by omega)
          obtain ⟨x, hx⟩ : ∃ x : Int32, x = if tkI k < 1000 then -3 else tkI k := ⟨_, rfl⟩
          obtain ⟨h3, s3, u3, o3⟩ := one_9 (L := L) (scr := scr) (d := d) (o := o) (D := D) hc c2 ((hb.rd u1).rd u2) gp4 t8 cs b3 (by omega) hD x hx
          have cd : hI h2 616000300 m = hI h 616000300 m := by rw [u2.2 _ _ WRd_cd.1, u1.2 _ _ WRd_cd.1]
          refine ⟨h3, st2 h3 (Sm.step ?_ s3), (u1.mono WOne_l).tr ((u2.mono WOne_l).tr u3), ?_⟩
          · rw [t_Reader_readOne_5, hk2, e1, clV_ok, ea1, rd_Reader_tokens ob1, ixi1, et1, c_isCmpT ts2, clI_ok, decide_eq_true cs, itT, es, e2, clV_ok, ea2, rd_Reader_tokens ob2, ixi2, et2, ek]
            by_cases y : tkI k < 1000
            · rw [if_pos y] at hx ⊢
              rw [hx]
            · rw [if_neg y] at hx ⊢
              rw [hx]
          · rw [pTest_k t8 cs]
            by_cases kk : 1000 ≤ k ∧ k < 2000
            · rw [if_pos kk] at o3 ⊢
              obtain ⟨o1, o2, b2, n2, eb, hd, kj, sg⟩ := o3
              exact ⟨o1, o2, b2, n2, by omega, by omega, fun j hj => by rw [kj j hj, cd], sg⟩
            · rw [if_neg kk] at o3 ⊢
              exact o3
      · obtain ⟨h2, e2, u2, c2⟩ := c_takeX (L := L) (scr := scr) (d := d) c1
        replace c2 : CP h2 ls (.inr g2) := c2
        obtain ⟨i2, k, ea2, i29, et2, -, -⟩ := c2.cur
        have ob2 : ¬ oob (nI i2) 901 := oob_nI i29 (by decide)
        have ixi2 : ix (nI i2) = i2 := ix_nI (by omega)
        obtain ⟨x, hx⟩ : ∃ x : Int32, x = if tkI k < 1000 then -3 else tkI k := ⟨_, rfl⟩
        obtain ⟨h3, b3', s3, u3, n3⟩ := one_9R (L := L) (scr := scr) (d := d) c2 ((hb.rd u1).rd u2) (nI o) (nI (o + c)) (tkI t) (tkI s) (tkI k) x
        refine ⟨h3, st2 h3 (Sm.step ?_ s3), (u1.mono WOne_l).tr ((u2.mono WOne_l).tr (u3.mono WOne_r)), ?_⟩
        · rw [t_Reader_readOne_5, hk2, e1, clV_ok, ea1, rd_Reader_tokens ob1, ixi1, et1, c_isCmpT ts2, clI_ok, decide_eq_false cs, itF, e2, clV_ok, ea2, rd_Reader_tokens ob2, ixi2, et2]
          by_cases y : tkI k < 1000
          · rw [if_pos y] at hx ⊢
            rw [hx]
          · rw [if_neg y] at hx ⊢
            rw [hx]
        · rw [pTest_s t8 cs]
          exact ⟨c2.fr u3 WLw_rd, b3', n3⟩
  · have hk2 : k1 = -3 := by
      rw [hk]
      rcases tk_small tt2 with ⟨z1, z2⟩ | ⟨z1, z2⟩ | ⟨z1, z2⟩
      · rw [z2]; rfl
      · rw [z2]; rfl
      · rw [z2, if_neg (show ¬ nI t < 0 from nlt0.mpr (nI_le (a := 0) (by omega) (by omega))), if_pos (show (8 : Int32) ≤ nI t from nI_le (a := 8) (by omega) (by omega))]
    obtain ⟨h1, e1, u1, c1⟩ := c_takeX (L := L) (scr := scr) (d := d) cp
    replace c1 : CP h1 ls (.inr g) := c1
    obtain ⟨h2, b2, s2, u2, n2⟩ := one_5R (L := L) (scr := scr) (d := d) c1 (hb.rd u1) (nI o) (nI (o + c)) (tkI t) (-3) z5 z6
    refine ⟨h2, st2 h2 (Sm.same ?_ s2), (u1.mono WOne_l).tr (u2.mono WOne_r), ?_⟩
    · rw [t_Reader_readOne_5, t_Reader_readOne_5, hk2, e1, c_takeR c1, clV_ok]
    · rw [pTest_w t8]
      exact ⟨c1.fr u2 WLw_rd, b2, n2⟩
end CTest2

/-! NUMBERS TAKEN, on the class's side -/
/-- the token that stands there -/
theorem CP.cur {h : MH} {ls : List (Nat × Nat)} {st : PSt} (c : CP h ls st) : ∃ i t, hI h 704 0 0 = nI i ∧ i < 901 ∧ hI h 702000901 0 i = tkI t ∧ (t = 4000 ∨ TokT t) ∧ (∀ l, st = .inl l → ∃ g r, l = (t, g) :: r) := by
  cases st with
  | inr g =>
    obtain ⟨c1, c2, c3, c4, i, t, q, c5, c7, c6⟩ := c
    have il : i < ls.length := (List.getElem?_eq_some_iff.mp c5).1
    have := (c2 i _ c5).1
    rw [Nat.zero_add] at this
    exact ⟨i, t, c6, by omega, this, c7, fun l z => nomatch z⟩
  | inl l =>
    obtain ⟨c1, c2, i, c3, c4, c5, c6⟩ := c
    cases l with
    | nil => exact c4.elim
    | cons q r =>
      obtain ⟨t, g⟩ := q
      obtain ⟨d1, d2, d3⟩ := drop_h c3
      have := (c2 i _ d1).1
      rw [Nat.zero_add] at this
      obtain ⟨g9, tt⟩ := c4
      exact ⟨i, t, c5, by omega, this, tt.elim (fun z => Or.inl z.1) (fun z => Or.inr z.1), fun l z => ⟨g, r, (Sum.inl.inj z).symm⟩⟩
theorem tk_small {t : Nat} (ht : t = 4000 ∨ TokT t) : (t = 3000 ∧ tkI t = -2) ∨ (t = 4000 ∧ tkI t = -1) ∨ (t < 2000 ∧ tkI t = nI t) := by
  unfold tkI
  by_cases a : t = 3000
  · rw [if_pos a]; exact Or.inl ⟨a, rfl⟩
  · rw [if_neg a]
    by_cases b : t = 4000
    · rw [if_pos b]; exact Or.inr (Or.inl ⟨b, rfl⟩)
    · rw [if_neg b]; exact Or.inr (Or.inr ⟨by omega, rfl⟩)
theorem tk_num {t : Nat} (ht : t = 4000 ∨ TokT t) : ∃ z : Int, (tkI t - 1000).toInt = z ∧ ((t < 2000 ∧ z = (t : Int) - 1000) ∨ (2000 ≤ t ∧ z < -1000)) := by
  rcases tk_small ht with ⟨a, b⟩ | ⟨a, b⟩ | ⟨a, b⟩
  · exact ⟨-1002, by rw [b]; rfl, Or.inr ⟨by omega, by decide⟩⟩
  · exact ⟨-1001, by rw [b]; rfl, Or.inr ⟨by omega, by decide⟩⟩
  · refine ⟨(t : Int) - 1000, ?_, Or.inl ⟨a, rfl⟩⟩
    rw [b]
    exact nI_sub_toInt (b := 1000) (by omega) (by decide)
theorem tkP_eq {p q : Nat → Bool} {st : PSt} (h : ∀ l, st = .inl l → ∃ t g r, l = (t, g) :: r ∧ p t = q t) : tkP p st = tkP q st := by
  cases st with
  | inr g => rfl
  | inl l =>
    obtain ⟨t, g, r, rfl, e⟩ := h l rfl
    show (if p t = true then _ else _) = if q t = true then _ else _
    rw [e]
section CNum
variable {L : Nat} {scr : Nat → Int32} {d : Nat}
theorem c_takeNumber {lo hi : Nat} (hl : lo ≤ hi) (hh : hi ≤ 999) {h : MH} {ls : List (Nat × Nat)} {st : PSt} (c : CP h ls st) : ∃ h2 w, E L scr (d + 2) 78 [vR 900006 0, vI (nI lo), vI (nI hi)] h = some (some (vI (nI w)), h2) ∧ Upd WRd h h2 ∧ CP h2 ls (tkP (isNm lo hi) st) ∧ lo ≤ w ∧ w ≤ hi ∧ ∀ t g r, st = .inl ((t, g) :: r) → isNm lo hi t = true → w = t - 1000 := by
  obtain ⟨i, t, ea, i9, et, tt, cu⟩ := c.cur
  have ob : ¬ oob (nI i) 901 := oob_nI i9 (by decide)
  have ixi : ix (nI i) = i := ix_nI (by omega)
  obtain ⟨z, ez, hz⟩ := tk_num tt
  have il : (nI lo).toInt = lo := nI_toInt (by omega)
  have ih : (nI hi).toInt = hi := nI_toInt (by omega)
  have no : isNm lo hi t = false → ∃ h2, E L scr (d + 1) 77 [vR 900006 0, vI (-3)] h = some (none, h2) ∧ Upd WRd h h2 ∧ CP h2 ls (tkP (isNm lo hi) st) := fun nn => by
    obtain ⟨h2, e2, u2, c2⟩ := c_takeX (L := L) (scr := scr) (d := d) c
    refine ⟨h2, e2, u2, ?_⟩
    rw [tkP_eq (p := isNm lo hi) (q := fun _ => false) (fun l e => by obtain ⟨g, r, e3⟩ := cu l e; exact ⟨t, g, r, e3, nn⟩)]
    exact c2
  have bad : isNm lo hi t = false → ∀ t2 g r, st = .inl ((t2, g) :: r) → isNm lo hi t2 = true → lo = t2 - 1000 := fun nn t2 g r e y => by
    obtain ⟨g2, r2, e3⟩ := cu _ e
    injection e3 with e4 e5
    injection e4 with e6 e7
    rw [e6, nn] at y; cases y
  by_cases a : tkI t - 1000 < nI lo
  · have nn : isNm lo hi t = false := decide_eq_false (fun y => by
      rw [Int32.lt_iff_toInt_lt, ez, il] at a
      omega)
    obtain ⟨h2, e2, u2, c2⟩ := no nn
    refine ⟨h2, lo, r_Reader_takeNumber (d := d + 1) _ _ _ _ (Sm.ret ?_), u2, c2, Nat.le_refl _, hl, bad nn⟩
    rw [t_Reader_takeNumber_0, ea, rd_Reader_tokens ob, ixi, et, if_pos a, if_pos rfl, e2, clV_ok, if_pos rfl]
  · by_cases b : nI hi < tkI t - 1000
    · have nn : isNm lo hi t = false := decide_eq_false (fun y => by
        rw [Int32.lt_iff_toInt_lt, ez, ih] at b
        omega)
      obtain ⟨h2, e2, u2, c2⟩ := no nn
      refine ⟨h2, lo, r_Reader_takeNumber (d := d + 1) _ _ _ _ (Sm.ret ?_), u2, c2, Nat.le_refl _, hl, bad nn⟩
      rw [t_Reader_takeNumber_0, ea, rd_Reader_tokens ob, ixi, et, if_neg a, if_pos b, if_pos rfl, e2, clV_ok, if_pos rfl]
    · rw [Int32.lt_iff_toInt_lt, ez, il] at a
      rw [Int32.lt_iff_toInt_lt, ez, ih] at b
      have t2 : t < 2000 := by omega
      have yy : isNm lo hi t = true := decide_eq_true (by omega)
      have ev : tkI t = nI t := by
        rcases tk_small tt with ⟨x, y⟩ | ⟨x, y⟩ | ⟨x, y⟩
        · omega
        · omega
        · exact y
      obtain ⟨h2, e2, u2, c2⟩ := c_takeN (L := L) (scr := scr) (d := d) c t2
      have na : ¬ tkI t - 1000 < nI lo := fun y => by rw [Int32.lt_iff_toInt_lt, ez, il] at y; omega
      have nb : ¬ nI hi < tkI t - 1000 := fun y => by rw [Int32.lt_iff_toInt_lt, ez, ih] at y; omega
      have es : tkI t - 1000 = nI (t - 1000) := by rw [ev]; exact nI_sub (b := 1000) (by omega)
      refine ⟨h2, t - 1000, r_Reader_takeNumber (d := d + 1) _ _ _ _ (Sm.ret ?_), u2, ?_, by omega, by omega, fun t3 g r e y => ?_⟩
      · rw [t_Reader_takeNumber_0, ea, rd_Reader_tokens ob, ixi, et, if_neg na, if_neg nb, if_neg (by decide), rd_Reader_tokens ob, ixi, et, ev, e2, clV_ok, if_neg (by decide), ← ev, es]
      · rw [tkP_eq (p := isNm lo hi) (q := fun t2 => decide (t2 = t)) (fun l e => by obtain ⟨g, r, e3⟩ := cu l e; exact ⟨t, g, r, e3, by rw [yy]; exact (decide_eq_true rfl).symm⟩)]
        exact c2
      · obtain ⟨g2, r2, e3⟩ := cu _ e
        have e6 : t3 = t := congrArg (fun l : List (Nat × Nat) => (l.headD (0, 0)).1) e3
        rw [e6]
end CNum

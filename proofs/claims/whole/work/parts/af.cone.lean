/-! CONDITIONS, on the class's side: all of them -/
theorem CT.mono {h h2 : MH} {ls : List (Nat × Nat)} {m D D2 b g c : Nat} {x : PC} (hD : D ≤ D2) (t : CT h h2 ls m D b g c x) : CT h h2 ls m D2 b g c x := by
  cases x with
  | inr g2 => exact t
  | inl y =>
    obtain ⟨r, φ⟩ := y
    obtain ⟨c1, c2, b2, c3, c4, c5, c6, c7⟩ := t
    exact ⟨c1, c2, b2, c3, c4, c5, c6, fun v => (c7 v).mono hD⟩
/-- codes before, and the heap before, are the same -/
theorem CT.pre {h0 h h2 : MH} {ls : List (Nat × Nat)} {m D b g g0 c : Nat} {x : PC} (e : ∀ j, j < b → hI h 616000300 m j = hI h0 616000300 m j) (hg : g0 ≤ g) (t : CT h h2 ls m D b g c x) : CT h0 h2 ls m D b g0 c x := by
  cases x with
  | inr g2 => exact t
  | inl y =>
    obtain ⟨r, φ⟩ := y
    obtain ⟨c1, c2, b2, c3, c4, c5, c6, c7⟩ := t
    exact ⟨c1, c2, b2, c3, c4, by omega, fun j hj => by rw [c6 j hj, e j hj], c7⟩
/-- one not more -/
theorem CT.not {h h2 : MH} {ls : List (Nat × Nat)} {m D b g g0 c : Nat} {x : PC} (hg : g0 + 3 ≤ g) (t : CT h h2 ls m D b g (c + 1) x) : CT h h2 ls m D b g0 c (pNot x) := by
  cases x with
  | inr g2 => exact t
  | inl y =>
    obtain ⟨r, φ⟩ := y
    obtain ⟨c1, c2, b2, c3, c4, c5, c6, c7⟩ := t
    refine ⟨c1, c2, b2, c3, c4, by omega, c6, fun v => ?_⟩
    have := c7 v
    by_cases p : c % 2 = 1
    · rw [if_neg (by omega)] at this
      rw [if_pos p, Bool.not_not]; exact this
    · rw [if_pos (by omega)] at this
      rw [if_neg p]; exact this
section COne
variable {L : Nat} {scr : Nat → Int32}
def OneOk (L : Nat) (scr : Nat → Int32) (ls : List (Nat × Nat)) (m k : Nat) : Prop := ∀ (d : Nat) (h : MH) (b : Nat) (l : List (Nat × Nat)), CP h ls (.inl l) → CdN h m b → GapL l → 3 * b ≤ hdP l → ∃ h2, E L scr (d + 3 * k + 2) 89 [vR 900006 0, vR 900005 m, vI (nI (8 - k))] h = some (none, h2) ∧ Upd (WOne m) h h2 ∧ CT h h2 ls m (2 * k + 1) b (hdP l) 0 (pOne k l)
theorem all_of {ls : List (Nat × Nat)} {m k : Nat} (o : OneOk L scr ls m k) (d : Nat) (h : MH) (b : Nat) (l : List (Nat × Nat)) (cp : CP h ls (.inl l)) (hb : CdN h m b) (gp : GapL l) (b3 : 3 * b ≤ hdP l) : ∃ h2, E L scr (d + 3 * k + 3) 88 [vR 900006 0, vR 900005 m, vI (nI (8 - k))] h = some (none, h2) ∧ Upd (WOne m) h h2 ∧ CT h h2 ls m (2 * k + 2) b (hdP l) 0 (pAll (pOne k) l) := by
  obtain ⟨h1, e1, u1, t1⟩ := o d h b l cp hb gp b3
  obtain ⟨h2, s2, u2, t2⟩ := all_run (L := L) (scr := scr) (d := d + 3 * k + 1) (D := 2 * k + 2) (g := hdP l) (nI (8 - k)) b3 (by omega) (fun h b l cp hb gp b3 => o d h b l cp hb gp b3) 900 0 h1 _ rfl (t1.mono (by omega))
  exact ⟨h2, r_Reader_readAll (d := d + 3 * k + 2) _ _ _ _ (Sm.step (by rw [t_Reader_readAll_0, e1, clV_ok]; rfl) s2), u1.tr u2, t2⟩
theorem any_of {ls : List (Nat × Nat)} {m k : Nat} (o : OneOk L scr ls m k) (d : Nat) (h : MH) (b : Nat) (l : List (Nat × Nat)) (cp : CP h ls (.inl l)) (hb : CdN h m b) (gp : GapL l) (b3 : 3 * b ≤ hdP l) : ∃ h2, E L scr (d + 3 * k + 4) 87 [vR 900006 0, vR 900005 m, vI (nI (8 - k))] h = some (none, h2) ∧ Upd (WOne m) h h2 ∧ CT h h2 ls m (2 * k + 3) b (hdP l) 0 (pAny (pOne k) l) := by
  obtain ⟨h1, e1, u1, t1⟩ := all_of o d h b l cp hb gp b3
  obtain ⟨h2, s2, u2, t2⟩ := any_run (L := L) (scr := scr) (d := d + 3 * k + 2) (D := 2 * k + 3) (g := hdP l) (nI (8 - k)) b3 (by omega) (fun h b l cp hb gp b3 => all_of o d h b l cp hb gp b3) 900 0 h1 _ rfl (t1.mono (by omega))
  exact ⟨h2, r_Reader_readAny (d := d + 3 * k + 3) _ _ _ _ (Sm.step (by rw [t_Reader_readAny_0, e1, clV_ok]; rfl) s2), u1.tr u2, t2⟩
end COne

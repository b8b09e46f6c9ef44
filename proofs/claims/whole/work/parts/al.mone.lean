/-! CONDITIONS, on the reference's side: one of and, or -/
theorem MO.mono {h h2 : MH} {v : Nat → Nat} {n D D2 b N : Nat} {x : PC} (hD : D ≤ D2) (t : MO h h2 v n D b N x) : MO h h2 v n D2 b N x := by
  cases x with
  | inr g => exact t
  | inl y =>
    obtain ⟨r, φ⟩ := y
    obtain ⟨q, b2, t1, t2, t3, t4, t5, t6, t7, t8, t9⟩ := t
    exact ⟨q, b2, t1, t2, t3, t4, t5, t6, t7, t8, fun w => (t9 w).mono hD⟩
theorem pLoop_r {sep : Nat} {op : Bool → Bool → Bool} {one : List (Nat × Nat) → PC} {g : Nat} : ∀ f, pLoop sep op one f (.inr g) = .inr g
  | 0 => rfl
  | _ + 1 => rfl
section MOne
variable {L : Nat} {scr : Nat → Int32}
def OneM (L : Nat) (scr : Nat → Int32) (v : Nat → Nat) (n k : Nat) : Prop := ∀ (d : Nat) (h : MH) (b p t g : Nat) (r : List (Nat × Nat)), AtM h v n p → lex v n p = (t, g) :: r → hI h 1306 0 0 = nI (8 - k) → hI h 1302 0 0 = nI b → 3 * b ≤ g + 6750 → ∃ h2, E L scr (d + 3 * k + 3) 218 [vR 900012 0] h = some (some (vI (zb (isOkC (pOne k ((t, g) :: r))))), h2) ∧ Upd WCq h h2 ∧ MO h h2 v n (2 * k + 1) b g (pOne k ((t, g) :: r))
theorem mall_of {v : Nat → Nat} {n k : Nat} (o : OneM L scr v n k) (d : Nat) (h : MH) (b p t g : Nat) (r : List (Nat × Nat)) (a : AtM h v n p) (e : lex v n p = (t, g) :: r) (ed : hI h 1306 0 0 = nI (8 - k)) (es : hI h 1302 0 0 = nI b) (hb : 3 * b ≤ g + 6750) : ∃ h2, E L scr (d + 3 * k + 4) 217 [vR 900012 0] h = some (some (vI (zb (isOkC (pAll (pOne k) ((t, g) :: r))))), h2) ∧ Upd WCq h h2 ∧ MO h h2 v n (2 * k + 2) b g (pAll (pOne k) ((t, g) :: r)) := by
  have n9 := a.1.1
  obtain ⟨h1, e1, u1, m1⟩ := o d h b p t g r a e ed es hb
  unfold pAll
  cases x : pOne k ((t, g) :: r) with
  | inr g2 =>
    rw [x] at e1 m1
    replace e1 : E L scr (d + 3 * k + 3) 218 [vR 900012 0] h = some (some (vI (zb false)), h1) := e1
    rw [pLoop_r]
    refine ⟨h1, r_M_all (d := d + 3 * k + 3) _ _ (Sm.ret ?_), u1, m1⟩
    rw [t_M_all_0, e1, clI_ok, itF]; rfl
  | inl y =>
    obtain ⟨l, φ⟩ := y
    rw [x] at e1 m1
    replace e1 : E L scr (d + 3 * k + 3) 218 [vR 900012 0] h = some (some (vI (zb true)), h1) := e1
    have ln : 901 ≤ 900 + hdP l := by obtain ⟨q, b2, -, -, -, t4, t5, -⟩ := m1; omega
    obtain ⟨h2, s2, u2, m2⟩ := mall_run (L := L) (scr := scr) (d := d + 3 * k) (h := h) (D := 2 * k + 2) (N := g) (one := pOne k) (by omega) (by omega) ed (fun h b p t g r a e ed es hb => o d h b p t g r a e ed es hb) 900 h1 l φ ln (m1.mono (by omega))
    refine ⟨h2, r_M_all (d := d + 3 * k + 3) _ _ (Sm.step ?_ s2), u1.tr u2, m2⟩
    rw [t_M_all_0, e1, clI_ok, itT]
theorem many_of {v : Nat → Nat} {n k : Nat} (o : OneM L scr v n k) (d : Nat) (h : MH) (b p t g : Nat) (r : List (Nat × Nat)) (a : AtM h v n p) (e : lex v n p = (t, g) :: r) (ed : hI h 1306 0 0 = nI (8 - k)) (es : hI h 1302 0 0 = nI b) (hb : 3 * b ≤ g + 6750) : ∃ h2, E L scr (d + 3 * k + 5) 216 [vR 900012 0] h = some (some (vI (zb (isOkC (pAny (pOne k) ((t, g) :: r))))), h2) ∧ Upd WCq h h2 ∧ MO h h2 v n (2 * k + 3) b g (pAny (pOne k) ((t, g) :: r)) := by
  have n9 := a.1.1
  obtain ⟨h1, e1, u1, m1⟩ := mall_of o d h b p t g r a e ed es hb
  unfold pAny
  cases x : pAll (pOne k) ((t, g) :: r) with
  | inr g2 =>
    rw [x] at e1 m1
    replace e1 : E L scr (d + 3 * k + 4) 217 [vR 900012 0] h = some (some (vI (zb false)), h1) := e1
    rw [pLoop_r]
    refine ⟨h1, r_M_any (d := d + 3 * k + 4) _ _ (Sm.ret ?_), u1, m1⟩
    rw [t_M_any_0, e1, clI_ok, itF]; rfl
  | inl y =>
    obtain ⟨l, φ⟩ := y
    rw [x] at e1 m1
    replace e1 : E L scr (d + 3 * k + 4) 217 [vR 900012 0] h = some (some (vI (zb true)), h1) := e1
    have ln : 901 ≤ 900 + hdP l := by obtain ⟨q, b2, -, -, -, t4, t5, -⟩ := m1; omega
    obtain ⟨h2, s2, u2, m2⟩ := many_run (L := L) (scr := scr) (d := d + 3 * k + 1) (h := h) (D := 2 * k + 3) (N := g) (one := pAll (pOne k)) (by omega) (by omega) ed (fun h b p t g r a e ed es hb => mall_of o d h b p t g r a e ed es hb) 900 h1 l φ ln (m1.mono (by omega))
    refine ⟨h2, r_M_any (d := d + 3 * k + 4) _ _ (Sm.step ?_ s2), u1.tr u2, m2⟩
    rw [t_M_any_0, e1, clI_ok, itT]
end MOne

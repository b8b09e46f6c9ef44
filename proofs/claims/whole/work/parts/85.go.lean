/-! For free and out: may a boat go -/
/-- the sites of the rules of laws -/
abbrev SRs : List Nat := [610, 611000040, 612000040, 613000040, 614000040, 615, 616000300, 1310000006, 1311000240, 1312000240, 1313000240, 1314000240, 1315000240, 1316000240, 1317002700, 1318002700, 1319002700]
theorem RsEq.up {h h2 : MH} {m l R : Nat} {s p : Nat → Nat} {φ : Nat → (Nat → Int32) → Bool} (r : ∀ a b, a ∈ SRs → hI h2 a b = hI h a b) (q : RsEq h m l R s p φ) : RsEq h2 m l R s p φ := by
  have r1 := r 610 m (by decide)
  have r2 := r 611000040 m (by decide)
  have r3 := r 612000040 m (by decide)
  have r4 := r 613000040 m (by decide)
  have r5 := r 614000040 m (by decide)
  have r6 := r 615 m (by decide)
  have r7 := r 616000300 m (by decide)
  have s1 := r 1310000006 0 (by decide)
  have s2 := r 1311000240 0 (by decide)
  have s3 := r 1312000240 0 (by decide)
  have s4 := r 1313000240 0 (by decide)
  have s5 := r 1314000240 0 (by decide)
  have s6 := r 1315000240 0 (by decide)
  have s7 := r 1316000240 0 (by decide)
  have s8 := r 1317002700 0 (by decide)
  have s9 := r 1318002700 0 (by decide)
  have s0 := r 1319002700 0 (by decide)
  unfold RsEq ClEq CondEq at q ⊢
  simp only [r1, r2, r3, r4, r5, r6, r7, s1, s2, s3, s4, s5, s6, s7, s8, s9, s0]
  exact q
theorem Upd.sites {W : List (Nat × Nat)} {S : List Nat} {h h2 : MH} (u : Upd W h h2) (hd : ∀ q ∈ W, q.1 ∉ S) : ∀ a b, a ∈ S → hI h2 a b = hI h a b := fun a b ha => u.2 a b (fun z => hd (a, b) z ha)
theorem out_u {p : Nat → Bool} {bo : Nat → Int32} : ∀ {m}, (∀ i, i < m → ∃ b, b < 20 ∧ bo i = nI b) → ∃ u, u < 2 ^ 20 ∧ fold (outF p bo) 0 m = nI u
  | 0, _ => ⟨0, by decide, rfl⟩
  | m + 1, h => by
    obtain ⟨u, hu, eu⟩ := out_u (m := m) (p := p) (fun i hi => h i (by omega))
    obtain ⟨b, hb, eb⟩ := h m (by omega)
    show ∃ u, u < 2 ^ 20 ∧ outF p bo m (fold (outF p bo) 0 m) = nI u
    rw [eu]
    unfold outF
    by_cases c : p m = true
    · rw [if_pos c, eb, shl_20 hb, nI_or]
      exact ⟨_, Nat.or_lt_two_pow hu (Nat.pow_lt_pow_right (by decide) hb), rfl⟩
    · rw [if_neg c]; exact ⟨u, hu, rfl⟩
section Go
variable {L : Nat} {scr : Nat → Int32} {d : Nat}
theorem c_M_isShut {h : MH} {b x n u l R : Nat} {kd : Int32} {s p : Nat → Nat} {φ : Nat → (Nat → Int32) → Bool} {v : Nat → Int32} (hb : b < 20) (hx : x < 72000) (hn : n ≤ 40) (en : hI h 1326 0 0 = nI n) (hl : l < 5) (eL : E L scr (d + 5) 232 [vR 900012 0, vI (nI (x / 720))] h = some (some (vI (nI l)), h)) (eo : E L scr (d + 5) 249 [vR 900012 0, vI (nI x)] h = some (some (vI (nI u)), h)) (hu : u < 2 ^ 20) (ek : hI h 1338000020 0 b = kd) (ev : v = askF (hI h 1330000100 0 (x / 720)) (zb (anyB (rainP (hI h 1332000040 0) (hI h 1333000040 0) (hI h 1334000040 0) (nI (x / 720)) (nI (x % 720))) n)) (nI (x / 720)) (nI (x / 720 % 7)) (nI (x % 720)) (nI (pcN 20 u)) kd (weedF (hI h 1327 0 0) (wkF (hI h 1331000100 0) (x / 720)))) (q : RsEq h (l + 1) l R s p φ) : ∃ h', E L scr (d + 6) 252 [vR 900012 0, vI (nI b), vI (nI x)] h = some (some (vI (zb (anyB (fitB s φ 2 v) R))), h') ∧ Upd [(1320000008, 0), (1321200064, 0)] h h' := by
  have e1 : nI x / 720 = nI (x / 720) := nI_div (b := 720) (by omega) (by decide)
  obtain ⟨h2, eA, uA, vA⟩ := c_M_asks (L := L) (scr := scr) (d := d + 1) (h := h) (x := x) (n := n) kd (nI (pcN 20 u)) hx hn en
  rw [← ev] at vA
  have q2 := q.up (uA.sites (by decide))
  obtain ⟨hR, -, eR, hk⟩ := id q2
  have key : Sx L scr (d + 5) B_M_isShut C_M_isShut 0 [some (vR 900012 0), some (vI (nI b)), some (vI (nI x)), none, none, none] h (fun rr => ∃ h', rr = (some (vI (zb (anyB (fitB s φ 2 v) R))), h') ∧ Upd [(1320000008, 0), (1321200064, 0)] h h') := by
    refine Sx.step (t' := 2) (lo' := [some (vR 900012 0), some (vI (nI b)), some (vI (nI x)), some (vI (nI l)), some (vI (zb (anyB (fitB s φ 2 v) 0))), some (vI (nI (40 * l + 0)))]) (h' := h2) ?_ (Sx.inv0 (P := fun i lo h' => lo = [some (vR 900012 0), some (vI (nI b)), some (vI (nI x)), some (vI (nI l)), some (vI (zb (anyB (fitB s φ 2 v) i))), some (vI (nI (40 * l + i)))] ∧ Upd [(1321200064, 0)] h2 h') R ⟨rfl, Upd.rf _ h2⟩ ?_ ?_)
    · rw [t_M_isShut_0, dvI_ok (by decide), e1, eL, clI_ok, if_neg (fun z => by
        have := congrArg Int32.toInt z
        rw [nI_toInt (by omega)] at this
        have : (-1 : Int32).toInt = -1 := rfl
        omega), rd_M_kindOf (oob_nI hb (by decide)), ix_nI (by omega), ek, eo, clI_ok, c_M_bits hu, clI_ok, eA, clV_ok, show (40 : Int32) = nI 40 from rfl, nI_mul]; rfl
    · rintro i hi _ h3 ⟨rfl, u3⟩ kk
      have q3 := q2.up (u3.sites (by decide))
      obtain ⟨-, -, eR3, hk3⟩ := id q3
      obtain ⟨s2, p2, -, e3, -, -, -, k2⟩ := hk3 i hi
      have v3 : AskV (hI h3 1320000008 0) v := by rw [u3.2 _ _ (by decide)]; exact vA
      have pre : dn L scr (E L scr (d + 5)) B_M_isShut C_M_isShut 2 [some (vR 900012 0), some (vI (nI b)), some (vI (nI x)), some (vI (nI l)), some (vI (zb (anyB (fitB s φ 2 v) i))), some (vI (nI (40 * l + i)))] [] h3 = _ := t_M_isShut_2 ..
      rw [rd_M_clauses (oob_nI (by omega) (by decide)), ix_nI (by omega), eR3, show (40 : Int32) = nI 40 from rfl, nI_mul, nI_add, if_neg (nI_ge (by omega) (by omega)), rd_M_clauseKind (oob_nI (by omega) (by decide)), ix_nI (by omega), e3, nI_1] at pre
      have ea : anyB (fitB s φ 2 v) (i + 1) = (anyB (fitB s φ 2 v) i || fitB s φ 2 v i) := rfl
      have fin : ∀ h4 t, Upd [(1321200064, 0)] h2 h4 → t = zb (anyB (fitB s φ 2 v) (i + 1)) → dn L scr (E L scr (d + 5)) B_M_isShut C_M_isShut 2 [some (vR 900012 0), some (vI (nI b)), some (vI (nI x)), some (vI (nI l)), some (vI (zb (anyB (fitB s φ 2 v) i))), some (vI (nI (40 * l + i)))] [] h3 = some (.inl (2, [some (vR 900012 0), some (vI (nI b)), some (vI (nI x)), some (vI (nI l)), some (vI t), some (vI (nI (40 * l + i + 1)))], [], h4)) → Sx L scr (d + 5) B_M_isShut C_M_isShut 2 [some (vR 900012 0), some (vI (nI b)), some (vI (nI x)), some (vI (nI l)), some (vI (zb (anyB (fitB s φ 2 v) i))), some (vI (nI (40 * l + i)))] h3 (fun rr => ∃ h', rr = (some (vI (zb (anyB (fitB s φ 2 v) R))), h') ∧ Upd [(1320000008, 0), (1321200064, 0)] h h') := fun h4 t u4 et e => Sx.step e (kk _ _ ⟨by rw [et]; rfl, u4⟩)
      cases ez : anyB (fitB s φ 2 v) i with
      | true =>
        rw [ez] at pre ea fin
        exact fin h3 1 u3 (by rw [ea]; rfl) (pre.trans (if_neg (by decide)))
      | false =>
        rw [ez] at pre ea fin
        rw [if_pos (show zb false = 0 from rfl)] at pre
        by_cases c : s i = 2
        · obtain ⟨h4, e4, u4⟩ := c_condM (L := L) (scr := scr) (d := d + 4) (by omega) (by omega) v3 (k2 (by omega))
          rw [if_pos (show nI (s i) = 2 by rw [c]; rfl), e4, clI_ok] at pre
          rw [fit_e c] at ea
          cases ef : φ i v with
          | false =>
            rw [ef] at pre ea
            exact fin h4 0 (u3.tr u4) (by rw [ea]; rfl) (pre.trans (if_pos rfl))
          | true =>
            rw [ef] at pre ea
            exact fin h4 1 (u3.tr u4) (by rw [ea]; rfl) (pre.trans (if_neg (by decide)))
        · rw [if_neg (show ¬ nI (s i) = 2 from fun z => c ((nI_eq (b := 2) (by omega) (by decide)).mp z))] at pre
          rw [fit_ff c] at ea
          exact fin h3 0 u3 (by rw [ea]; rfl) pre
    · rintro _ h3 ⟨rfl, u3⟩
      have q3 := q2.up (u3.sites (by decide))
      obtain ⟨-, -, eR3, -⟩ := id q3
      refine Sx.ret (r := (some (vI (zb (anyB (fitB s φ 2 v) R))), h3)) ?_ ⟨h3, rfl, (uA.mono (by decide)).tr (u3.mono (by decide))⟩
      rw [t_M_isShut_2, rd_M_clauses (oob_nI (by omega) (by decide)), ix_nI (by omega), eR3, show (40 : Int32) = nI 40 from rfl, nI_mul, nI_add, if_pos (nI_le (Nat.le_refl _) (by omega)), rtZ_ok]
  obtain ⟨_, k1, h', rfl, k2⟩ := key
  exact ⟨h', r_M_isShut _ _ _ _ k1, k2⟩
theorem c_M_isShut0 {h : MH} {b : Int32} {x : Nat} (hx : x < 72000) (eL : E L scr (d + 5) 232 [vR 900012 0, vI (nI (x / 720))] h = some (some (vI (-1)), h)) : E L scr (d + 6) 252 [vR 900012 0, vI b, vI (nI x)] h = some (some (vI (zb false)), h) := by
  have e1 : nI x / 720 = nI (x / 720) := nI_div (b := 720) (by omega) (by decide)
  refine r_M_isShut _ _ _ _ (Sm.ret ?_)
  rw [t_M_isShut_0, dvI_ok (by decide), e1, eL, clI_ok, if_pos rfl, rtZ0]; rfl
end Go

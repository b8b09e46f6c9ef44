/-! BILLS: the reference's side -/
/-- the reference's rows of what is known -/
def MK (H : HN) (m n : Nat) (g : MH) : Prop := hI g 1336 0 0 = nI n ∧ n ≤ 120 ∧ m ≤ n ∧ ∀ i, i < n → (hI g 1341000120 0 i = nI (H.o i) ∧ H.o i < 72000) ∧ (hI g 1339000120 0 i = nI (H.bt i) ∧ H.bt i < 20 ∧ hI g 1338000020 0 (H.bt i) = nI (H.kd i) ∧ H.kd i < 4) ∧ (hI g 1340000120 0 i = nI (H.w i) ∧ H.w i < 10) ∧ decide (hI g 1343000120 0 i ≤ hI g 1354 0 0) = decide (i < m) ∧ (i < m → H.bk i = true → hI g 1350000120 0 i = nI (H.b i) ∧ H.o i ≤ H.b i ∧ H.b i / 720 = H.o i / 720 ∧ H.b i < 72000) ∧ (i < m → H.bk i = false → hI g 1350000120 0 i = -1)
abbrev SMK : List Nat := [1336, 1341000120, 1339000120, 1338000020, 1340000120, 1343000120, 1354, 1350000120]
theorem MK.up {H : HN} {m n : Nat} {g g2 : MH} (r : ∀ a b, a ∈ SMK → hI g2 a b = hI g a b) (k : MK H m n g) : MK H m n g2 := by
  unfold MK at k ⊢
  simp only [r 1336 0 (by decide), r 1341000120 0 (by decide), r 1339000120 0 (by decide), r 1338000020 0 (by decide), r 1340000120 0 (by decide), r 1343000120 0 (by decide), r 1354 0 (by decide), r 1350000120 0 (by decide)]
  exact k
theorem sumN_trunc {p q : Nat → Bool} {v : Nat → Nat} {m : Nat} : ∀ {n}, m ≤ n → (∀ j, j < m → p j = q j) → (∀ j, m ≤ j → j < n → p j = false) → sumN p v n = sumN q v m
  | 0, h, _, _ => by have : m = 0 := by omega
                     rw [this]; rfl
  | n + 1, h, h1, h2 => by
    rcases Nat.lt_or_ge n m with c | c
    · have e : m = n + 1 := by omega
      subst e
      have key : ∀ j, j ≤ n + 1 → sumN p v j = sumN q v j := by
        intro j
        induction j with
        | zero => intro _; rfl
        | succ j ih =>
          intro hj
          have e1 := h1 j (by omega)
          cases e2 : q j with
          | true => rw [sumN_t e2, sumN_t (by rw [e1]; exact e2), ih (by omega)]
          | false => rw [sumN_f e2, sumN_f (by rw [e1]; exact e2), ih (by omega)]
      exact key (n + 1) (Nat.le_refl _)
    · rw [sumN_f (h2 n c (Nat.lt_succ_self n)), sumN_trunc c h1 (fun j a b => h2 j a (by omega))]
section MBill
variable {L : Nat} {scr : Nat → Int32} {d : Nat}
variable {H : HN} {m n : Nat} {g : MH}
theorem mk_mi (k : MK H m n g) {i : Nat} (hi : i < m) (hb : H.bk i = true) : H.o i ≤ H.b i ∧ H.mi i ≤ 719 ∧ H.o i % 720 + H.mi i ≤ 719 := by
  obtain ⟨-, -, -, -, e, -⟩ := k.2.2.2 i (by have := k.2.2.1; omega)
  obtain ⟨-, h1, h2, -⟩ := e hi hb
  unfold HN.mi
  omega
theorem c_M_minsOf (k : MK H m n g) {i : Nat} (hi : i < m) (hb : H.bk i = true) : E L scr (d + 1) 266 [vR 900012 0, vI (nI i)] g = some (some (vI (nI (H.mi i))), g) := by
  have hmn := k.2.2.1
  have hn := k.2.1
  obtain ⟨⟨e1, -⟩, -, -, -, e, -⟩ := k.2.2.2 i (by omega)
  obtain ⟨h0, h1, -⟩ := e hi hb
  refine r_M_minutes _ _ _ (Sm.ret ?_)
  rw [t_M_minutes_0, rd_M_backAt (oob_nI (by omega) (by decide)), ix_nI (by omega), h0, rd_M_outAt (oob_nI (by omega) (by decide)), ix_nI (by omega), e1, nI_sub h1]; rfl
theorem c_M_kindBy (k : MK H m n g) {i : Nat} (hi : i < n) : E L scr (d + 1) 265 [vR 900012 0, vI (nI i)] g = some (some (vI (nI (H.kd i))), g) := by
  have hn := k.2.1
  obtain ⟨-, ⟨e1, e2, e3, -⟩, -⟩ := k.2.2.2 i hi
  refine r_M_kindBy _ _ _ (Sm.ret ?_)
  rw [t_M_kindBy_0, rd_M_boatOf (oob_nI (by omega) (by decide)), ix_nI (by omega), e1, rd_M_kindOf (oob_nI (by omega) (by decide)), ix_nI (by omega), e3]
theorem c_M_isBackH (k : MK H m n g) {i : Nat} (hi : i < n) : E L scr (d + 2) 247 [vR 900012 0, vI (nI i)] g = some (some (vI (zb (decide (i < m) && H.bk i))), g) := by
  have hn := k.2.1
  obtain ⟨-, -, -, e, e5, e6⟩ := k.2.2.2 i hi
  rw [c_M_isBack (by omega), e]
  by_cases c : i < m
  · rw [decide_eq_true c, Bool.true_and, Bool.true_and]
    cases eb : H.bk i with
    | true =>
      obtain ⟨b1, -, -, b2⟩ := e5 c eb
      rw [b1, decide_eq_false (fun z => by
        have := congrArg Int32.toInt z
        rw [nI_toInt (by omega)] at this
        have : (-1 : Int32).toInt = -1 := rfl
        omega)]; rfl
    | false => rw [e6 c eb, decide_eq_true rfl]; rfl
  · rw [decide_eq_false c]; rfl
/-- the law of a day and what it says -/
def LawAt (L : Nat) (scr : Nat → Int32) (g : MH) (D : Nat) (lo : Option Nat) (f : Nat → Nat) : Prop := (∀ d, E L scr (d + 1) 232 [vR 900012 0, vI (nI D)] g = some (some (vI (oI lo)), g)) ∧ (∀ k, lo = some k → k < 5) ∧ ∀ j, j < 64 → saidF g lo j = nI (f j)
theorem c_M_saidN {D : Nat} {lo : Option Nat} {f : Nat → Nat} (q : LawAt L scr g D lo f) {j : Nat} (hj : j < 64) : E L scr (d + 1) 233 [vR 900012 0, vI (oI lo), vI (nI j)] g = some (some (vI (nI (f j))), g) := by
  rw [c_M_said q.2.1 hj, q.2.2 j hj]
theorem c_M_lawBy (k : MK H m n g) {i : Nat} (hi : i < n) {lo : Option Nat} {f : Nat → Nat} (q : LawAt L scr g (H.o i / 720) lo f) : E L scr (d + 2) 264 [vR 900012 0, vI (nI i)] g = some (some (vI (oI lo)), g) := by
  have hn := k.2.1
  obtain ⟨⟨e1, e2⟩, -⟩ := k.2.2.2 i hi
  refine r_M_lawBy _ _ _ (Sm.ret ?_)
  rw [t_M_lawBy_0, rd_M_outAt (oob_nI (by omega) (by decide)), ix_nI (by omega), e1, dvI_ok (by decide), show nI (H.o i) / 720 = nI (H.o i / 720) from nI_div (b := 720) (by omega) (by decide), q.1, clI_ok]
theorem mh_sum (k : MK H m n g) {i a : Nat} (ha : a ≤ n) : sumN (fun j => decide (j < m) && ahB H i j) H.mi a ≤ 86280 := by
  have hn := k.2.1
  have := sumN_leP (p := fun j => decide (j < m) && ahB H i j) (v := H.mi) (q := 719) (n := a) (fun j hj e => by
    replace e : (decide (j < m) && ahB H i j) = true := e
    rw [Bool.and_eq_true] at e
    exact (mk_mi k (of_decide_eq_true e.1) (ah_bk e.2)).2.1)
  have : a * 719 ≤ 120 * 719 := Nat.mul_le_mul_right _ (by omega)
  omega
theorem c_M_freeOf (k : MK H m n g) {i : Nat} (hi : i < m) (hb : H.bk i = true) {lo : Option Nat} {f : Nat → Nat} (q : LawAt L scr g (H.o i / 720) lo f) (hf : LB f) : E L scr (d + 4) 267 [vR 900012 0, vI (nI i)] g = some (some (vI (nI (frN H m i (f (20 + (4 * H.w i + H.kd i)))))), g) := by
  have hmn := k.2.2.1
  have hn := k.2.1
  obtain ⟨⟨o1, o2⟩, ⟨-, -, -, k4⟩, ⟨w1, w2⟩, -⟩ := k.2.2.2 i (by omega)
  obtain ⟨R, hR⟩ : ∃ R, R = f (20 + (4 * H.w i + H.kd i)) := ⟨_, rfl⟩
  have Rl : R ≤ 999 := by rw [hR]; exact hf.1 _
  obtain ⟨P, hP⟩ : ∃ P : Nat → Bool, P = fun j => decide (j < m) && ahB H i j := ⟨_, rfl⟩
  have Ps : ∀ {a}, a ≤ n → sumN P H.mi a ≤ 86280 := fun ha => by rw [hP]; exact mh_sum k ha
  have Pe : sumN P H.mi n = sumN (ahB H i) H.mi m := sumN_trunc hmn (fun j hj => by rw [hP]; show (decide (j < m) && _) = _; rw [decide_eq_true hj, Bool.true_and]) (fun j h1 h2 => by rw [hP]; show (decide (j < m) && _) = _; rw [decide_eq_false (by omega), Bool.false_and])
  have P0 : ∀ j, P j = (decide (j < m) && ahB H i j) := fun j => by rw [hP]
  have mb := (mk_mi k hi hb).2.1
  refine r_M_freeOf _ _ _ (Sm.step (t' := 1) (lo' := [some (vR 900012 0), some (vI (nI i)), some (vI (nI R - nI (sumN P H.mi 0))), some (vI (nI (H.o i / 720))), some (vI (nI 0))]) (st' := []) (h' := g) ?_ ?_)
  · rw [t_M_freeOf_0, c_M_lawBy k (by omega) q, clI_ok, rd_M_whoOf (oob_nI (by omega) (by decide)), ix_nI (by omega), w1, c_M_kindBy k (by omega), clI_ok, show (20 : Int32) = nI 20 from rfl, show (4 : Int32) = nI 4 from rfl, nI_mul, nI_add, nI_add, c_M_saidN q (by omega), clI_ok, rd_M_outAt (oob_nI (by omega) (by decide)), ix_nI (by omega), o1, dvI_ok (by decide), show nI (H.o i) / 720 = nI (H.o i / 720) from nI_div (b := 720) (by omega) (by decide), show 20 + 4 * H.w i + H.kd i = 20 + (4 * H.w i + H.kd i) by omega, ← hR, show sumN P H.mi 0 = 0 from rfl, nI_sub (Nat.zero_le R)]; rfl
  refine Sm.for (lo := fun j => [some (vR 900012 0), some (vI (nI i)), some (vI (nI R - nI (sumN P H.mi j))), some (vI (nI (H.o i / 720))), some (vI (nI j))]) (hh := fun _ => g) n (fun j hj => ?_) (Sm.ret ?_)
  · obtain ⟨⟨p1, p2⟩, ⟨-, -, -, k5⟩, ⟨w3, w4⟩, -⟩ := k.2.2.2 j hj
    rw [t_M_freeOf_1, k.1, if_neg (nI_ge hj (by omega)), nI_1]
    by_cases ce : j = i
    · rw [if_pos (by rw [ce]), sumN_f (by
        rw [P0, ce]
        unfold ahB
        rw [decide_eq_false (show ¬ (H.o i < H.o i ∨ (H.o i = H.o i ∧ i < i)) by omega), Bool.and_false, Bool.and_false, Bool.and_false])]
    · rw [if_neg (fun z => ce ((nI_eq (by omega) (by omega)).mp z)), c_M_isBackH k hj, clI_ok]
      cases eb : decide (j < m) && H.bk j with
      | false =>
        rw [if_pos (show zb false = 0 from rfl), sumN_f (by
          rw [P0]
          unfold ahB
          rw [← Bool.and_assoc, eb, Bool.false_and])]
      | true =>
        have eb2 := eb
        rw [Bool.and_eq_true] at eb2
        have jm := of_decide_eq_true eb2.1
        have pa : P j = (decide (H.w j = H.w i ∧ H.o j / 720 = H.o i / 720 ∧ H.kd j = H.kd i) && decide (H.o j < H.o i ∨ (H.o j = H.o i ∧ j < i))) := by
          rw [P0]
          unfold ahB
          rw [← Bool.and_assoc, eb, Bool.true_and]
        have mj := (mk_mi k jm eb2.2).2.1
        rw [if_neg (show ¬ zb true = 0 by decide), rd_M_whoOf (oob_nI (by omega) (by decide)), ix_nI (by omega), w3, rd_M_whoOf (oob_nI (by omega) (by decide)), ix_nI (by omega), w1]
        by_cases c1 : H.w j = H.w i
        · rw [if_pos (by rw [c1]), c_M_kindBy k hj, clI_ok, c_M_kindBy k (by omega), clI_ok]
          by_cases c2 : H.kd j = H.kd i
          · rw [if_pos (by rw [c2]), rd_M_outAt (oob_nI (by omega) (by decide)), ix_nI (by omega), p1, dvI_ok (by decide), show nI (H.o j) / 720 = nI (H.o j / 720) from nI_div (b := 720) (by omega) (by decide)]
            by_cases c3 : H.o j / 720 = H.o i / 720
            · rw [if_pos (by rw [c3]), rd_M_outAt (oob_nI (by omega) (by decide)), ix_nI (by omega), p1, rd_M_outAt (oob_nI (by omega) (by decide)), ix_nI (by omega), o1]
              rw [decide_eq_true (show H.w j = H.w i ∧ H.o j / 720 = H.o i / 720 ∧ H.kd j = H.kd i from ⟨c1, c3, c2⟩), Bool.true_and] at pa
              by_cases c4 : H.o j < H.o i
              · rw [if_pos (nI_lt c4 (by omega)), c_M_minsOf k jm eb2.2, clI_ok, sub_sub_nI, sumN_t (by rw [pa]; exact decide_eq_true (Or.inl c4))]
              · rw [if_neg (nI_nlt (by omega) (by omega)), rd_M_outAt (oob_nI (by omega) (by decide)), ix_nI (by omega), p1, rd_M_outAt (oob_nI (by omega) (by decide)), ix_nI (by omega), o1]
                by_cases c5 : H.o j = H.o i
                · rw [if_pos (by rw [c5])]
                  by_cases c6 : j < i
                  · rw [if_neg (nI_ge c6 (by omega)), c_M_minsOf k jm eb2.2, clI_ok, sub_sub_nI, sumN_t (by rw [pa]; exact decide_eq_true (Or.inr ⟨c5, c6⟩))]
                  · rw [if_pos (nI_le (by omega) (by omega)), sumN_f (by rw [pa]; exact decide_eq_false (by omega))]
                · rw [if_neg (fun z => c5 ((nI_eq (by omega) (by omega)).mp z)), sumN_f (by rw [pa]; exact decide_eq_false (by omega))]
            · rw [if_neg (fun z => c3 ((nI_eq (by omega) (by omega)).mp z)), sumN_f (by rw [pa, decide_eq_false (fun z => c3 z.2.1), Bool.false_and])]
          · rw [if_neg (fun z => c2 ((nI_eq (by omega) (by omega)).mp z)), sumN_f (by rw [pa, decide_eq_false (fun z => c2 z.2.2), Bool.false_and])]
        · rw [if_neg (fun z => c1 ((nI_eq (by omega) (by omega)).mp z)), sumN_f (by rw [pa, decide_eq_false (fun z => c1 z.1), Bool.false_and])]
  · have b1 := Ps (Nat.le_refl n)
    rw [t_M_freeOf_1, k.1, if_pos (nI_le (Nat.le_refl _) (by omega)), c_M_minsOf k hi hb, clI_ok, c_min, clI_ok, c_max, clI_ok]
    obtain ⟨S, hS⟩ : ∃ S, S = sumN P H.mi n := ⟨_, rfl⟩
    rw [← hS] at b1 ⊢
    have e : (if (0 : Int32) < (if nI (H.mi i) < nI R - nI S then nI (H.mi i) else nI R - nI S) then (if nI (H.mi i) < nI R - nI S then nI (H.mi i) else nI R - nI S) else 0) = nI (min (H.mi i) (R - S)) := by
      by_cases c : R ≤ S
      · have c2 : ¬ nI (H.mi i) < nI R - nI S := by
          rw [Int32.lt_iff_toInt_lt, nI_toInt (by omega), nI_sub_toInt (by omega) (by omega)]; omega
        rw [if_neg c2, max0_nI (by omega) (by omega), show R - S = 0 by omega, Nat.min_zero]
      · rw [nI_sub (by omega)]
        by_cases c2 : H.mi i < R - S
        · rw [if_pos (nI_lt c2 (by omega)), Nat.min_eq_left (by omega)]
          by_cases c3 : H.mi i = 0
          · rw [c3]; rfl
          · rw [if_pos (show (0 : Int32) < nI (H.mi i) from nI_lt (a := 0) (by omega) (by omega))]
        · rw [if_neg (nI_nlt (by omega) (by omega)), Nat.min_eq_right (by omega), if_pos (show (0 : Int32) < nI (R - S) from nI_lt (a := 0) (by omega) (by omega))]
    rw [e, hS, Pe, hR]; rfl
end MBill

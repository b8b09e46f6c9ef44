/-! BILLS: rights and prices on the class's side -/
/-- times begun -/
def bgn (s e : Nat) : Nat := if s = 0 then 0 else (s - 1) / e + 1
theorem bgn_le {s e : Nat} : bgn s e ≤ s := by
  unfold bgn
  split
  · omega
  · have := Nat.div_le_self (s - 1) e
    omega
/-- hires as numbers: out, back, who, boat, kind, is it back -/
abbrev HN : Type := (Nat → Nat) × (Nat → Nat) × (Nat → Nat) × (Nat → Nat) × (Nat → Nat) × (Nat → Bool)
def HN.o (H : HN) : Nat → Nat := H.1
def HN.b (H : HN) : Nat → Nat := H.2.1
def HN.w (H : HN) : Nat → Nat := H.2.2.1
def HN.bt (H : HN) : Nat → Nat := H.2.2.2.1
def HN.kd (H : HN) : Nat → Nat := H.2.2.2.2.1
def HN.bk (H : HN) : Nat → Bool := H.2.2.2.2.2
def HN.mi (H : HN) (i : Nat) : Nat := H.b i - H.o i
/-- the class's rows of what is known -/
def CK (H : HN) (m : Nat) (g : MH) : Prop := hI g 1101 0 0 = nI m ∧ m ≤ 120 ∧ ∀ i, i < m → (hI g 205000120 0 i = nI (H.o i) ∧ H.o i < 72000) ∧ (hI g 203000120 0 i = nI (H.bt i) ∧ H.bt i < 20 ∧ hI g 201000020 0 (H.bt i) = nI (H.kd i) ∧ H.kd i < 4) ∧ (hI g 204000120 0 i = nI (H.w i) ∧ H.w i < 10) ∧ (H.bk i = true → hI g 1102000120 0 i = nI (H.b i) ∧ H.o i ≤ H.b i ∧ H.b i / 720 = H.o i / 720 ∧ H.b i < 72000) ∧ (H.bk i = false → hI g 1102000120 0 i = -1)
abbrev SCK : List Nat := [1101, 205000120, 203000120, 201000020, 204000120, 1102000120]
theorem CK.up {H : HN} {m : Nat} {g g2 : MH} (r : ∀ a b, a ∈ SCK → hI g2 a b = hI g a b) (k : CK H m g) : CK H m g2 := by
  unfold CK at k ⊢
  simp only [r 1101 0 (by decide), r 205000120 0 (by decide), r 203000120 0 (by decide), r 201000020 0 (by decide), r 204000120 0 (by decide), r 1102000120 0 (by decide)]
  exact k
/-- hires that take their right ahead of i -/
def ahB (H : HN) (i j : Nat) : Bool := H.bk j && (decide (H.w j = H.w i ∧ H.o j / 720 = H.o i / 720 ∧ H.kd j = H.kd i) && decide (H.o j < H.o i ∨ (H.o j = H.o i ∧ j < i)))
def frN (H : HN) (m i R : Nat) : Nat := min (H.mi i) (R - sumN (ahB H i) H.mi m)
section Right
variable {L : Nat} {scr : Nat → Int32} {d : Nat}
variable {H : HN} {m : Nat} {g : MH}
theorem ck_mi (k : CK H m g) {i : Nat} (hi : i < m) (hb : H.bk i = true) : H.mi i ≤ 719 ∧ H.o i % 720 + H.mi i ≤ 719 := by
  obtain ⟨-, h1, h2, -⟩ := (k.2.2 i hi).2.2.2.1 hb
  unfold HN.mi
  omega
theorem c_kindOfHire (k : CK H m g) {i : Nat} (hi : i < m) : E L scr (d + 1) 17 [vR 900001 0, vI (nI i)] g = some (some (vI (nI (H.kd i))), g) := by
  obtain ⟨-, ⟨e1, e2, e3, e4⟩, -⟩ := k.2.2 i hi
  have hm := k.2.1
  refine r_Book_kindOfHire _ _ _ (Sm.ret ?_)
  rw [t_Book_kindOfHire_0, rd_Book_boatOf (oob_nI (by omega) (by decide)), ix_nI (by omega), e1, rd_Book_kindOf (oob_nI (by omega) (by decide)), ix_nI (by omega), e3]
theorem c_minsOf (k : CK H m g) {i : Nat} (hi : i < m) (hb : H.bk i = true) : E L scr (d + 1) 111 [vR 900010 0, vI (nI i)] g = some (some (vI (nI (H.mi i))), g) := by
  obtain ⟨⟨e1, -⟩, -, -, e4, -⟩ := k.2.2 i hi
  obtain ⟨b1, b2, -, -⟩ := e4 hb
  have hm := k.2.1
  refine r_View_minutesOf _ _ _ (Sm.ret ?_)
  rw [t_View_minutesOf_0, rd_View_backAt (oob_nI (by omega) (by decide)), ix_nI (by omega), b1, rd_Book_outAt (oob_nI (by omega) (by decide)), ix_nI (by omega), e1, nI_sub b2]; rfl
theorem c_isBackH (k : CK H m g) {i : Nat} (hi : i < m) : E L scr (d + 1) 110 [vR 900010 0, vI (nI i)] g = some (some (vI (zb (H.bk i))), g) := by
  obtain ⟨-, -, -, e4, e5⟩ := k.2.2 i hi
  have hm := k.2.1
  rw [c_isBack (by omega)]
  cases e : H.bk i with
  | true =>
    obtain ⟨b1, -, -, b2⟩ := e4 e
    rw [b1, decide_eq_false (fun z => by
      have := congrArg Int32.toInt z
      rw [nI_toInt (by omega)] at this
      have : (-1 : Int32).toInt = -1 := rfl
      omega)]; rfl
  | false => rw [e5 e, decide_eq_true rfl]; rfl
theorem c_dayOfH (k : CK H m g) {i : Nat} (hi : i < m) : E L scr (d + 1) 16 [vR 900001 0, vI (nI i)] g = some (some (vI (nI (H.o i / 720))), g) := by
  obtain ⟨⟨e1, e2⟩, -⟩ := k.2.2 i hi
  have hm := k.2.1
  exact c_dayOf (by omega) e2 e1
theorem c_sharesRight (k : CK H m g) {i j : Nat} (hi : i < m) (hj : j < m) : E L scr (d + 2) 117 [vR 900010 0, vI (nI j), vI (nI i)] g = some (some (vI (zb (decide (H.w j = H.w i ∧ H.o j / 720 = H.o i / 720 ∧ H.kd j = H.kd i)))), g) := by
  obtain ⟨⟨-, o1⟩, ⟨-, -, -, k1⟩, ⟨w1, w2⟩, -⟩ := k.2.2 i hi
  obtain ⟨⟨-, p1⟩, ⟨-, -, -, k3⟩, ⟨w3, w4⟩, -⟩ := k.2.2 j hj
  have hm := k.2.1
  refine r_View_sharesRight _ _ _ _ (Sm.ret ?_)
  rw [t_View_sharesRight_0, rd_Book_whoOf (oob_nI (by omega) (by decide)), ix_nI (by omega), w3, rd_Book_whoOf (oob_nI (by omega) (by decide)), ix_nI (by omega), w1]
  by_cases c1 : H.w j = H.w i
  · rw [if_pos (by rw [c1]), c_dayOfH k hj, clI_ok, c_dayOfH k hi, clI_ok]
    by_cases c2 : H.o j / 720 = H.o i / 720
    · rw [if_pos (by rw [c2]), c_kindOfHire k hj, clI_ok, c_kindOfHire k hi, clI_ok]
      by_cases c3 : H.kd j = H.kd i
      · rw [if_pos (by rw [c3]), decide_eq_true ⟨c1, c2, c3⟩]; rfl
      · rw [if_neg (fun z => c3 ((nI_eq (by omega) (by omega)).mp z)), decide_eq_false (fun z => c3 z.2.2)]; rfl
    · rw [if_neg (fun z => c2 ((nI_eq (by omega) (by omega)).mp z)), decide_eq_false (fun z => c2 z.2.1)]; rfl
  · rw [if_neg (fun z => c1 ((nI_eq (by omega) (by omega)).mp z)), decide_eq_false (fun z => c1 z.1)]; rfl
theorem c_isAhead (k : CK H m g) {i j : Nat} (hi : i < m) (hj : j < m) : E L scr (d + 2) 118 [vR 900010 0, vI (nI j), vI (nI i)] g = some (some (vI (zb (decide (H.o j < H.o i ∨ (H.o j = H.o i ∧ j < i))))), g) := by
  obtain ⟨⟨e1, o1⟩, -⟩ := k.2.2 i hi
  obtain ⟨⟨e2, o2⟩, -⟩ := k.2.2 j hj
  have hm := k.2.1
  have cmp : E L scr (d + 1) 333 [vI (nI (H.o j)), vI (nI (H.o i))] g = some (some (vI (if H.o j < H.o i then -1 else if H.o j = H.o i then 0 else 1)), g) := by
    refine r_Integer_compare _ _ _ (Sm.ret ?_)
    rw [t_Integer_compare_0]
    by_cases c1 : H.o j < H.o i
    · rw [if_neg (nI_ge c1 (by omega)), if_pos c1]
    · rw [if_pos (nI_le (by omega) (by omega)), if_neg c1]
      by_cases c2 : H.o j = H.o i
      · rw [if_pos (by rw [c2]), if_pos c2]
      · rw [if_neg (fun z => c2 ((nI_eq (by omega) (by omega)).mp z)), if_neg c2]
  refine r_View_isAhead _ _ _ _ (Sm.ret ?_)
  rw [t_View_isAhead_0, rd_Book_outAt (oob_nI (by omega) (by decide)), ix_nI (by omega), e2, rd_Book_outAt (oob_nI (by omega) (by decide)), ix_nI (by omega), e1, cmp, clI_ok]
  by_cases c1 : H.o j < H.o i
  · rw [if_pos c1, if_pos (by decide), decide_eq_true (Or.inl c1)]; rfl
  · rw [if_neg c1]
    by_cases c2 : H.o j = H.o i
    · rw [if_pos c2, if_neg (by decide), if_pos rfl]
      by_cases c3 : j < i
      · rw [if_neg (nI_ge c3 (by omega)), decide_eq_true (Or.inr ⟨c2, c3⟩)]; rfl
      · rw [if_pos (nI_le (by omega) (by omega)), decide_eq_false (fun z => z.elim c1 (fun y => c3 y.2))]; rfl
    · rw [if_neg c2, if_neg (by decide), if_neg (by decide), decide_eq_false (fun z => z.elim c1 (fun y => c2 y.1))]; rfl
theorem sumN_mono {p : Nat → Bool} {v : Nat → Nat} {a : Nat} : ∀ {n}, a ≤ n → sumN p v a ≤ sumN p v n
  | 0, h => by have : a = 0 := by omega
               rw [this]; exact Nat.le_refl _
  | n + 1, h => by
    rcases Nat.lt_or_ge n a with c | c
    · have : a = n + 1 := by omega
      rw [this]; exact Nat.le_refl _
    · refine Nat.le_trans (sumN_mono c) ?_
      cases e : p n with
      | true => rw [sumN_t e]; omega
      | false => rw [sumN_f e]; exact Nat.le_refl _
theorem sumN_leP {p : Nat → Bool} {v : Nat → Nat} {q : Nat} : ∀ {n}, (∀ k, k < n → p k = true → v k ≤ q) → sumN p v n ≤ n * q
  | 0, _ => Nat.zero_le _
  | n + 1, h => by
    have ih := sumN_leP (fun k hk => h k (Nat.lt_succ_of_lt hk)) (n := n)
    rw [Nat.succ_mul]
    cases e : p n with
    | true => rw [sumN_t e]; have := h n (Nat.lt_succ_self n) e; omega
    | false => rw [sumN_f e]; omega
theorem ah_bk {i j : Nat} (h : ahB H i j = true) : H.bk j = true := by
  unfold ahB at h
  rw [Bool.and_eq_true] at h
  exact h.1
theorem ah_sum (k : CK H m g) {i a : Nat} (ha : a ≤ m) : sumN (ahB H i) H.mi a ≤ 86280 := by
  have hm := k.2.1
  have := sumN_leP (p := ahB H i) (v := H.mi) (q := 719) (n := a) (fun j hj e => (ck_mi k (by omega) (ah_bk e)).1)
  have : a * 719 ≤ 120 * 719 := Nat.mul_le_mul_right _ (by omega)
  omega
theorem sub_le0 {a b : Nat} (ha : a < 2 ^ 30) (hb : b < 2 ^ 30) : nI a - nI b ≤ 0 ↔ a ≤ b := by
  rw [Int32.le_iff_toInt_le, nI_sub_toInt ha hb]
  show ((a : Int) - b ≤ 0) ↔ _
  omega
theorem max0_r {a b : Nat} (ha : a < 2 ^ 30) (hb : b < 2 ^ 30) : (if nI a - nI b < 0 then (0 : Int32) else nI a - nI b) = nI (a - b) := by
  by_cases c : a < b
  · rw [if_pos ((sub_lt0 ha hb).mpr c), show a - b = 0 by omega]; rfl
  · rw [if_neg (fun z => c ((sub_lt0 ha hb).mp z)), nI_sub (by omega)]
theorem c_freeMinutes (k : CK H m g) {i R mm : Nat} (hi : i < m) (hb : H.bk i = true) (hR : R < 1000) (er : hI g 604000040 mm (4 * H.w i + H.kd i) = nI R) : E L scr (d + 4) 116 [vR 900010 0, vI (nI i), vR 900005 mm] g = some (some (vI (nI (frN H m i R))), g) := by
  obtain ⟨-, ⟨-, -, -, k4⟩, ⟨w1, w2⟩, -⟩ := k.2.2 i hi
  have hm := k.2.1
  have bi := ck_mi k hi hb
  have fin : ∀ a, a ≤ m → (a < m → R ≤ sumN (ahB H i) H.mi a) → clI (E L scr (d + 3) 111 [vR 900010 0, vI (nI i)] g) (fun x2 h1 => clI (E L scr (d + 3) 336 [vI (nI R - nI (sumN (ahB H i) H.mi a)), vI 0] h1) (fun x4 h3 => clI (E L scr (d + 3) 337 [vI x2, vI x4] h3) (fun x6 h5 => (some (.inr (some (vI x6), h5)) : Option Exit)))) = some (.inr (some (vI (nI (frN H m i R))), g)) := fun a ha hs => by
    have b1 := ah_sum k (i := i) ha
    have e : R - sumN (ahB H i) H.mi a = R - sumN (ahB H i) H.mi m := by
      rcases Nat.lt_or_ge a m with c | c
      · have := hs c
        have := sumN_mono (p := ahB H i) (v := H.mi) (show a ≤ m from ha)
        omega
      · rw [show a = m by omega]
    rw [c_minsOf k hi hb, clI_ok, c_max, clI_ok, max0_r (by omega) (by omega), c_min, clI_ok, min_nI (by omega) (by omega), e]; rfl
  refine r_View_freeMinutes _ _ _ _ (Sm.step (t' := 1) (lo' := [some (vR 900010 0), some (vI (nI i)), some (vR 900005 mm), some (vI (nI (H.kd i))), some (vI (nI R - nI (sumN (ahB H i) H.mi 0))), some (vI (nI 0))]) (st' := []) (h' := g) ?_ ?_)
  · rw [t_View_freeMinutes_0, c_kindOfHire k hi, clI_ok, rd_Book_whoOf (oob_nI (by omega) (by decide)), ix_nI (by omega), w1, show (4 : Int32) = nI 4 from rfl, nI_mul, nI_add, rd_Law_rights (oob_nI (by omega) (by decide)), ix_nI (by omega), Nat.mul_comm (H.w i), er, show sumN (ahB H i) H.mi 0 = 0 from rfl, nI_sub (Nat.zero_le R)]; rfl
  refine Sm.find (lo := fun j => [some (vR 900010 0), some (vI (nI i)), some (vR 900005 mm), some (vI (nI (H.kd i))), some (vI (nI R - nI (sumN (ahB H i) H.mi j))), some (vI (nI j))]) (hh := fun _ => g) (r := fun _ => (some (vI (nI (frN H m i R))), g)) (fun j => decide (R ≤ sumN (ahB H i) H.mi j)) m (fun j hj hp => ?_) (fun j hj hp _ => Sm.ret ?_) (fun _ => Sm.ret ?_)
  · have hp := of_decide_eq_false hp
    have b1 := ah_sum k (i := i) (show j ≤ m by omega)
    rw [t_View_freeMinutes_1, k.1, if_neg (nI_ge hj (by omega)), if_neg (fun z => hp ((sub_le0 (by omega) (by omega)).mp z)), c_isBackH k hj, clI_ok, nI_1]
    cases e1 : H.bk j with
    | false => rw [if_pos (show zb false = 0 from rfl), sumN_f (show ahB H i j = false by unfold ahB; rw [e1, Bool.false_and])]
    | true =>
      rw [if_neg (show ¬ zb true = 0 by decide), c_sharesRight k hi hj, clI_ok]
      by_cases c1 : H.w j = H.w i ∧ H.o j / 720 = H.o i / 720 ∧ H.kd j = H.kd i
      · rw [decide_eq_true c1, if_neg (show ¬ zb true = 0 by decide), c_isAhead k hi hj, clI_ok]
        by_cases c2 : H.o j < H.o i ∨ (H.o j = H.o i ∧ j < i)
        · have bj := ck_mi k hj e1
          rw [decide_eq_true c2, if_neg (show ¬ zb true = 0 by decide), c_minsOf k hj e1, clI_ok, sub_sub_nI, sumN_t (show ahB H i j = true by unfold ahB; rw [e1, decide_eq_true c1, decide_eq_true c2]; rfl)]
        · rw [decide_eq_false c2, if_pos (show zb false = 0 from rfl), sumN_f (show ahB H i j = false by unfold ahB; rw [decide_eq_false c2, Bool.and_false, Bool.and_false])]
      · rw [decide_eq_false c1, if_pos (show zb false = 0 from rfl), sumN_f (show ahB H i j = false by unfold ahB; rw [decide_eq_false c1, Bool.false_and, Bool.and_false])]
  · have hp := of_decide_eq_true hp
    have b1 := ah_sum k (i := i) (show j ≤ m by omega)
    rw [t_View_freeMinutes_1, k.1, if_neg (nI_ge hj (by omega)), if_pos ((sub_le0 (by omega) (by omega)).mpr hp)]
    exact fin j (by omega) (fun _ => hp)
  · rw [t_View_freeMinutes_1, k.1, if_pos (nI_le (Nat.le_refl _) (by omega))]
    exact fin m (Nat.le_refl m) (fun z => absurd z (Nat.lt_irrefl m))
end Right

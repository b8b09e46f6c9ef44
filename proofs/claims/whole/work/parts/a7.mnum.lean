/-! NUMBERS TAKEN, on the reference's side -/
abbrev dgB : Nat → Bool := fun c => decide (isDg c)
def isNm (lo hi t : Nat) : Bool := decide (1000 ≤ t ∧ t < 2000 ∧ lo + 1000 ≤ t ∧ t ≤ hi + 1000)
theorem tok_nd {v : Nat → Nat} {n q : Nat} (dg : ¬ isDg (v q)) : ¬ (1000 ≤ tokC v q (endP v n q) ∧ tokC v q (endP v n q) < 2000) := by
  unfold tokC
  rw [if_neg dg]
  by_cases l : isLt (v q)
  · rw [if_pos l]
    have sl : slN (fun i => v (q + i)) (endP v n q - q) < 23 ∨ slN (fun i => v (q + i)) (endP v n q - q) = 3000 := by
      unfold slN
      split
      · exact Or.inr rfl
      · cases e : ffst (mtA (fun i => v (q + i)) (endP v n q - q)) 23 with
        | none => exact Or.inr rfl
        | some j => exact Or.inl (ffst_some e).1
    omega
  · rw [if_neg l]
    by_cases sg : isSg (v q)
    · rw [if_pos sg]; omega
    · rw [if_neg sg]; omega
theorem inB_n {a lo hi : Nat} (ha : a < 2 ^ 31) (hl : lo < 2 ^ 31) (hh : hi < 2 ^ 31) : inB (nI a) (nI lo) (nI hi) = decide (lo ≤ a ∧ a ≤ hi) := by
  unfold inB
  apply decide_eq_decide.mpr
  rw [nI_leI hl ha, nI_leI ha hh]
def nuB (v : Nat → Nat) (q lo hi k : Nat) : Bool := decide (k ≠ 0 ∧ k ≤ 3 ∧ lo ≤ numN v q k ∧ numN v q k ≤ hi)
section MNum
variable {L : Nat} {scr : Nat → Int32} {d : Nat}
theorem nu_fin {v : Nat → Nat} {n q lo hi k : Nat} {h : MH} (hl : lo ≤ 999) (hh : hi ≤ 999) (a : AtM h v n q) (er : k ≤ 3 → hI h 1325 0 0 = nI (numN v q k)) (hk : q + k ≤ n) (dg : ∀ i, i < k → isDg (v (q + i))) : ∃ h2, (if nI (q + k) = (hI h 1305 0 0) then rtZ 0 h else if (3 : Int32) < (nI (q + k) - (hI h 1305 0 0)) then rtZ 0 h else clI (E L scr (d + 1) 198 [vI (hI h 1325 0 0), vI (nI lo), vI (nI hi)] h) (fun x2 h1 => if x2 = (0 : Int32) then rtZ 0 h1 else rtZ 1 (sI h1 1305 0 0 (nI (q + k))))) = some (.inr (some (vI (zb (nuB v q lo hi k))), h2)) ∧ Upd WLx h h2 ∧ AtM h2 v n (if nuB v q lo hi k = true then q + k else q) ∧ (nuB v q lo hi k = true → hI h2 1325 0 0 = nI (numN v q k)) := by
  obtain ⟨⟨n9, es, ht, hv⟩, hq, ea⟩ := id a
  rw [ea]
  have no : nuB v q lo hi k = false → AtM h v n (if nuB v q lo hi k = true then q + k else q) ∧ (nuB v q lo hi k = true → hI h 1325 0 0 = nI (numN v q k)) := fun z => ⟨by rw [z, if_neg (by decide)]; exact a, fun y => by rw [z] at y; cases y⟩
  by_cases k0 : k = 0
  · have z : nuB v q lo hi k = false := decide_eq_false (fun z => z.1 k0)
    refine ⟨h, ?_, Upd.rf _ h, no z⟩
    rw [if_pos (by rw [k0]; rfl), z, rtZ0]; rfl
  · rw [if_neg (fun z => by have := (nI_eq (by omega) (by omega)).mp z; omega), nI_sub (by omega), Nat.add_sub_cancel_left]
    by_cases k3 : k ≤ 3
    · rw [if_neg (show ¬ 3 < nI k from fun z => by have := (nI_ltI (a := 3) (by decide) (by omega)).mp z; omega), er k3]
      have nl := numN_3 k3 dg
      rw [c_M_isIn, clI_ok, inB_n (by omega) (by omega) (by omega)]
      by_cases c : lo ≤ numN v q k ∧ numN v q k ≤ hi
      · have z : nuB v q lo hi k = true := decide_eq_true ⟨k0, k3, c⟩
        have u2 : Upd WLx h (sI h 1305 0 0 (nI (q + k))) := (Upd.rf _ h).sI (by decide)
        refine ⟨sI h 1305 0 0 (nI (q + k)), by rw [decide_eq_true c, itT, z, rtZ1]; rfl, u2, ?_, fun _ => ?_⟩
        · rw [z, if_pos rfl]
          refine ⟨TxV.fr u2 (by decide) a.1, hk, ?_⟩
          simp only [hI_row, and_true, true_and, if_true, up_s]
        · simp only [hI_row, Nat.reduceEqDiff, false_and, if_false]
          exact er k3
      · have z : nuB v q lo hi k = false := decide_eq_false (fun z => c z.2.2)
        exact ⟨h, by rw [decide_eq_false c, itF, z, rtZ0]; rfl, Upd.rf _ h, no z⟩
    · have z : nuB v q lo hi k = false := decide_eq_false (fun z => k3 z.2.1)
      refine ⟨h, ?_, Upd.rf _ h, no z⟩
      rw [if_pos (show 3 < nI k from nI_lt (a := 3) (by omega) (by omega)), z, rtZ0]; rfl
theorem nu_run {v : Nat → Nat} {n q lo hi : Nat} (hl : lo ≤ 999) (hh : hi ≤ 999) : ∀ (f k : Nat) (h : MH), AtM h v n q → (hI h 1325 0 0 = nI (numN v q (if k ≤ 3 then k else 3))) → q + k ≤ n → n - (q + k) ≤ f → (∀ i, i < k → isDg (v (q + i))) → ∃ h2, Sm L scr (d + 1) B_M_takesNumber C_M_takesNumber 1 [some (vR 900012 0), some (vI (nI lo)), some (vI (nI hi)), some (vI (nI (q + k)))] [] h (some (vI (zb (nuB v q lo hi (rnE dgB v n f (q + k) - q)))), h2) ∧ Upd WLx h h2 ∧ AtM h2 v n (if nuB v q lo hi (rnE dgB v n f (q + k) - q) = true then rnE dgB v n f (q + k) else q) ∧ (nuB v q lo hi (rnE dgB v n f (q + k) - q) = true → hI h2 1325 0 0 = nI (numN v q (rnE dgB v n f (q + k) - q))) := by
  intro f
  induction f with
  | zero =>
    intro k h a er hk hf dg
    obtain ⟨⟨n9, es, ht, hv⟩, hp, ea⟩ := id a
    obtain ⟨h2, e, u, a2, r2⟩ := nu_fin (L := L) (scr := scr) (d := d) hl hh a (fun k3 => by rw [er, if_pos k3]) hk dg
    have e0 : rnE dgB v n 0 (q + k) = q + k := rfl
    rw [e0, Nat.add_sub_cancel_left]
    refine ⟨h2, Sm.ret ?_, u, a2, r2⟩
    rw [t_M_takesNumber_1, if_pos (by rw [es]; exact nI_le (by omega) (by omega))]
    exact e
  | succ f ih =>
    intro k h a er hk hf dg
    obtain ⟨⟨n9, es, ht, hv⟩, hp, ea⟩ := id a
    have e1 : rnE dgB v n (f + 1) (q + k) = if q + k < n ∧ dgB (v (q + k)) = true then rnE dgB v n f (q + k + 1) else q + k := rfl
    have stop : rnE dgB v n (f + 1) (q + k) = q + k → _ := fun e0 => nu_fin (L := L) (scr := scr) (d := d) hl hh a (fun k3 => by rw [er, if_pos k3]) hk dg
    rcases Nat.lt_or_ge (q + k) n with c | c
    · have ng : ¬ hI h 1304 0 0 ≤ nI (q + k) := by rw [es]; exact nI_ge c (by omega)
      have v8 := hv (q + k)
      have rd : ∀ {X : Type} {K : Int32 → Option X}, rdI 1 h 1323100900 0 (nI (q + k)) K = K (txI (v (q + k))) := fun {X} {K} => by rw [rd_M_text (oob_nI (by omega) (by decide)), ix_nI (by omega), ht _ c]
      by_cases b : isDg (v (q + k))
      · rw [e1, if_pos ⟨c, decide_eq_true b⟩]
        have n1 : ¬ txI (v (q + k)) < 48 := fun z => by have := (tx_lt (k := 48) v8 (by decide)).mp z; omega
        have n2 : ¬ 57 < txI (v (q + k)) := fun z => by have := (tx_gt (k := 57) v8 (by decide)).mp z; omega
        have dg2 : ∀ i, i < k + 1 → isDg (v (q + i)) := fun i hi => by
          rcases Nat.lt_succ_iff_lt_or_eq.mp hi with w | w
          · exact dg i w
          · rw [w]; exact b
        by_cases k3 : 3 ≤ k
        · obtain ⟨h2, s, u, r2⟩ := ih (k + 1) h a (by rw [er]; by_cases z : k ≤ 3; (rw [if_pos z, if_neg (by omega), show k = 3 by omega]); (rw [if_neg z, if_neg (by omega)])) (by omega) (by omega) dg2
          refine ⟨h2, Sm.step ?_ s, u, r2⟩
          rw [t_M_takesNumber_1, if_neg ng, rd, if_neg n1, rd, if_neg n2, ea, nI_sub (by omega), Nat.add_sub_cancel_left, if_pos (show (3 : Int32) ≤ nI k from nI_le (a := 3) k3 (by omega)), nI_1]
          rfl
        · have tx : txI (v (q + k)) = nI (v (q + k)) := by unfold txI; rw [if_pos (by omega)]
          obtain ⟨w, hw⟩ : ∃ w, w = sI h 1325 0 0 (nI (numN v q (k + 1))) := ⟨_, rfl⟩
          have u1 : Upd WLx h w := by rw [hw]; exact (Upd.rf _ h).sI (by decide)
          have a1 : AtM w v n q := by
            refine ⟨TxV.fr u1 (by decide) a.1, hp, ?_⟩
            rw [hw]
            simp only [hI_row, Nat.reduceEqDiff, false_and, if_false]
            exact ea
          obtain ⟨h2, s, u, r2⟩ := ih (k + 1) w a1 (by rw [hw]; simp only [hI_row, and_true, true_and, if_true, up_s]; rw [if_pos (by omega)]) (by omega) (by omega) dg2
          refine ⟨h2, Sm.step ?_ s, u1.tr u, r2⟩
          rw [t_M_takesNumber_1, if_neg ng, rd, if_neg n1, rd, if_neg n2, ea, nI_sub (by omega), Nat.add_sub_cancel_left, if_neg (show ¬ (3 : Int32) ≤ nI k from nI_ge (b := 3) (by omega) (by decide)), rd, nI_1, er, if_pos (by omega), tx, show (10 : Int32) = nI 10 from rfl, show (48 : Int32) = nI 48 from rfl, nI_mul, nI_add, nI_sub (by omega), hw, Nat.add_sub_assoc b.1, Nat.mul_comm]
          rfl
      · have e0 : rnE dgB v n (f + 1) (q + k) = q + k := by rw [e1, if_neg (fun z => b (of_decide_eq_true z.2))]
        obtain ⟨h2, e, u, a2, r2⟩ := stop e0
        rw [e0, Nat.add_sub_cancel_left]
        refine ⟨h2, Sm.ret ?_, u, a2, r2⟩
        rw [t_M_takesNumber_1, if_neg ng, rd]
        by_cases n1 : txI (v (q + k)) < 48
        · rw [if_pos n1]; exact e
        · rw [if_neg n1, rd]
          have n2 : 57 < txI (v (q + k)) := (tx_gt (k := 57) v8 (by decide)).mpr (by
            have : ¬ (v (q + k) < 48 ∨ 128 ≤ v (q + k)) := fun z => n1 ((tx_lt (k := 48) v8 (by decide)).mpr z)
            omega)
          rw [if_pos n2]; exact e
    · have e0 : rnE dgB v n (f + 1) (q + k) = q + k := by rw [e1, if_neg (fun z => by have := z.1; omega)]
      obtain ⟨h2, e, u, a2, r2⟩ := stop e0
      rw [e0, Nat.add_sub_cancel_left]
      refine ⟨h2, Sm.ret ?_, u, a2, r2⟩
      rw [t_M_takesNumber_1, if_pos (by rw [es]; exact nI_le (by omega) (by omega))]
      exact e
theorem c_M_takesNumber {lo hi : Nat} (hl : lo ≤ 999) (hh : hi ≤ 999) {h : MH} {v : Nat → Nat} {n p t g : Nat} {r : List (Nat × Nat)} (a : AtM h v n p) (e : lex v n p = (t, g) :: r) : ∃ h2 q, E L scr (d + 2) 212 [vR 900012 0, vI (nI lo), vI (nI hi)] h = some (some (vI (zb (isNm lo hi t))), h2) ∧ Upd WLx h h2 ∧ AtM h2 v n q ∧ lex v n q = (if isNm lo hi t = true then r else (t, g) :: r) ∧ (isNm lo hi t = true → hI h2 1325 0 0 = nI (t - 1000)) := by
  obtain ⟨h1, q, e1, u1, a1, nb, pq, lx⟩ := c_M_blanks (L := L) (scr := scr) (d := d) a
  replace u1 : Upd WLx h h1 := u1.mono (by decide)
  rw [e] at lx
  obtain ⟨w, hw⟩ : ∃ w, w = sI h1 1325 0 0 (nI 0) := ⟨_, rfl⟩
  have u2 : Upd WLx h1 w := by rw [hw]; exact (Upd.rf _ h1).sI (by decide)
  have a2 : AtM w v n q := by
    refine ⟨TxV.fr u2 (by decide) a1.1, a1.2.1, ?_⟩
    rw [hw]
    simp only [hI_row, Nat.reduceEqDiff, false_and, if_false]
    exact a1.2.2
  obtain ⟨h2, s, u3, a3, r3⟩ := nu_run (L := L) (scr := scr) (d := d) hl hh n 0 w a2 (by rw [hw]; simp only [hI_row, and_true, true_and, if_true, up_s]; rfl) a1.2.1 (by omega) (fun i hi => absurd hi (Nat.not_lt_zero i))
  have same : nuB v q lo hi (rnE dgB v n n (q + 0) - q) = isNm lo hi t ∧ (isNm lo hi t = true → r = lex v n (rnE dgB v n n (q + 0)) ∧ numN v q (rnE dgB v n n (q + 0) - q) = t - 1000) := by
    rw [Nat.add_zero]
    obtain ⟨-, ⟨rfl, rfl, rfl⟩ | ⟨c, rfl, rfl⟩⟩ := lex_h nb lx
    · rw [rn_n, Nat.sub_self]
      have z1 : nuB v q lo hi 0 = false := decide_eq_false (fun z => z.1 rfl)
      have z2 : isNm lo hi 4000 = false := decide_eq_false (fun z => by omega)
      rw [z1, z2]
      exact ⟨rfl, fun z => nomatch z⟩
    · rw [rn_1 c]
      by_cases dg : isDg (v q)
      · rw [if_pos (show dgB (v q) = true from decide_eq_true dg)]
        have ee : rnE dgB v n n (q + 1) = endP v n q := by
          unfold endP
          rw [if_neg (show ¬ isLt (v q) by omega), if_pos dg]
        rw [ee]
        have gt := endP_gt (v := v) (n := n) (p := q)
        have ds := endP_dg (n := n) dg
        have tk : tokC v q (endP v n q) = if endP v n q - q ≤ 3 then 1000 + numN v q (endP v n q - q) else 3000 := by
          unfold tokC
          rw [if_pos dg]
        by_cases k3 : endP v n q - q ≤ 3
        · have nl := numN_3 (v := v) (p := q) k3 (fun i hi => ds (q + i) (by omega) (by omega))
          rw [tk, if_pos k3]
          refine ⟨decide_eq_decide.mpr ?_, fun _ => ⟨rfl, by omega⟩⟩
          constructor
          · rintro ⟨x1, x2, x3, x4⟩
            omega
          · rintro ⟨x1, x2, x3, x4⟩
            omega
        · rw [tk, if_neg k3]
          have z1 : nuB v q lo hi (endP v n q - q) = false := decide_eq_false (fun z => k3 z.2.1)
          have z2 : isNm lo hi 3000 = false := decide_eq_false (fun z => by omega)
          rw [z1, z2]
          exact ⟨rfl, fun z => nomatch z⟩
      · rw [if_neg (show ¬ dgB (v q) = true from fun z => dg (of_decide_eq_true z)), Nat.sub_self]
        have z1 : nuB v q lo hi 0 = false := decide_eq_false (fun z => z.1 rfl)
        have z2 : isNm lo hi (tokC v q (endP v n q)) = false := decide_eq_false (fun z => tok_nd (n := n) dg ⟨z.1, z.2.1⟩)
        rw [z1, z2]
        exact ⟨rfl, fun z => nomatch z⟩
  obtain ⟨s1, s2⟩ := same
  rw [s1] at s a3 r3
  refine ⟨h2, _, r_M_takesNumber (d := d + 1) _ _ _ _ (Sm.step ?_ s), u1.tr (u2.tr u3), a3, ?_, fun z => ?_⟩
  · rw [t_M_takesNumber_0, e1, clV_ok, a1.2.2, hw]; rfl
  · cases z : isNm lo hi t with
    | true => rw [if_pos rfl, if_pos rfl, (s2 z).1]
    | false => rw [if_neg (by decide), if_neg (by decide), lx]
  · rw [r3 z, (s2 z).2]
end MNum

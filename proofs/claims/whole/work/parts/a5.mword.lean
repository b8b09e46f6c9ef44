/-! WORDS, on the reference's side -/
theorem rnE_f {P : Nat → Bool} {v : Nat → Nat} {n : Nat} : ∀ {f g p : Nat}, n - p ≤ f → n - p ≤ g → rnE P v n f p = rnE P v n g p
  | 0, 0, _, _, _ => rfl
  | 0, g + 1, p, h1, _ => by
    show p = if p < n ∧ P (v p) = true then rnE P v n g (p + 1) else p
    rw [if_neg (fun z => by have := z.1; omega)]
  | f + 1, 0, p, _, h2 => by
    show (if p < n ∧ P (v p) = true then rnE P v n f (p + 1) else p) = p
    rw [if_neg (fun z => by have := z.1; omega)]
  | f + 1, g + 1, p, h1, h2 => by
    show (if p < n ∧ P (v p) = true then rnE P v n f (p + 1) else p) = if p < n ∧ P (v p) = true then rnE P v n g (p + 1) else p
    rw [rnE_f (f := f) (g := g) (p := p + 1) (by omega) (by omega)]
def wvN (g : Nat → Nat) (k : Nat) : Nat := if k ≤ 7 then pkN g k else 0
abbrev ltB : Nat → Bool := fun c => decide (isLt c)
/-- words compared -/
theorem cmp_l {a b : Nat} (ha : a < 2 ^ 62) (hb : b < 2 ^ 62) : ((if lN a < lN b then (-1 : Int32) else if lN b < lN a then 1 else 0) = 0) ↔ a = b := by
  have i1 : (lN a).toInt = a := Int64.toInt_ofNat_of_lt (by omega)
  have i2 : (lN b).toInt = b := Int64.toInt_ofNat_of_lt (by omega)
  by_cases c : lN a < lN b
  · rw [if_pos c]
    rw [Int64.lt_iff_toInt_lt, i1, i2] at c
    exact ⟨fun z => absurd z (by decide), fun z => by omega⟩
  · rw [if_neg c]
    by_cases e : lN b < lN a
    · rw [if_pos e]
      rw [Int64.lt_iff_toInt_lt, i1, i2] at e
      exact ⟨fun z => absurd z (by decide), fun z => by omega⟩
    · rw [if_neg e]
      rw [Int64.lt_iff_toInt_lt, i1, i2] at c e
      exact ⟨fun _ => by omega, fun _ => rfl⟩
theorem wv_lt {v : Nat → Nat} {q k : Nat} (hv : ∀ i, v i < 256) : wvN (fun i => v (q + i)) k < 2 ^ 62 := by
  unfold wvN
  split
  · rename_i c
    have h1 := pkN_lt (f := fun i => v (q + i)) (k := k) (fun i _ => hv (q + i))
    have h2 : 256 ^ k ≤ 256 ^ 7 := Nat.pow_le_pow_right (by decide) c
    have h3 : 256 ^ 7 < 2 ^ 62 := by decide
    omega
  · decide
theorem wdK_ok : ∀ s : Fin 23, 0 < wdK.getD s.val 0 ∧ wdK.getD s.val 0 < 2 ^ 62 := by decide
/-- no word begins with no letter -/
theorem tokC_sg {v : Nat → Nat} {p e : Nat} (h : ¬ isLt (v p)) : 23 ≤ tokC v p e := by
  unfold tokC
  split
  · split <;> omega
  · split <;> omega
section MWord
variable {L : Nat} {scr : Nat → Int32} {d : Nat}
theorem wo_run {v : Nat → Nat} {n q : Nat} : ∀ (f k : Nat) (h : MH) (z : Option MV), AtM h v n q → hI h 1324 0 0 = nI (q + k) → q + k ≤ n → n - (q + k) ≤ f → ∃ h2, Sm L scr d B_M_word C_M_word 1 [some (vR 900012 0), some (vL (lN (wvN (fun i => v (q + i)) k))), z] [] h (some (vL (lN (wvN (fun i => v (q + i)) (rnE ltB v n f (q + k) - q)))), h2) ∧ Upd [(1324, 0)] h h2 ∧ hI h2 1324 0 0 = nI (rnE ltB v n f (q + k)) := by
  have fin : ∀ (k : Nat) (h : MH), AtM h v n q → hI h 1324 0 0 = nI (q + k) → q + k ≤ n → (if ((hI h 1324 0 0) - (hI h 1305 0 0)) ≤ (7 : Int32) then (some (.inr (some (vL (lN (wvN (fun i => v (q + i)) k))), h)) : Option ((Nat × List (Option MV) × List MV × MH) ⊕ RT)) else some (.inr (some (vL 0), h))) = some (.inr (some (vL (lN (wvN (fun i => v (q + i)) k))), h)) := fun k h a ew hk => by
    obtain ⟨⟨n9, es, ht, hv⟩, hp, ea⟩ := a
    rw [ew, ea, nI_sub (by omega), Nat.add_sub_cancel_left]
    by_cases c : k ≤ 7
    · rw [if_pos (show nI k ≤ 7 from nI_le (b := 7) c (by decide))]
    · rw [if_neg (show ¬ nI k ≤ 7 from nI_ge (a := 7) (by omega) (by omega))]
      unfold wvN
      rw [if_neg c]
      rfl
  intro f
  induction f with
  | zero =>
    intro k h z a ew hk hf
    obtain ⟨⟨n9, es, ht, hv⟩, hp, ea⟩ := id a
    refine ⟨h, Sm.ret ?_, Upd.rf _ h, ew⟩
    show _ = some (Sum.inr (some (vL (lN (wvN (fun i => v (q + i)) (q + k - q)))), h))
    rw [t_M_word_1, es, if_pos (by rw [ew]; exact nI_le (by omega) (by omega)), fin k h a ew hk, Nat.add_sub_cancel_left]
  | succ f ih =>
    intro k h z a ew hk hf
    obtain ⟨⟨n9, es, ht, hv⟩, hp, ea⟩ := id a
    show ∃ h2, Sm L scr d B_M_word C_M_word 1 _ [] h (some (vL (lN (wvN (fun i => v (q + i)) ((if q + k < n ∧ ltB (v (q + k)) = true then rnE ltB v n f (q + k + 1) else q + k) - q)))), h2) ∧ Upd [(1324, 0)] h h2 ∧ hI h2 1324 0 0 = nI (if q + k < n ∧ ltB (v (q + k)) = true then rnE ltB v n f (q + k + 1) else q + k)
    rcases Nat.lt_or_ge (q + k) n with c | c
    · have ng : ¬ nI n ≤ nI (q + k) := nI_ge c (by omega)
      have v8 := hv (q + k)
      have rd : ∀ {X : Type} {K : Int32 → Option X}, rdI 1 h 1323100900 0 (nI (q + k)) K = K (txI (v (q + k))) := fun {X} {K} => by rw [rd_M_text (oob_nI (by omega) (by decide)), ix_nI (by omega), ht _ c]
      by_cases b : isLt (v (q + k))
      · rw [if_pos ⟨c, decide_eq_true b⟩]
        have n1 : ¬ txI (v (q + k)) < 97 := fun z => by have := (tx_lt (k := 97) v8 (by decide)).mp z; omega
        have n2 : ¬ 122 < txI (v (q + k)) := fun z => by have := (tx_gt (k := 122) v8 (by decide)).mp z; omega
        have u1 : Upd [(1324, 0)] h (sI h 1324 0 0 (nI (q + (k + 1)))) := (Upd.rf _ h).sI (by decide)
        have a1 : AtM (sI h 1324 0 0 (nI (q + (k + 1)))) v n q := by
          refine ⟨TxV.fr u1 (by decide) a.1, hp, ?_⟩
          simp only [hI_row, Nat.reduceEqDiff, false_and, if_false]
          exact ea
        obtain ⟨h2, s, u, e⟩ := ih (k + 1) (sI h 1324 0 0 (nI (q + (k + 1)))) none a1 (by simp only [hI_row, and_true, true_and, if_true, up_s]) (by omega) (by omega)
        refine ⟨h2, Sm.step ?_ s, u1.tr u, e⟩
        rw [t_M_word_1, es, ew, ea, if_neg ng, rd, if_neg n1, rd, if_neg n2, nI_sub (by omega), Nat.add_sub_cancel_left, rd]
        by_cases k7 : 7 ≤ k
        · rw [if_pos (show (7 : Int32) ≤ nI k from nI_le (a := 7) k7 (by omega)), nI_1]
          unfold wvN
          rw [if_neg (by omega)]
          rfl
        · rw [if_neg (show ¬ (7 : Int32) ≤ nI k from nI_ge (b := 7) (by omega) (by decide)), nI_1]
          have tx : txI (v (q + k)) = nI (v (q + k)) := by unfold txI; rw [if_pos (by omega)]
          have pl := pkN_lt (f := fun i => v (q + i)) (k := k) (fun i _ => hv (q + i))
          have p2 : 256 ^ k ≤ 256 ^ 6 := Nat.pow_le_pow_right (by decide) (by omega)
          have p3 : 256 ^ 6 < 2 ^ 55 := by decide
          unfold wvN
          rw [if_pos (show k ≤ 7 by omega), if_pos (show k + 1 ≤ 7 by omega), tx]
          have := sh8 (a := pkN (fun i => v (q + i)) k) (c := v (q + k)) (by omega) v8
          replace this : (lN (pkN (fun i => v (q + i)) k) <<< (Int32.toInt64 8 &&& 63)) ||| (Int32.toInt64 (nI (v (q + k)))) = lN (pkN (fun i => v (q + i)) (k + 1)) := this
          rw [this]
          rfl
      · rw [if_neg (fun z => b (of_decide_eq_true z.2))]
        refine ⟨h, Sm.ret ?_, Upd.rf _ h, ew⟩
        have fk := fin k h a ew hk
        rw [ew, ea] at fk
        rw [t_M_word_1, es, ew, ea, if_neg ng, rd]
        by_cases n1 : txI (v (q + k)) < 97
        · rw [if_pos n1, fk, Nat.add_sub_cancel_left]
        · rw [if_neg n1, rd]
          have n2 : 122 < txI (v (q + k)) := (tx_gt (k := 122) v8 (by decide)).mpr (by
            have : ¬ (v (q + k) < 97 ∨ 128 ≤ v (q + k)) := fun z => n1 ((tx_lt (k := 97) v8 (by decide)).mpr z)
            omega)
          rw [if_pos n2, fk, Nat.add_sub_cancel_left]
    · rw [if_neg (fun z => by have := z.1; omega)]
      refine ⟨h, Sm.ret ?_, Upd.rf _ h, ew⟩
      rw [t_M_word_1, es, if_pos (by rw [ew]; exact nI_le (by omega) (by omega)), fin k h a ew hk, Nat.add_sub_cancel_left]
/-- a word taken, not yet passed -/
theorem c_M_word {h : MH} {v : Nat → Nat} {n p : Nat} (a : AtM h v n p) : ∃ h2 q, E L scr (d + 2) 209 [vR 900012 0] h = some (some (vL (lN (wvN (fun i => v (q + i)) (rnE ltB v n n q - q)))), h2) ∧ Upd WLx h h2 ∧ AtM h2 v n q ∧ NoB v n q ∧ lex v n q = lex v n p ∧ hI h2 1324 0 0 = nI (rnE ltB v n n q) := by
  obtain ⟨h1, q, e1, u1, a1, nb, pq, lx⟩ := c_M_blanks (L := L) (scr := scr) (d := d) a
  have u2 : Upd [(1324, 0)] h1 (sI h1 1324 0 0 (nI (q + 0))) := (Upd.rf _ h1).sI (by decide)
  have a2 : AtM (sI h1 1324 0 0 (nI (q + 0))) v n q := by
    refine ⟨TxV.fr u2 (by decide) a1.1, a1.2.1, ?_⟩
    simp only [hI_row, Nat.reduceEqDiff, false_and, if_false]
    exact a1.2.2
  obtain ⟨h2, s, u3, e3⟩ := wo_run (L := L) (scr := scr) (d := d + 1) n 0 (sI h1 1324 0 0 (nI (q + 0))) none a2 (by simp only [hI_row, and_true, true_and, if_true, up_s]) a1.2.1 (by omega)
  have uw : ∀ {W : List (Nat × Nat)} {x y : MH}, (∀ q ∈ W, q ∈ WLx) → Upd W x y → Upd WLx x y := fun hw u => u.mono hw
  refine ⟨h2, q, r_M_word (d := d + 1) _ _ (Sm.step ?_ s), (uw (by decide) u1).tr ((uw (by decide) u2).tr (uw (by decide) u3)), ⟨TxV.fr u3 (by decide) a2.1, a2.2.1, ?_⟩, nb, lx, e3⟩
  · rw [t_M_word_0, e1, clV_ok, a1.2.2]; rfl
  · have := u3.2 1305 0 (by decide)
    rw [this]; exact a2.2.2
end MWord

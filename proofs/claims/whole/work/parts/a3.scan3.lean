/-! THE SCAN: the tape read -/
theorem numN_lt {v : Nat → Nat} {p : Nat} : ∀ {k : Nat}, (∀ i, i < k → isDg (v (p + i))) → numN v p k < 10 ^ k
  | 0, _ => Nat.one_pos
  | k + 1, h => by
    have i1 := numN_lt (v := v) (p := p) (k := k) (fun i hi => h i (by omega))
    have i2 := h k (by omega)
    show numN v p k * 10 + (v (p + k) - 48) < 10 ^ (k + 1)
    rw [Nat.pow_succ]
    omega
theorem numN_3 {v : Nat → Nat} {p k : Nat} (hk : k ≤ 3) (h : ∀ i, i < k → isDg (v (p + i))) : numN v p k < 1000 := by
  have := numN_lt (v := v) (p := p) h
  have l : 10 ^ k ≤ 10 ^ 3 := Nat.pow_le_pow_right (by decide) hk
  exact Nat.lt_of_lt_of_le this l
/-- within a run all are of its kind -/
theorem endP_dg {v : Nat → Nat} {n p : Nat} (c : isDg (v p)) : ∀ i, p ≤ i → i < endP v n p → isDg (v i) := by
  intro i h1 h2
  unfold endP at h2
  rw [if_neg (show ¬ isLt (v p) by omega), if_pos c] at h2
  by_cases e : i = p
  · rw [e]; exact c
  · exact of_decide_eq_true (rnE_in (P := fun c => decide (isDg c)) (show p + 1 ≤ i by omega) h2)
theorem endP_lt {v : Nat → Nat} {n p : Nat} (c : isLt (v p)) : ∀ i, p ≤ i → i < endP v n p → isLt (v i) := by
  intro i h1 h2
  unfold endP at h2
  rw [if_pos c] at h2
  by_cases e : i = p
  · rw [e]; exact c
  · exact of_decide_eq_true (rnE_in (P := fun c => decide (isLt c)) (show p + 1 ≤ i by omega) h2)
theorem BtV.of {h h2 : MH} {v : Nat → Nat} {n : Nat} (e : hI h2 700000900 0 = hI h 700000900 0) (b : BtV h v n) : BtV h2 v n := by
  unfold BtV; rw [e]; exact b
abbrev WSc : List (Nat × Nat) := [(702000901, 0), (703000901, 0)]
section Scan3
variable {L : Nat} {scr : Nat → Int32} {d : Nat}
theorem c_tokenOf {h : MH} {v : Nat → Nat} {n p : Nat} (b : BtV h v n) (hp : p < n) : E L scr (d + 7) 73 [vR 900006 0, vI (nI p), vI (nI (endP v n p))] h = some (some (vI (tkI (tokC v p (endP v n p)))), h) := by
  obtain ⟨n9, hb, hv⟩ := id b
  have gt := endP_gt (v := v) (n := n) (p := p)
  have le := endP_le (v := v) hp
  have v8 := hv p
  refine r_Reader_tokenOf (d := d + 6) _ _ _ _ (Sm.ret ?_)
  unfold tokC
  by_cases c1 : isDg (v p)
  · have dg := endP_dg (n := n) c1
    rw [if_pos c1, t_Reader_tokenOf_0, rd_Reader_bytes (oob_nI (by omega) (by decide)), ix_nI (by omega), hb p hp, c_isDigit (hv p), clI_ok, decide_eq_true c1, itT, c_numberOf b le (by omega) dg, clI_ok]
    by_cases c : endP v n p - p ≤ 3
    · have := numN_3 (v := v) (p := p) c (fun i hi => dg (p + i) (by omega) (by omega))
      rw [if_pos c, if_pos c]
      unfold tkI
      rw [if_neg (by omega), if_neg (by omega)]
    · rw [if_neg c, if_neg c]; rfl
  · rw [if_neg c1, t_Reader_tokenOf_0, rd_Reader_bytes (oob_nI (by omega) (by decide)), ix_nI (by omega), hb p hp, c_isDigit (hv p), clI_ok, decide_eq_false c1, itF, c_isLetter (hv p), clI_ok]
    by_cases c2 : isLt (v p)
    · rw [if_pos c2, decide_eq_true c2, itT, c_slotOf b le (by omega), clI_ok]
    · rw [if_neg c2, decide_eq_false c2, itF]
      have tk : v p < 256 → tkI (v p) = nI (v p) := fun _ => by
        unfold tkI
        rw [if_neg (by omega), if_neg (by omega)]
      by_cases a1 : nI (v p) = 59
      · have := (nI_eq (a := v p) (b := 59) (by omega) (by decide)).mp a1
        rw [if_pos a1, if_pos (Or.inl this), tk v8]
      · have n1 : v p ≠ 59 := fun z => a1 (by rw [z]; rfl)
        rw [if_neg a1]
        by_cases a2 : nI (v p) = 40
        · have := (nI_eq (a := v p) (b := 40) (by omega) (by decide)).mp a2
          rw [if_pos a2, if_pos (Or.inr (Or.inl this)), tk v8]
        · have n2 : v p ≠ 40 := fun z => a2 (by rw [z]; rfl)
          rw [if_neg a2]
          by_cases a3 : nI (v p) = 41
          · have := (nI_eq (a := v p) (b := 41) (by omega) (by decide)).mp a3
            rw [if_pos a3, if_pos (Or.inr (Or.inr (Or.inl this))), tk v8]
          · have n3 : v p ≠ 41 := fun z => a3 (by rw [z]; rfl)
            rw [if_neg a3, c_isComparison (hv p), clI_ok]
            by_cases a4 : 60 ≤ v p ∧ v p ≤ 62
            · rw [decide_eq_true a4, itT, if_pos (Or.inr (Or.inr (Or.inr a4))), tk v8]
            · rw [decide_eq_false a4, itF, if_neg (fun z => by rcases z with z | z | z | z; exact n1 z; exact n2 z; exact n3 z; exact a4 z)]
              rfl
/-- the list l stands in the class's arrays from c on -/
def LxR (h : MH) (c : Nat) (l : List (Nat × Nat)) : Prop := ∀ j q, l[j]? = some q → hI h 702000901 0 (c + j) = tkI q.1 ∧ hI h 703000901 0 (c + j) = nI q.2
theorem sc_run {v : Nat → Nat} {n : Nat} : ∀ (f c p : Nat) (z : Option MV) (h : MH), BtV h v n → p ≤ n → n - p ≤ f → f ≤ 900 → c ≤ p → ∃ h2, Sm L scr (d + 7) B_Reader_scan C_Reader_scan 1 [some (vR 900006 0), some (vI (nI n)), some (vI (nI c)), some (vI (nI p)), some (vI (nI (900 - f))), z] [] h (none, h2) ∧ Upd WSc h h2 ∧ (∀ j, j < c → hI h2 702000901 0 j = hI h 702000901 0 j ∧ hI h2 703000901 0 j = hI h 703000901 0 j) ∧ LxR h2 c (lex v n p) := by
  have last : ∀ (c : Nat) (h : MH), n ≤ 900 → c ≤ n → ∃ h2, h2 = sI (sI h 702000901 0 c (-1)) 703000901 0 c (nI n) ∧ Upd WSc h h2 ∧ (∀ j, j < c → hI h2 702000901 0 j = hI h 702000901 0 j ∧ hI h2 703000901 0 j = hI h 703000901 0 j) ∧ LxR h2 c [(4000, n)] := fun c h hn hc => by
    refine ⟨_, rfl, ((Upd.rf _ h).sI (by decide)).sI (by decide), fun j hj => ?_, fun j q e => ?_⟩
    · simp only [hI_row, Nat.reduceEqDiff, false_and, and_false, and_true, true_and, if_true, if_false, reduceIte]
      exact ⟨up_n (by omega), up_n (by omega)⟩
    · cases j with
      | zero =>
        have e : q = (4000, n) := (Option.some.inj e).symm
        subst e
        simp only [hI_row, Nat.reduceEqDiff, false_and, and_false, and_true, true_and, if_true, if_false, reduceIte, Nat.add_zero, up_s]
        rfl
      | succ j => cases e
  intro f
  induction f with
  | zero =>
    intro c p z h b hp hf h9 hc
    have : p = n := by omega
    subst this
    obtain ⟨h2, e2, u, k, x⟩ := last c h b.1 hc
    refine ⟨h2, Sm.ret ?_, u, k, by rw [lex_e (Nat.le_refl _)]; exact x⟩
    rw [t_Reader_scan_1, if_pos (show (900 : Int32) ≤ nI (900 - 0) by decide), wr_Reader_tokens (oob_nI (by have := b.1; omega) (by decide)), wr_Reader_places (oob_nI (by have := b.1; omega) (by decide)), ix_nI (by have := b.1; omega), e2]
  | succ f ih =>
    intro c p z h b hp hf h9 hc
    obtain ⟨n9, hb, hv⟩ := id b
    have g9 : ¬ (900 : Int32) ≤ nI (900 - (f + 1)) := nI_ge (b := 900) (by omega) (by decide)
    have i9 : nI (900 - (f + 1)) + 1 = nI (900 - f) := by rw [nI_1, show 900 - (f + 1) + 1 = 900 - f by omega]
    rcases Nat.lt_or_ge p n with c1 | c1
    · have gn : ¬ nI n ≤ nI p := nI_ge c1 (by omega)
      have gt := endP_gt (v := v) (n := n) (p := p)
      have le := endP_le (v := v) c1
      by_cases bl : isBl (v p)
      · obtain ⟨h2, s, u, k, x⟩ := ih c (p + 1) z h b (by omega) (by omega) (by omega) (by omega)
        refine ⟨h2, Sm.step ?_ s, u, k, by rw [lex_b c1 bl]; exact x⟩
        rw [t_Reader_scan_1, if_neg g9, if_neg gn, rd_Reader_bytes (oob_nI (by omega) (by decide)), ix_nI (by omega), hb p c1, c_isBlank (hv p), clI_ok, decide_eq_true bl, itT, i9, nI_1]
      · obtain ⟨h1, e1⟩ : ∃ h1, h1 = sI (sI h 703000901 0 c (nI p)) 702000901 0 c (tkI (tokC v p (endP v n p))) := ⟨_, rfl⟩
        have b0 : BtV (sI h 703000901 0 c (nI p)) v n := b.of (by simp only [hI_row, Nat.reduceEqDiff, false_and, if_false, reduceIte])
        have b1 : BtV h1 v n := b.of (by rw [e1]; simp only [hI_row, Nat.reduceEqDiff, false_and, if_false, reduceIte])
        have u1 : Upd WSc h h1 := by rw [e1]; exact ((Upd.rf _ h).sI (by decide)).sI (by decide)
        have k1 : hI h1 702000901 0 = up (hI h 702000901 0) c (tkI (tokC v p (endP v n p))) ∧ hI h1 703000901 0 = up (hI h 703000901 0) c (nI p) := by
          rw [e1]
          simp only [hI_row, Nat.reduceEqDiff, false_and, and_false, and_true, true_and, if_true, if_false, reduceIte]
        obtain ⟨h2, s, u, k, x⟩ := ih (c + 1) (endP v n p) (some (vI (nI (endP v n p)))) h1 b1 le (by omega) (by omega) (by omega)
        refine ⟨h2, Sm.step ?_ s, u1.tr u, fun j hj => ?_, ?_⟩
        · rw [t_Reader_scan_1, if_neg g9, if_neg gn, rd_Reader_bytes (oob_nI (by omega) (by decide)), ix_nI (by omega), hb p c1, c_isBlank (hv p), clI_ok, decide_eq_false bl, itF, c_tokenEnd (d := d + 5) b c1, clI_ok, wr_Reader_places (oob_nI (by omega) (by decide)), ix_nI (by omega), c_tokenOf b0 c1, clI_ok, wr_Reader_tokens (oob_nI (by omega) (by decide)), ix_nI (by omega), i9, nI_1, e1]
        · obtain ⟨a1, a2⟩ := k j (by omega)
          rw [a1, a2, k1.1, k1.2]
          exact ⟨up_n (by omega), up_n (by omega)⟩
        · rw [lex_t c1 bl]
          intro j q e
          cases j with
          | zero =>
            have e : q = (tokC v p (endP v n p), p) := (Option.some.inj e).symm
            subst e
            obtain ⟨a1, a2⟩ := k c (by omega)
            rw [Nat.add_zero, a1, a2, k1.1, k1.2]
            exact ⟨up_s _ _ _, up_s _ _ _⟩
          | succ j =>
            have := x j q e
            rw [Nat.add_assoc, Nat.add_comm 1 j] at this
            exact this
    · have : p = n := by omega
      subst this
      obtain ⟨h2, e2, u, k, x⟩ := last c h b.1 hc
      refine ⟨h2, Sm.ret ?_, u, k, by rw [lex_e (Nat.le_refl _)]; exact x⟩
      rw [t_Reader_scan_1, if_neg g9, if_pos (nI_le (Nat.le_refl _) (by omega)), wr_Reader_tokens (oob_nI (by omega) (by decide)), wr_Reader_places (oob_nI (by omega) (by decide)), ix_nI (by omega), e2]
theorem c_scan {h : MH} {v : Nat → Nat} {n : Nat} (b : BtV h v n) : ∃ h2, E L scr (d + 8) 67 [vR 900006 0, vI (nI n)] h = some (none, h2) ∧ Upd WSc h h2 ∧ LxR h2 0 (lex v n 0) := by
  obtain ⟨h2, s, u, -, x⟩ := sc_run (L := L) (scr := scr) (d := d) 900 0 0 none h b (Nat.zero_le _) (by have := b.1; omega) (Nat.le_refl _) (Nat.le_refl _)
  exact ⟨h2, r_Reader_scan (d := d + 7) _ _ _ (Sm.step (by rw [t_Reader_scan_0]; rfl) s), u, x⟩
end Scan3

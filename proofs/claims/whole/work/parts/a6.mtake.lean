/-! TOKENS TAKEN, on the reference's side -/
theorem lex_h {v : Nat → Nat} {n q t g : Nat} {r : List (Nat × Nat)} (nb : NoB v n q) (e : lex v n q = (t, g) :: r) : g = q ∧ ((q = n ∧ t = 4000 ∧ r = []) ∨ (q < n ∧ t = tokC v q (endP v n q) ∧ r = lex v n (endP v n q))) := by
  rcases nb with rfl | ⟨c, b⟩
  · rw [lex_e (Nat.le_refl _)] at e
    injection e with e1 e2
    injection e1 with e3 e4
    exact ⟨e4.symm, Or.inl ⟨rfl, e3.symm, e2.symm⟩⟩
  · rw [lex_t c b] at e
    injection e with e1 e2
    injection e1 with e3 e4
    exact ⟨e4.symm, Or.inr ⟨c, e3.symm, e2.symm⟩⟩
theorem rn_1 {P : Nat → Bool} {v : Nat → Nat} {n q : Nat} (hq : q < n) : rnE P v n n q = if P (v q) = true then rnE P v n n (q + 1) else q := by
  rw [rnE_f (f := n) (g := (n - (q + 1)) + 1) (by omega) (by omega)]
  show (if q < n ∧ P (v q) = true then rnE P v n (n - (q + 1)) (q + 1) else q) = _
  by_cases c : P (v q) = true
  · rw [if_pos ⟨hq, c⟩, if_pos c, rnE_f (f := n - (q + 1)) (g := n) (by omega) (by omega)]
  · rw [if_neg (fun z => c z.2), if_neg c]
theorem rn_n {P : Nat → Bool} {v : Nat → Nat} {n : Nat} : rnE P v n n n = n := by
  rw [rnE_f (f := n) (g := 0) (by omega) (by omega)]
  rfl
/-- what is a word s -/
theorem tok_wd {v : Nat → Nat} {n q t g s : Nat} {r : List (Nat × Nat)} (hv : ∀ i, v i < 256) (hs : s < 23) (nb : NoB v n q) (e : lex v n q = (t, g) :: r) : (wvN (fun i => v (q + i)) (rnE ltB v n n q - q) = wdK.getD s 0 ↔ t = s) ∧ (t = s → r = lex v n (rnE ltB v n n q) ∧ rnE ltB v n n q ≤ n) := by
  have wk := wdK_ok ⟨s, hs⟩
  replace wk : 0 < wdK.getD s 0 ∧ wdK.getD s 0 < 2 ^ 62 := wk
  obtain ⟨-, ⟨rfl, rfl, rfl⟩ | ⟨c, rfl, rfl⟩⟩ := lex_h nb e
  · rw [rn_n, Nat.sub_self]
    have w0 : wvN (fun i => v (q + i)) 0 = 0 := rfl
    rw [w0]
    exact ⟨⟨fun z => by omega, fun z => by omega⟩, fun z => by omega⟩
  · rw [rn_1 c]
    by_cases l : isLt (v q)
    · have dl : ltB (v q) = true := decide_eq_true l
      have ed : isDg (v q) → False := fun z => by omega
      have ee : endP v n q = rnE ltB v n n (q + 1) := by
        unfold endP
        rw [if_pos l]
      rw [if_pos dl, ← ee]
      have lts := endP_lt (n := n) l
      have gt := endP_gt (v := v) (n := n) (p := q)
      have tk : tokC v q (endP v n q) = slN (fun i => v (q + i)) (endP v n q - q) := by
        unfold tokC
        rw [if_neg ed, if_pos l]
      have sp := sl_pk (f := fun i => v (q + i)) (k := endP v n q - q) hs (fun i hi => lts (q + i) (by omega) (by omega))
      rw [tk, sp]
      refine ⟨?_, fun _ => ⟨rfl, endP_le c⟩⟩
      unfold wvN
      by_cases k7 : endP v n q - q ≤ 7
      · rw [if_pos k7]; exact ⟨fun z => ⟨k7, z⟩, fun z => z.2⟩
      · rw [if_neg k7]; exact ⟨fun z => by omega, fun z => absurd z.1 k7⟩
    · have dl : ¬ ltB (v q) = true := fun z => l (of_decide_eq_true z)
      have := tokC_sg (e := endP v n q) l
      rw [if_neg dl, Nat.sub_self]
      have w0 : wvN (fun i => v (q + i)) 0 = 0 := rfl
      rw [w0]
      exact ⟨⟨fun z => by omega, fun z => by omega⟩, fun z => by omega⟩
section MTake
variable {L : Nat} {scr : Nat → Int32} {d : Nat}
theorem c_M_takes {s : Nat} (hs : s < 23) {h : MH} {v : Nat → Nat} {n p t g : Nat} {r : List (Nat × Nat)} (a : AtM h v n p) (e : lex v n p = (t, g) :: r) : ∃ h2 q, E L scr (d + 3) 210 [vR 900012 0, vL (lN (wdK.getD s 0))] h = some (some (vI (zb (decide (t = s)))), h2) ∧ Upd WLx h h2 ∧ AtM h2 v n q ∧ lex v n q = if t = s then r else (t, g) :: r := by
  obtain ⟨h1, q, e1, u1, a1, nb, lx, ew⟩ := c_M_word (L := L) (scr := scr) (d := d) a
  rw [e] at lx
  obtain ⟨k1, k2⟩ := tok_wd a.1.2.2.2 hs nb lx
  have wk := (wdK_ok ⟨s, hs⟩).2
  replace wk : wdK.getD s 0 < 2 ^ 62 := wk
  have wl := wv_lt (v := v) (q := q) (k := rnE ltB v n n q - q) a.1.2.2.2
  have cm := cmp_l wl wk
  by_cases c : t = s
  · obtain ⟨er, el⟩ := k2 c
    have u2 : Upd WLx h1 (sI h1 1305 0 0 (nI (rnE ltB v n n q))) := (Upd.rf _ h1).sI (by decide)
    refine ⟨sI h1 1305 0 0 (nI (rnE ltB v n n q)), rnE ltB v n n q, r_M_takes (d := d + 2) _ _ _ (Sm.ret ?_), u1.tr u2, ⟨TxV.fr u2 (by decide) a1.1, el, ?_⟩, by rw [if_pos c, er]⟩
    · rw [t_M_takes_0, e1, clJ_ok, if_pos (cm.mpr (k1.mpr c)), decide_eq_true c, ew, rtZ1]; rfl
    · simp only [hI_row, and_true, true_and, if_true, up_s]
  · refine ⟨h1, q, r_M_takes (d := d + 2) _ _ _ (Sm.ret ?_), u1, a1, by rw [if_neg c, lx]⟩
    rw [t_M_takes_0, e1, clJ_ok, if_neg (fun z => c (k1.mp (cm.mp z))), decide_eq_false c, rtZ0]; rfl
/-- signs -/
abbrev isSg (c : Nat) : Prop := c = 59 ∨ c = 40 ∨ c = 41 ∨ (60 ≤ c ∧ c ≤ 62)
theorem tok_sg {v : Nat → Nat} {n q c : Nat} (hc : isSg c) : tokC v q (endP v n q) = c ↔ v q = c := by
  unfold tokC
  by_cases dg : isDg (v q)
  · rw [if_pos dg]
    split
    · exact ⟨fun z => by omega, fun z => by omega⟩
    · exact ⟨fun z => by omega, fun z => by omega⟩
  · rw [if_neg dg]
    by_cases l : isLt (v q)
    · rw [if_pos l]
      have sl : slN (fun i => v (q + i)) (endP v n q - q) < 23 ∨ slN (fun i => v (q + i)) (endP v n q - q) = 3000 := by
        unfold slN
        split
        · exact Or.inr rfl
        · cases e : ffst (mtA (fun i => v (q + i)) (endP v n q - q)) 23 with
          | none => exact Or.inr rfl
          | some j => exact Or.inl (ffst_some e).1
      exact ⟨fun z => by omega, fun z => by omega⟩
    · rw [if_neg l]
      by_cases sg : isSg (v q)
      · rw [if_pos sg]
      · rw [if_neg sg]
        exact ⟨fun z => by omega, fun z => absurd (by rw [z]; exact hc) sg⟩
theorem end_sg {v : Nat → Nat} {n q c : Nat} (hc : isSg c) (e : v q = c) : endP v n q = q + 1 := by
  unfold endP
  rw [if_neg (show ¬ isLt (v q) by omega), if_neg (show ¬ isDg (v q) by omega)]
theorem c_M_takesSign {c : Nat} (hc : isSg c) {h : MH} {v : Nat → Nat} {n p t g : Nat} {r : List (Nat × Nat)} (a : AtM h v n p) (e : lex v n p = (t, g) :: r) : ∃ h2 q, E L scr (d + 2) 211 [vR 900012 0, vI (nI c)] h = some (some (vI (zb (decide (t = c)))), h2) ∧ Upd WLx h h2 ∧ AtM h2 v n q ∧ lex v n q = if t = c then r else (t, g) :: r := by
  obtain ⟨h1, q, e1, u1, a1, nb, pq, lx⟩ := c_M_blanks (L := L) (scr := scr) (d := d) a
  replace u1 : Upd WLx h h1 := u1.mono (by decide)
  rw [e] at lx
  obtain ⟨⟨n9, es, ht, hv⟩, hq, ea⟩ := id a1
  obtain ⟨-, ⟨rfl, rfl, rfl⟩ | ⟨cq, rfl, rfl⟩⟩ := lex_h nb lx
  · have nc : ¬ 4000 = c := by omega
    refine ⟨h1, q, r_M_takesSign (d := d + 1) _ _ _ (Sm.ret ?_), u1, a1, by rw [if_neg nc, lx]⟩
    rw [t_M_takesSign_0, e1, clV_ok, ea, es, if_pos rfl, decide_eq_false nc, rtZ0]; rfl
  · have ne : ¬ nI q = nI n := fun z => by have := (nI_eq (by omega) (by omega)).mp z; omega
    have v8 := hv q
    by_cases k : v q = c
    · have tk := (tok_sg (n := n) hc).mpr k
      have u2 : Upd WLx h1 (sI h1 1305 0 0 (nI (q + 1))) := (Upd.rf _ h1).sI (by decide)
      refine ⟨sI h1 1305 0 0 (nI (q + 1)), q + 1, r_M_takesSign (d := d + 1) _ _ _ (Sm.ret ?_), u1.tr u2, ⟨TxV.fr u2 (by decide) a1.1, by omega, ?_⟩, by rw [if_pos tk, end_sg hc k]⟩
      · rw [t_M_takesSign_0, e1, clV_ok, ea, es, if_neg ne, rd_M_text (oob_nI (by omega) (by decide)), ix_nI (by omega), ht q cq, if_pos ((tx_eq (k := c) (hv q) (by omega)).mpr k), decide_eq_true tk, nI_1, rtZ1]; rfl
      · simp only [hI_row, and_true, true_and, if_true, up_s]
    · have tk : ¬ tokC v q (endP v n q) = c := fun z => k ((tok_sg hc).mp z)
      refine ⟨h1, q, r_M_takesSign (d := d + 1) _ _ _ (Sm.ret ?_), u1, a1, by rw [if_neg tk, lx]⟩
      rw [t_M_takesSign_0, e1, clV_ok, ea, es, if_neg ne, rd_M_text (oob_nI (by omega) (by decide)), ix_nI (by omega), ht q cq, if_neg (fun z => k ((tx_eq (k := c) (hv q) (by omega)).mp z)), decide_eq_false tk, rtZ0]; rfl
end MTake

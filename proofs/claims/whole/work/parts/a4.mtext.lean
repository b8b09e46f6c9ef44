/-! THE TEXT, on the reference's side -/
theorem sh8 {a c : Nat} (ha : a < 2 ^ 55) (hc : c < 256) : ((Int64.ofNat a) <<< (Int32.toInt64 8 &&& 63)) ||| (Int32.toInt64 (Int32.ofNat c)) = Int64.ofNat (a * 256 + c) := by
  have e1 : (Int32.toInt64 8 &&& 63) = 8 := by decide
  have e2 : ∀ c : Fin 256, Int32.toInt64 (Int32.ofNat c.val) = Int64.ofNat c.val := by decide +kernel
  rw [e1, show Int32.toInt64 (Int32.ofNat c) = Int64.ofNat c from e2 ⟨c, hc⟩]
  apply Int64.toBitVec_inj.mp
  rw [Int64.toBitVec_or, Int64.toBitVec_shiftLeft]
  rw [show (Int64.toBitVec 8).smod 64 = 8#64 by decide]
  apply BitVec.eq_of_toNat_eq
  show ((BitVec.ofNat 64 a) <<< 8#64 ||| BitVec.ofNat 64 c).toNat = (BitVec.ofNat 64 (a * 256 + c)).toNat
  simp only [BitVec.toNat_or, BitVec.shiftLeft_eq', BitVec.toNat_shiftLeft, BitVec.toNat_ofNat]
  rw [Nat.mod_eq_of_lt (a := a) (by omega), Nat.mod_eq_of_lt (a := c) (by omega), Nat.mod_eq_of_lt (a := a * 256 + c) (by omega), show 8 % 2 ^ 64 = 8 from rfl, Nat.shiftLeft_eq, Nat.mod_eq_of_lt (by omega)]
  have := Nat.shiftLeft_add_eq_or_of_lt (b := c) (i := 8) (by omega) a
  rw [Nat.shiftLeft_eq] at this
  omega
/-- a byte as the text keeps it -/
def txI (c : Nat) : Int32 := if c < 128 then nI c else nI c - 256
theorem tx_int {c : Nat} (hc : c < 256) : (txI c).toInt = if c < 128 then (c : Int) else (c : Int) - 256 := by
  have k : ∀ c : Fin 256, (txI c.val).toInt = if c.val < 128 then (c.val : Int) else (c.val : Int) - 256 := by decide +kernel
  exact k ⟨c, hc⟩
theorem tx_eq {c k : Nat} (hc : c < 256) (hk : k < 128) : txI c = nI k ↔ c = k := by
  rw [← Int32.toInt_inj, tx_int hc, nI_toInt (by omega)]
  split <;> omega
theorem tx_lt {c k : Nat} (hc : c < 256) (hk : k < 128) : txI c < nI k ↔ (c < k ∨ 128 ≤ c) := by
  rw [Int32.lt_iff_toInt_lt, tx_int hc, nI_toInt (by omega)]
  split <;> omega
theorem tx_gt {c k : Nat} (hc : c < 256) (hk : k < 128) : nI k < txI c ↔ (k < c ∧ c < 128) := by
  rw [Int32.lt_iff_toInt_lt, tx_int hc, nI_toInt (by omega)]
  split <;> omega
/-- the text as numbers -/
def TxV (h : MH) (v : Nat → Nat) (n : Nat) : Prop := n ≤ 900 ∧ hI h 1304 0 0 = nI n ∧ (∀ i, i < n → hI h 1323100900 0 i = txI (v i)) ∧ ∀ i, v i < 256
abbrev WLx : List (Nat × Nat) := [(1305, 0), (1324, 0), (1325, 0)]
theorem TxV.fr {W : List (Nat × Nat)} {h h2 : MH} {v : Nat → Nat} {n : Nat} (u : Upd W h h2) (hd : ∀ q ∈ [(1304, 0), (1323100900, 0)], q ∉ W) (b : TxV h v n) : TxV h2 v n := by
  obtain ⟨b1, b2, b3, b4⟩ := b
  have a := Ag.of u hd
  have e1 := a (1304, 0) (by decide)
  have e2 := a (1323100900, 0) (by decide)
  exact ⟨b1, by rw [e1]; exact b2, fun i hi => by rw [e2]; exact b3 i hi, b4⟩
/-- the reference stands before the tokens l -/
def AtM (h : MH) (v : Nat → Nat) (n p : Nat) : Prop := TxV h v n ∧ p ≤ n ∧ hI h 1305 0 0 = nI p
/-- no blank here -/
def NoB (v : Nat → Nat) (n p : Nat) : Prop := p = n ∨ (p < n ∧ ¬ isBl (v p))
section MText
variable {L : Nat} {scr : Nat → Int32} {d : Nat}
theorem bl_run {v : Nat → Nat} {n : Nat} : ∀ (f p : Nat) (h : MH), AtM h v n p → n - p ≤ f → ∃ h2 q, Sm L scr d B_M_blanks C_M_blanks 0 [some (vR 900012 0)] [] h (none, h2) ∧ Upd [(1305, 0)] h h2 ∧ AtM h2 v n q ∧ NoB v n q ∧ p ≤ q ∧ lex v n q = lex v n p := by
  intro f
  induction f with
  | zero =>
    intro p h a hf
    obtain ⟨⟨n9, es, ht, hv⟩, hp, ea⟩ := id a
    have : p = n := by omega
    subst this
    refine ⟨h, p, Sm.ret ?_, Upd.rf _ h, a, Or.inl rfl, Nat.le_refl _, rfl⟩
    rw [t_M_blanks_0, es, ea, if_pos (nI_le (Nat.le_refl _) (by omega))]
  | succ f ih =>
    intro p h a hf
    obtain ⟨⟨n9, es, ht, hv⟩, hp, ea⟩ := id a
    rcases Nat.lt_or_ge p n with c | c
    · have ng : ¬ nI n ≤ nI p := nI_ge c (by omega)
      by_cases b : isBl (v p)
      · have a1 : AtM (sI h 1305 0 0 (nI (p + 1))) v n (p + 1) := by
          refine ⟨TxV.fr (((Upd.rf [(1305, 0)] h).sI (by decide))) (by decide) a.1, by omega, ?_⟩
          simp only [hI_row, and_true, true_and, if_true, up_s]
        obtain ⟨h2, q, s, u, a2, nb, pq, lx⟩ := ih (p + 1) _ a1 (by omega)
        refine ⟨h2, q, Sm.step ?_ s, ((Upd.rf [(1305, 0)] h).sI (by decide)).tr u, a2, nb, by omega, by rw [lx, ← lex_b c b]⟩
        by_cases b1 : v p = 32
        · rw [t_M_blanks_0, es, ea, if_neg ng, rd_M_text (oob_nI (by omega) (by decide)), ix_nI (by omega), ht p c, if_pos (show txI (v p) = 32 from (tx_eq (k := 32) (hv p) (by decide)).mpr b1), nI_1]
        · have b2 : v p = 10 := b.resolve_left b1
          rw [t_M_blanks_0, es, ea, if_neg ng, rd_M_text (oob_nI (by omega) (by decide)), ix_nI (by omega), ht p c, if_neg (show ¬ txI (v p) = 32 from fun z => b1 ((tx_eq (k := 32) (hv p) (by decide)).mp z)), rd_M_text (oob_nI (by omega) (by decide)), ix_nI (by omega), ht p c, if_pos (show txI (v p) = 10 from (tx_eq (k := 10) (hv p) (by decide)).mpr b2), nI_1]
      · refine ⟨h, p, Sm.ret ?_, Upd.rf _ h, a, Or.inr ⟨c, b⟩, Nat.le_refl _, rfl⟩
        rw [t_M_blanks_0, es, ea, if_neg ng, rd_M_text (oob_nI (by omega) (by decide)), ix_nI (by omega), ht p c, if_neg (show ¬ txI (v p) = 32 from fun z => b (Or.inl ((tx_eq (k := 32) (hv p) (by decide)).mp z))), rd_M_text (oob_nI (by omega) (by decide)), ix_nI (by omega), ht p c, if_neg (show ¬ txI (v p) = 10 from fun z => b (Or.inr ((tx_eq (k := 10) (hv p) (by decide)).mp z)))]
    · have : p = n := by omega
      subst this
      refine ⟨h, p, Sm.ret ?_, Upd.rf _ h, a, Or.inl rfl, Nat.le_refl _, rfl⟩
      rw [t_M_blanks_0, es, ea, if_pos (nI_le (Nat.le_refl _) (by omega))]
theorem c_M_blanks {h : MH} {v : Nat → Nat} {n p : Nat} (a : AtM h v n p) : ∃ h2 q, E L scr (d + 1) 208 [vR 900012 0] h = some (none, h2) ∧ Upd [(1305, 0)] h h2 ∧ AtM h2 v n q ∧ NoB v n q ∧ p ≤ q ∧ lex v n q = lex v n p := by
  obtain ⟨h2, q, s, r⟩ := bl_run (L := L) (scr := scr) (d := d) (n - p) p h a (Nat.le_refl _)
  exact ⟨h2, q, r_M_blanks _ _ s, r⟩
end MText

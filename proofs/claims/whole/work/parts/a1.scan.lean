/-! THE SCAN, on the class's side -/
/-- a token as the class writes it -/
def tkI (c : Nat) : Int32 := if c = 3000 then -2 else if c = 4000 then -1 else nI c
theorem wdB_ok : ∀ k : Fin 184, wordsB.getD k.val 0 = nI (wdT.getD k.val 0) := by decide +kernel
section Scan
variable {L : Nat} {scr : Nat → Int32} {d : Nat}
theorem c_isBlank {c : Nat} (hc : c < 256) (h : MH) : E L scr (d + 1) 68 [vI (nI c)] h = some (some (vI (zb (decide (isBl c)))), h) := by
  refine r_Reader_isBlank _ _ (Sm.ret ?_)
  rw [t_Reader_isBlank_0]
  by_cases a : nI c = 32
  · have := (nI_eq (a := c) (b := 32) (by omega) (by decide)).mp a
    rw [if_pos a, decide_eq_true (show isBl c from Or.inl this)]; rfl
  · have na : c ≠ 32 := fun z => a (by rw [z]; rfl)
    rw [if_neg a]
    by_cases b : nI c = 10
    · have := (nI_eq (a := c) (b := 10) (by omega) (by decide)).mp b
      rw [if_pos b, decide_eq_true (show isBl c from Or.inr this)]; rfl
    · have nb : c ≠ 10 := fun z => b (by rw [z]; rfl)
      rw [if_neg b, decide_eq_false (show ¬ isBl c from fun z => z.elim na nb)]; rfl
theorem c_isLetter {c : Nat} (hc : c < 256) (h : MH) : E L scr (d + 1) 69 [vI (nI c)] h = some (some (vI (zb (decide (isLt c)))), h) := by
  refine r_Reader_isLetter _ _ (Sm.ret ?_)
  rw [t_Reader_isLetter_0]
  by_cases a : nI c < 97
  · have := (nI_ltI (a := c) (b := 97) (by omega) (by decide)).mp a
    rw [if_pos a, decide_eq_false (show ¬ isLt c by omega)]; rfl
  · have na : ¬ c < 97 := fun z => a ((nI_ltI (a := c) (b := 97) (by omega) (by decide)).mpr z)
    rw [if_neg a]
    by_cases b : 122 < nI c
    · have := (nI_ltI (a := 122) (b := c) (by decide) (by omega)).mp b
      rw [if_pos b, decide_eq_false (show ¬ isLt c by omega)]; rfl
    · have nb : ¬ 122 < c := fun z => b ((nI_ltI (a := 122) (b := c) (by decide) (by omega)).mpr z)
      rw [if_neg b, decide_eq_true (show isLt c by omega)]; rfl
theorem c_isDigit {c : Nat} (hc : c < 256) (h : MH) : E L scr (d + 1) 70 [vI (nI c)] h = some (some (vI (zb (decide (isDg c)))), h) := by
  refine r_Reader_isDigit _ _ (Sm.ret ?_)
  rw [t_Reader_isDigit_0]
  by_cases a : nI c < 48
  · have := (nI_ltI (a := c) (b := 48) (by omega) (by decide)).mp a
    rw [if_pos a, decide_eq_false (show ¬ isDg c by omega)]; rfl
  · have na : ¬ c < 48 := fun z => a ((nI_ltI (a := c) (b := 48) (by omega) (by decide)).mpr z)
    rw [if_neg a]
    by_cases b : 57 < nI c
    · have := (nI_ltI (a := 57) (b := c) (by decide) (by omega)).mp b
      rw [if_pos b, decide_eq_false (show ¬ isDg c by omega)]; rfl
    · have nb : ¬ 57 < c := fun z => b ((nI_ltI (a := 57) (b := c) (by decide) (by omega)).mpr z)
      rw [if_neg b, decide_eq_true (show isDg c by omega)]; rfl
theorem c_isComparison {c : Nat} (hc : c < 256) (h : MH) : E L scr (d + 1) 71 [vI (nI c)] h = some (some (vI (zb (decide (60 ≤ c ∧ c ≤ 62)))), h) := by
  refine r_Reader_isComparison _ _ (Sm.ret ?_)
  rw [t_Reader_isComparison_0]
  by_cases a : nI c = 60
  · have := (nI_eq (a := c) (b := 60) (by omega) (by decide)).mp a
    rw [if_pos a, decide_eq_true (show 60 ≤ c ∧ c ≤ 62 by omega)]; rfl
  · have na : c ≠ 60 := fun z => a (by rw [z]; rfl)
    rw [if_neg a]
    by_cases b : nI c = 61
    · have := (nI_eq (a := c) (b := 61) (by omega) (by decide)).mp b
      rw [if_pos b, decide_eq_true (show 60 ≤ c ∧ c ≤ 62 by omega)]; rfl
    · have nb : c ≠ 61 := fun z => b (by rw [z]; rfl)
      rw [if_neg b]
      by_cases e : nI c = 62
      · have := (nI_eq (a := c) (b := 62) (by omega) (by decide)).mp e
        rw [if_pos e, decide_eq_true (show 60 ≤ c ∧ c ≤ 62 by omega)]; rfl
      · have ne : c ≠ 62 := fun z => e (by rw [z]; rfl)
        rw [if_neg e, decide_eq_false (show ¬ (60 ≤ c ∧ c ≤ 62) by omega)]; rfl
theorem c_charAt {i : Int32} (h : MH) (hi : ¬ oob i 184) : E L scr (d + 4) 902 [vR 98 0, vI i] h = some (some (vI (wordsB.getD (ix i) 0)), h) := by
  have e : Nat.ble 4 (d + 3 + 1) = true := Nat.ble_eq_true_of_le (by omega)
  show (match Nat.ble 4 (d + 3 + 1) with
    | true => chM [vR 98 0, vI i] h
    | false => none) = _
  rw [e]
  show (if vR 98 0 = vR 98 0 ∧ ¬ oob i 184 then some (some (vI (wordsB.getD (ix i) 0)), h) else none) = _
  rw [if_pos ⟨rfl, hi⟩]
/-- the tape's bytes as numbers -/
def BtV (h : MH) (v : Nat → Nat) (n : Nat) : Prop := n ≤ 900 ∧ (∀ i, i < n → hI h 700000900 0 i = nI (v i)) ∧ ∀ i, v i < 256
theorem te_run {h : MH} {v : Nat → Nat} {n p : Nat} (b : BtV h v n) {w g : Bool} {P : Nat → Bool} (hP : ∀ c, P c = (w && decide (isLt c) || g && decide (isDg c))) : ∀ (f e : Nat) (z : Option MV), e ≤ n → n - e ≤ f → Sm L scr (d + 1) B_Reader_tokenEnd C_Reader_tokenEnd 1 [some (vR 900006 0), some (vI (nI p)), some (vI (nI n)), some (vI (zb w)), some (vI (zb g)), some (vI (nI e)), z] [] h (some (vI (nI (rnE P v n f e))), h)
  | 0, e, z, he, hf => by
    obtain ⟨n9, hb, hv⟩ := b
    have : e = n := by omega
    subst this
    refine Sm.ret ?_
    rw [t_Reader_tokenEnd_1, if_pos (nI_le (Nat.le_refl _) (by omega))]; rfl
  | f + 1, e, z, he, hf => by
    obtain ⟨n9, hb, hv⟩ := id b
    rcases Nat.lt_or_ge e n with c | c
    · have ih := fun z => te_run (p := p) b hP f (e + 1) z (by omega) (by omega)
      have i1 : nI e + 1 = nI (e + 1) := nI_1 e
      have ng : ¬ nI n ≤ nI e := nI_ge c (by omega)
      show Sm L scr (d + 1) _ _ 1 _ [] h (some (vI (nI (if e < n ∧ P (v e) = true then rnE P v n f (e + 1) else e))), h)
      have e1 : ix (nI e) = e := ix_nI (by omega)
      cases w with
      | false =>
        cases g with
        | false =>
          rw [if_neg (fun z => by rw [hP] at z; cases z.2)]
          refine Sm.ret ?_
          rw [t_Reader_tokenEnd_1, if_neg ng, if_pos (show zb false = 0 from rfl), if_pos (show zb false = 0 from rfl), if_pos rfl]
        | true =>
          cases q : decide (isDg (v e)) with
          | false =>
            rw [if_neg (fun z => by rw [hP, q] at z; cases z.2)]
            refine Sm.ret ?_
            rw [t_Reader_tokenEnd_1, if_neg ng, if_pos (show zb false = 0 from rfl), if_neg (show ¬ zb true = 0 by decide), rd_Reader_bytes (oob_nI (by omega) (by decide)), e1, hb e c, c_isDigit (hv e), clI_ok, q, if_pos (show zb false = 0 from rfl), if_pos rfl]
          | true =>
            rw [if_pos ⟨c, by rw [hP, q]; rfl⟩]
            refine Sm.step ?_ (ih (some (vI 1)))
            rw [t_Reader_tokenEnd_1, if_neg ng, if_pos (show zb false = 0 from rfl), if_neg (show ¬ zb true = 0 by decide), rd_Reader_bytes (oob_nI (by omega) (by decide)), e1, hb e c, c_isDigit (hv e), clI_ok, q, if_neg (show ¬ zb true = 0 by decide), if_neg (show ¬ (1 : Int32) = 0 by decide), i1]
      | true =>
        cases q : decide (isLt (v e)) with
        | true =>
          rw [if_pos ⟨c, by rw [hP, q]; rfl⟩]
          refine Sm.step ?_ (ih (some (vI 1)))
          rw [t_Reader_tokenEnd_1, if_neg ng, if_neg (show ¬ zb true = 0 by decide), rd_Reader_bytes (oob_nI (by omega) (by decide)), e1, hb e c, c_isLetter (hv e), clI_ok, q, if_neg (show ¬ zb true = 0 by decide), if_neg (show ¬ (1 : Int32) = 0 by decide), i1]
        | false =>
          cases g with
          | false =>
            rw [if_neg (fun z => by rw [hP, q] at z; cases z.2)]
            refine Sm.ret ?_
            rw [t_Reader_tokenEnd_1, if_neg ng, if_neg (show ¬ zb true = 0 by decide), rd_Reader_bytes (oob_nI (by omega) (by decide)), e1, hb e c, c_isLetter (hv e), clI_ok, q, if_pos (show zb false = 0 from rfl), if_pos (show zb false = 0 from rfl), if_pos rfl]
          | true =>
            cases q2 : decide (isDg (v e)) with
            | false =>
              rw [if_neg (fun z => by rw [hP, q, q2] at z; cases z.2)]
              refine Sm.ret ?_
              rw [t_Reader_tokenEnd_1, if_neg ng, if_neg (show ¬ zb true = 0 by decide), rd_Reader_bytes (oob_nI (by omega) (by decide)), e1, hb e c, c_isLetter (hv e), clI_ok, q, if_pos (show zb false = 0 from rfl), if_neg (show ¬ zb true = 0 by decide), rd_Reader_bytes (oob_nI (by omega) (by decide)), e1, hb e c, c_isDigit (hv e), clI_ok, q2, if_pos (show zb false = 0 from rfl), if_pos rfl]
            | true =>
              rw [if_pos ⟨c, by rw [hP, q, q2]; rfl⟩]
              refine Sm.step ?_ (ih (some (vI 1)))
              rw [t_Reader_tokenEnd_1, if_neg ng, if_neg (show ¬ zb true = 0 by decide), rd_Reader_bytes (oob_nI (by omega) (by decide)), e1, hb e c, c_isLetter (hv e), clI_ok, q, if_pos (show zb false = 0 from rfl), if_neg (show ¬ zb true = 0 by decide), rd_Reader_bytes (oob_nI (by omega) (by decide)), e1, hb e c, c_isDigit (hv e), clI_ok, q2, if_neg (show ¬ zb true = 0 by decide), if_neg (show ¬ (1 : Int32) = 0 by decide), i1]
    · have : e = n := by omega
      subst this
      show Sm L scr (d + 1) _ _ 1 _ [] h (some (vI (nI (if e < e ∧ P (v e) = true then rnE P v e f (e + 1) else e))), h)
      rw [if_neg (fun z => Nat.lt_irrefl _ z.1)]
      refine Sm.ret ?_
      rw [t_Reader_tokenEnd_1, if_pos (nI_le (Nat.le_refl _) (by omega))]
end Scan

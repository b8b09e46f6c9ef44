/-! THE SCAN: tokens -/
section Scan2
variable {L : Nat} {scr : Nat → Int32} {d : Nat}
theorem rnE_0 {P : Nat → Bool} {v : Nat → Nat} {n p : Nat} (hP : ∀ c, P c = false) : ∀ {f : Nat}, rnE P v n f p = p
  | 0 => rfl
  | f + 1 => by
    show (if p < n ∧ P (v p) = true then rnE P v n f (p + 1) else p) = p
    rw [if_neg (fun z => by rw [hP] at z; cases z.2)]
theorem c_tokenEnd {h : MH} {v : Nat → Nat} {n p : Nat} (b : BtV h v n) (hp : p < n) : E L scr (d + 2) 72 [vR 900006 0, vI (nI p), vI (nI n)] h = some (some (vI (nI (endP v n p))), h) := by
  obtain ⟨n9, hb, hv⟩ := id b
  refine r_Reader_tokenEnd (d := d + 1) _ _ _ _ (Sm.step (t' := 1) (lo' := [some (vR 900006 0), some (vI (nI p)), some (vI (nI n)), some (vI (zb (decide (isLt (v p))))), some (vI (zb (decide (isDg (v p))))), some (vI (nI (p + 1))), none]) (st' := []) (h' := h) ?_ ?_)
  · rw [t_Reader_tokenEnd_0, rd_Reader_bytes (oob_nI (by omega) (by decide)), ix_nI (by omega), hb p hp, c_isLetter (hv p), clI_ok, rd_Reader_bytes (oob_nI (by omega) (by decide)), ix_nI (by omega), hb p hp, c_isDigit (hv p), clI_ok, nI_1]
  · have k := te_run (L := L) (scr := scr) (d := d) (p := p) (w := decide (isLt (v p))) (g := decide (isDg (v p))) (P := fun c => (decide (isLt (v p)) && decide (isLt c) || decide (isDg (v p)) && decide (isDg c))) b (fun c => rfl) n (p + 1) none (by omega) (by omega)
    have e : rnE (fun c => (decide (isLt (v p)) && decide (isLt c) || decide (isDg (v p)) && decide (isDg c))) v n n (p + 1) = endP v n p := by
      unfold endP
      by_cases a1 : isLt (v p)
      · have a2 : ¬ isDg (v p) := by omega
        rw [if_pos a1, decide_eq_true a1, decide_eq_false a2]
        simp only [Bool.true_and, Bool.false_and, Bool.or_false]
      · rw [if_neg a1, decide_eq_false a1]
        by_cases a2 : isDg (v p)
        · rw [if_pos a2, decide_eq_true a2]
          simp only [Bool.true_and, Bool.false_and, Bool.false_or]
        · rw [if_neg a2, decide_eq_false a2]
          exact rnE_0 (fun c => rfl)
    rw [e] at k
    exact k
/-- the letters from p to e -/
theorem c_isInSlot {h : MH} {v : Nat → Nat} {n p e s : Nat} (b : BtV h v n) (hs : s < 23) (he : e ≤ n) (hp : p ≤ e) : E L scr (d + 5) 75 [vR 900006 0, vI (nI s), vI (nI p), vI (nI e)] h = some (some (vI (zb (mtA (fun i => v (p + i)) (e - p) s))), h) := by
  obtain ⟨n9, hb, hv⟩ := id b
  refine r_Reader_isInSlot (d := d + 4) _ _ _ _ _ (Sm.step (t' := 1) (lo' := [some (vR 900006 0), some (vI (nI s)), some (vI (nI p)), some (vI (nI e)), some (vI (nI 0)), none]) (st' := []) (h' := h) (by rw [t_Reader_isInSlot_0]; rfl) ?_)
  refine Sm.inv0 (P := fun k lo h' => h' = h ∧ (∃ z, lo = [some (vR 900006 0), some (vI (nI s)), some (vI (nI p)), some (vI (nI e)), some (vI (nI k)), z]) ∧ ∀ j, j < k → mtB (fun i => v (p + i)) (e - p) s j = true) 8 ⟨rfl, ⟨_, rfl⟩, fun j hj => absurd hj (Nat.not_lt_zero j)⟩ ?_ ?_
  · rintro k hk _ h' ⟨rfl, ⟨z, rfl⟩, al⟩ cont
    have e8 : nI s * 8 + nI k = nI (8 * s + k) := by rw [show (8 : Int32) = nI 8 from rfl, nI_mul, nI_add, Nat.mul_comm]
    have ch : wordsB.getD (8 * s + k) 0 = nI (wdL s k) := wdB_ok ⟨8 * s + k, by omega⟩
    have o8 : ¬ oob (nI (8 * s + k)) 184 := oob_nI (by omega) (by decide)
    have wl : wdL s k < 256 := by
      have q : ∀ i : Fin 184, wdT.getD i.val 0 < 256 := by decide +kernel
      exact q ⟨8 * s + k, by omega⟩
    have g8 : ¬ (8 : Int32) ≤ nI k := nI_ge (b := 8) hk (by decide)
    have stop : mtB (fun i => v (p + i)) (e - p) s k = false → mtA (fun i => v (p + i)) (e - p) s = false := fun q => by
      unfold mtA
      rw [ffst_is hk (by show (!mtB (fun i => v (p + i)) (e - p) s k) = true; rw [q]; rfl) (fun j hj => by show (!mtB (fun i => v (p + i)) (e - p) s j) = false; rw [al j hj]; rfl)]
      rfl
    have go : ∀ z2, mtB (fun i => v (p + i)) (e - p) s k = true → Sm L scr (d + 4) B_Reader_isInSlot C_Reader_isInSlot 1 [some (vR 900006 0), some (vI (nI s)), some (vI (nI p)), some (vI (nI e)), some (vI (nI (k + 1))), z2] [] h' (some (vI (zb (mtA (fun i => v (p + i)) (e - p) s))), h') := fun z2 q => cont _ h' ⟨rfl, ⟨z2, rfl⟩, fun j hj => by
      rcases Nat.lt_succ_iff_lt_or_eq.mp hj with w | w
      · exact al j w
      · rw [w]; exact q⟩
    by_cases c : p + k < e
    · have v8 := hv (p + k)
      by_cases m : v (p + k) = wdL s k
      · have q : mtB (fun i => v (p + i)) (e - p) s k = true := decide_eq_true (by rw [if_pos (show k < e - p by omega)]; exact m)
        refine Sm.step ?_ (go (some (vI (nI (v (p + k))))) q)
        rw [t_Reader_isInSlot_1, if_neg g8, nI_add, if_neg (nI_ge c (by omega)), rd_Reader_bytes (oob_nI (by omega) (by decide)), ix_nI (by omega), hb _ (by omega), e8, c_charAt h' o8, clI_ok, ix_nI (by omega), ch, if_pos (by rw [m]), nI_1]
      · have q : mtB (fun i => v (p + i)) (e - p) s k = false := decide_eq_false (by rw [if_pos (show k < e - p by omega)]; exact m)
        refine Sm.ret ?_
        rw [t_Reader_isInSlot_1, if_neg g8, nI_add, if_neg (nI_ge c (by omega)), rd_Reader_bytes (oob_nI (by omega) (by decide)), ix_nI (by omega), hb _ (by omega), e8, c_charAt h' o8, clI_ok, ix_nI (by omega), ch, if_neg (fun z => m ((nI_eq (by omega) (by omega)).mp z).symm), stop q]
        rfl
    · by_cases m : wdL s k = 32
      · have q : mtB (fun i => v (p + i)) (e - p) s k = true := decide_eq_true (by rw [if_neg (show ¬ k < e - p by omega)]; exact m.symm)
        refine Sm.step ?_ (go (some (vI 32)) q)
        rw [t_Reader_isInSlot_1, if_neg g8, nI_add, if_pos (nI_le (by omega) (by omega)), e8, c_charAt h' o8, clI_ok, ix_nI (by omega), ch, if_pos (by rw [m]; rfl), nI_1]
      · have q : mtB (fun i => v (p + i)) (e - p) s k = false := decide_eq_false (by rw [if_neg (show ¬ k < e - p by omega)]; exact fun z => m z.symm)
        refine Sm.ret ?_
        rw [t_Reader_isInSlot_1, if_neg g8, nI_add, if_pos (nI_le (by omega) (by omega)), e8, c_charAt h' o8, clI_ok, ix_nI (by omega), ch, if_neg (show ¬ nI (wdL s k) = 32 from fun z => m ((nI_eq (b := 32) (by omega) (by decide)).mp z)), stop q]
        rfl
  · rintro _ h' ⟨rfl, ⟨z, rfl⟩, al⟩
    refine Sm.ret ?_
    have q : mtA (fun i => v (p + i)) (e - p) s = true := mtA_iff.mpr (fun i hi => of_decide_eq_true (al i hi))
    rw [t_Reader_isInSlot_1, if_pos (show (8 : Int32) ≤ nI 8 by decide), q]
    rfl
theorem c_slotOf {h : MH} {v : Nat → Nat} {n p e : Nat} (b : BtV h v n) (he : e ≤ n) (hp : p ≤ e) : E L scr (d + 6) 74 [vR 900006 0, vI (nI p), vI (nI e)] h = some (some (vI (tkI (slN (fun i => v (p + i)) (e - p)))), h) := by
  obtain ⟨n9, hb, hv⟩ := id b
  have es : nI e - nI p = nI (e - p) := nI_sub hp
  unfold slN
  by_cases c : 8 ≤ e - p
  · refine r_Reader_slotOf (d := d + 5) _ _ _ _ (Sm.ret ?_)
    rw [if_pos c, t_Reader_slotOf_0, es, if_neg (show ¬ nI (e - p) < 8 from fun z => by have := (nI_ltI (b := 8) (by omega) (by decide)).mp z; omega)]
    rfl
  · refine r_Reader_slotOf (d := d + 5) _ _ _ _ (Sm.step (t' := 2) (lo' := [some (vR 900006 0), some (vI (nI p)), some (vI (nI e)), some (vI (nI 0))]) (st' := []) (h' := h) ?_ ?_)
    · rw [t_Reader_slotOf_0, es, if_pos (show nI (e - p) < 8 from nI_lt (b := 8) (by omega) (by decide))]; rfl
    · rw [if_neg c]
      refine Sm.find (lo := fun k => [some (vR 900006 0), some (vI (nI p)), some (vI (nI e)), some (vI (nI k))]) (hh := fun _ => h) (r := fun q => (some (vI (tkI (q.getD 3000))), h)) (mtA (fun i => v (p + i)) (e - p)) 23 (fun k hk pk => ?_) (fun k hk pk _ => Sm.ret ?_) (fun _ => Sm.ret ?_)
      · rw [t_Reader_slotOf_2, if_neg (show ¬ (23 : Int32) ≤ nI k from nI_ge (b := 23) hk (by decide)), c_isInSlot b hk he hp, clI_ok, pk, itF, nI_1]
      · rw [t_Reader_slotOf_2, if_neg (show ¬ (23 : Int32) ≤ nI k from nI_ge (b := 23) hk (by decide)), c_isInSlot b hk he hp, clI_ok, pk, itT]
        show _ = some (Sum.inr (some (vI (tkI k)), h))
        unfold tkI
        rw [if_neg (by omega), if_neg (by omega)]
      · rw [t_Reader_slotOf_2, if_pos (show (23 : Int32) ≤ nI 23 by decide)]
        rfl
theorem c_numberOf {h : MH} {v : Nat → Nat} {n p e : Nat} (b : BtV h v n) (he : e ≤ n) (hp : p ≤ e) (hd : ∀ i, p ≤ i → i < e → isDg (v i)) : E L scr (d + 1) 76 [vR 900006 0, vI (nI p), vI (nI e)] h = some (some (vI (if e - p ≤ 3 then nI (1000 + numN v p (e - p)) else -2)), h) := by
  obtain ⟨n9, hb, hv⟩ := id b
  have es : nI e - nI p = nI (e - p) := nI_sub hp
  by_cases c : e - p ≤ 3
  · refine r_Reader_numberOf _ _ _ _ (Sm.step (t' := 2) (lo' := [some (vR 900006 0), some (vI (nI p)), some (vI (nI e)), some (vI (nI (numN v p 0))), some (vI (nI (p + 0)))]) (st' := []) (h' := h) ?_ ?_)
    · rw [t_Reader_numberOf_0, es, if_pos (show nI (e - p) ≤ 3 from nI_le (b := 3) (by omega) (by decide))]; rfl
    · rw [if_pos c]
      refine Sm.for (lo := fun k => [some (vR 900006 0), some (vI (nI p)), some (vI (nI e)), some (vI (nI (numN v p k))), some (vI (nI (p + k)))]) (hh := fun _ => h) (e - p) (fun k hk => ?_) (Sm.ret ?_)
      · have dk := hd (p + k) (by omega) (by omega)
        rw [t_Reader_numberOf_2, if_neg (nI_ge (by omega) (by omega)), rd_Reader_bytes (oob_nI (by omega) (by decide)), ix_nI (by omega), hb _ (by omega), nI_1, show (10 : Int32) = nI 10 from rfl, show (48 : Int32) = nI 48 from rfl, nI_mul, nI_add, nI_sub (by omega)]
        show _ = some (Sum.inl (2, [some (vR 900006 0), some (vI (nI p)), some (vI (nI e)), some (vI (nI (numN v p k * 10 + (v (p + k) - 48)))), some (vI (nI (p + (k + 1))))], [], h))
        rw [Nat.add_sub_assoc dk.1, Nat.add_assoc]
      · rw [show p + (e - p) = e by omega, t_Reader_numberOf_2, if_pos (nI_le (Nat.le_refl _) (by omega)), show (1000 : Int32) = nI 1000 from rfl, nI_add]
  · refine r_Reader_numberOf _ _ _ _ (Sm.ret ?_)
    rw [if_neg c, t_Reader_numberOf_0, es, if_neg (show ¬ nI (e - p) ≤ 3 from nI_ge (a := 3) (by omega) (by omega))]
end Scan2

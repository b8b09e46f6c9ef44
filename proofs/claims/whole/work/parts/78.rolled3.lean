/-! CALL: rolled -/
section Rolled3
variable {L : Nat} {scr : Nat → Int32} {d : Nat}
theorem c_Roller_solve {a t : Nat → Nat} {n : Nat} (hn : n ≤ 7) (ha : ∀ b, a b ≤ 719) (ht : ∀ b, t b ≤ 99) {h : MH} (f : RoF a t n h) : ∃ h', E L scr (d + 10) 103 [vR 900008 0] h = some (none, h') ∧ StR a t n h h' (fac n) := by
  have i := c_place (L := L) (scr := scr) (d := d + 7 - n) hn ha ht f n (Nat.le_refl n) 0 0 (sI h 903 0 0 1000000) (by decide) (fun b hb => by
    rw [Nat.sub_self, show nI 0 = (0 : Int32) from rfl, bit_0 (by omega)]
    show false = !decide (b < n)
    rw [decide_eq_true hb]; rfl) (by
    rw [Nat.zero_mul]
    refine ⟨(Upd.rf _ h).sI (by decide), ?_⟩
    show hI _ _ _ _ = _
    rw [hI_rs, up_s]) (fun i hi => by rw [Nat.sub_self] at hi; exact absurd hi (Nat.not_lt_zero i))
  rw [Nat.sub_self, Nat.zero_mul, Nat.zero_add, show d + 7 - n + n + 2 = d + 9 by omega] at i
  obtain ⟨h', e, s, -⟩ := i
  refine ⟨h', r_Roller_solve _ _ (Sm.ret ?_), s⟩
  have e : E L scr (d + 9) 104 [vR 900008 0, vI 0, vI 0, vI 0, vI 0] (sI h 903 0 0 1000000) = some (none, h') := e
  rw [t_Roller_solve_0, e, clV_ok]
theorem call_rolled (x : Int32) (h : MH) (q : RRoll h) : Both L scr (d + 40) Scr (fun _ => True) 157 302 [vR 900011 0, vI x] [vR 900012 0, vI x] h := by
  obtain ⟨q1, q2, n, hn, en, em, hk⟩ := q
  obtain ⟨a, had⟩ : ∃ a : Nat → Nat, a = fun k => nn (hI h 901000007 0 k) := ⟨_, rfl⟩
  obtain ⟨t, htd⟩ : ∃ t : Nat → Nat, t = fun k => nn (hI h 902000007 0 k) := ⟨_, rfl⟩
  have hA : ∀ k, hI h 901000007 0 k = nI (a k) ∧ a k ≤ 719 := fun k => by rw [had]; exact nn_ex (by decide) (hk k).1
  have hT : ∀ k, hI h 902000007 0 k = nI (t k) ∧ t k ≤ 99 := fun k => by rw [htd]; exact nn_ex (by decide) (hk k).2
  have ha := fun k => (hA k).2
  have ht := fun k => (hT k).2
  have F : RoF a t n h := ⟨en, fun k => (hA k).1, fun k => (hT k).1⟩
  have G : RoM a t n h := ⟨em, fun k => by rw [← q1]; exact (hA k).1, fun k => by rw [← q2]; exact (hT k).1⟩
  have fn := fac_le hn
  obtain ⟨h1, s1, S1⟩ := c_Roller_solve (L := L) (scr := scr) (d := d + 29) hn ha ht F
  have G1 : RoM a t n h1 := by
    obtain ⟨g1, g2, g3⟩ := G
    exact ⟨by rw [S1.1.2 _ _ (by decide)]; exact g1, by rw [S1.1.2 _ _ (by decide)]; exact g2, by rw [S1.1.2 _ _ (by decide)]; exact g3⟩
  obtain ⟨p, hp⟩ := bs_pos (a := a) (t := t) (n := n) (fac n - 1)
  rw [show fac n - 1 + 1 = fac n by have := fac_pos n; omega] at hp
  have S1b := S1.2
  rw [hp] at S1b
  have S1b : hI h1 903 0 0 = nI (wvT a t n p) ∧ ∀ i, i < n → hI h1 904000007 0 i = nI ((prT a t n n p).2.2.2 i) := S1b
  -- the reference's run
  have B : ∀ v : Int32, (x = 0 → v = nI (wvT a t n p)) → (x ≠ 0 → ∃ i, i < n ∧ x - 10 = nI i ∧ v = nI ((prT a t n n p).2.2.2 i)) → ∃ h2, Upd Scr h h2 ∧ (dn L scr (E L scr (d + 39)) B_M_rolled C_M_rolled 0 [some (vR 900012 0), some (vI x), none, none, none, none] [] h1 = some (.inl (2, [some (vR 900012 0), some (vI x), some (vI 1), some (vI 2), none, none], [], h1)) → E L scr (d + 40) 302 [vR 900012 0, vI x] h1 = some (some (vI v), h2)) := fun v v0 v1 => by
    have key : Sx L scr (d + 39) B_M_rolled C_M_rolled 2 [some (vR 900012 0), some (vI x), some (vI (nI (fac (0 + 1)))), some (vI (nI (0 + 2))), none, none] h1 (fun rr => ∃ h2, rr = (some (vI v), h2) ∧ Upd Scr h h2) := by
      refine Sx.inv0 (P := fun j lo h' => lo = [some (vR 900012 0), some (vI x), some (vI (nI (fac (j + 1)))), some (vI (nI (j + 2))), none, none] ∧ h' = h1) (n - 1) ⟨rfl, rfl⟩ ?_ ?_
      · rintro j hj _ h' ⟨rfl, rfl⟩ kk
        have e : nI (fac (j + 1)) * nI (j + 2) = nI (fac (j + 1 + 1)) := by rw [nI_mul, Nat.mul_comm]; rfl
        refine Sx.step (t' := 2) (lo' := [some (vR 900012 0), some (vI x), some (vI (nI (fac (j + 1 + 1)))), some (vI (nI (j + 1 + 2))), none, none]) (h' := h') ?_ (kk _ _ ⟨rfl, rfl⟩)
        rw [t_M_rolled_2, G1.1, if_neg (nI_nlt (by omega) (by omega)), e, nI_1]
      · rintro _ h' ⟨rfl, rfl⟩
        have ef : fac (n - 1 + 1) = fac n := by
          cases n with
          | zero => rfl
          | succ n => rfl
        refine Sx.step (t' := 4) (lo' := [some (vR 900012 0), some (vI x), some (vI (nI (fac n))), some (vI (nI 0)), none, none]) (h' := sI h' 1361 0 0 1000000000) ?_ (M_loop hn ha ht G1 x _ ⟨(Upd.rf _ h').sI (by decide), by show hI _ _ _ _ = _; rw [hI_rs, up_s]⟩ _ (fun z4 z5 h2 S2 => ?_) none none)
        · rw [t_M_rolled_2, G1.1, if_pos (nI_lt (by omega) (by omega)), ef]; rfl
        · have S2b := S2.2
          rw [hp] at S2b
          have S2b : hI h2 1361 0 0 = nI (wvT a t n p) ∧ ∀ i, i < n → hI h2 1365000007 0 i = nI ((prT a t n n p).2.2.2 i) := S2b
          refine Sx.ret (r := (some (vI v), h2)) ?_ ⟨h2, rfl, (S1.1.mono (by decide)).tr (S2.1.mono (by decide))⟩
          rw [t_M_rolled_4, if_pos (nI_le (Nat.le_refl _) (by omega))]
          by_cases c : x = 0
          · rw [if_pos c, S2b.1, v0 c]
          · obtain ⟨i, hi, ei, ev⟩ := v1 c
            rw [if_neg c, ei, rd_M_rolledTurn (oob_nI (by omega) (by decide)), ix_nI (by omega), S2b.2 i hi, ev]
    obtain ⟨_, k1, h2, rfl, k2⟩ := key
    exact ⟨h2, k2, fun e => r_M_rolled _ _ _ (Sm.step e k1)⟩
  by_cases x0 : x = 0
  · obtain ⟨h2, u2, e2⟩ := B (nI (wvT a t n p)) (fun _ => rfl) (fun z => absurd x0 z)
    refine ⟨vI (nI (wvT a t n p)), h1, h2, r_P_rolled _ _ _ (Sm.step (t' := 3) (lo' := [some (vR 900011 0), some (vI x), some (vI 0)]) (st' := []) (h' := h) ?_ (Sm.ret ?_)), e2 ?_, u2, trivial⟩
    · rw [t_P_rolled_0, x0, if_pos (by decide), if_pos rfl]
    · rw [t_P_rolled_3, s1, clV_ok, if_pos x0, S1b.1]
    · rw [t_M_rolled_0, if_pos x0]
  · cases hx : inB x 10 (9 + nI n) with
    | false =>
      refine both0 (vI (-1)) (r_P_rolled _ _ _ (Sm.ret ?_)) (r_M_rolled _ _ _ (Sm.ret ?_)) trivial
      · rw [t_P_rolled_0, if_neg x0]
        by_cases c : x < 10
        · rw [if_pos c, if_pos rfl]
        · have c2 : nI n ≤ x - 10 := by
            have c3 := nlt_i.mp c
            obtain ⟨v, hv, rfl⟩ := nI_of (x := x) (by
              rw [Int32.le_iff_toInt_le] at c3
              rw [Int32.lt_iff_toInt_lt]
              have : (10 : Int32).toInt = 10 := rfl
              have : (0 : Int32).toInt = 0 := rfl
              omega)
            have hx2 : inB (nI v) (nI 10) (nI (9 + n)) = false := by rw [← nI_add]; exact hx
            rw [inB_nI hv (by decide) (by omega)] at hx2
            have hx3 := of_decide_eq_false hx2
            have v10 : 10 ≤ v := by
              rw [Int32.le_iff_toInt_le, nI_toInt hv] at c3
              have : (10 : Int32).toInt = 10 := rfl
              omega
            rw [show nI v - 10 = nI (v - 10) from nI_sub (b := 10) v10]
            exact nI_le (by omega) (by omega)
          rw [if_neg c, en, if_pos c2, if_pos rfl]
      · rw [t_M_rolled_0, if_neg x0, em, c_M_isIn, clI_ok, hx, itF]
    | true =>
      obtain ⟨v, hv1, hv2, rfl⟩ := inB_lu (a := 10) (n := 9 + n) (by decide) (by omega) (by rw [← nI_add]; exact hx)
      have ev : nI v - 10 = nI (v - 10) := nI_sub (b := 10) hv1
      obtain ⟨h2, u2, e2⟩ := B (nI ((prT a t n n p).2.2.2 (v - 10))) (fun z => absurd z x0) (fun _ => ⟨v - 10, by omega, ev, rfl⟩)
      refine ⟨vI (nI ((prT a t n n p).2.2.2 (v - 10))), h1, h2, r_P_rolled _ _ _ (Sm.step (t' := 3) (lo' := [some (vR 900011 0), some (vI (nI v)), some (vI 1)]) (st' := []) (h' := h) ?_ (Sm.ret ?_)), e2 ?_, u2, trivial⟩
      · rw [t_P_rolled_0, if_neg (show ¬ nI v < 10 from nI_nlt (b := 10) (by omega) (by omega)), en, ev, if_neg (nI_ge (by omega) (by omega)), if_neg x0, if_neg i0n1]
      · rw [t_P_rolled_3, s1, clV_ok, if_neg x0, ev, rd_Roller_bestTurn (oob_nI (by omega) (by decide)), ix_nI (by omega), S1b.2 _ (by omega)]
      · rw [t_M_rolled_0, if_neg x0, G1.1, c_M_isIn, clI_ok, hx, itT]
end Rolled3

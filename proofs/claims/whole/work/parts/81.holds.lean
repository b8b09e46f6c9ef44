/-! RULES: conditions on both sides -/
/-- a test of the class's code -/
def tstB (v : Nat → Int32) (c : Int32) : Bool := if c / 3000 < 8 then (if c / 1000 % 3 = 0 then decide (v (ix (c / 3000)) < c % 1000) else if c / 1000 % 3 = 1 then decide (v (ix (c / 3000)) = c % 1000) else decide (c % 1000 < v (ix (c / 3000)))) else false
/-- the class's codes and the reference's steps, as steps over a pile -/
def dcC (v : Nat → Int32) (c : Int32) : Nat × Bool := if c < 0 then (if c = -1 then (1, false) else if c = -3 then (2, false) else (3, false)) else (0, tstB v c)
def dcM (v : Nat → Int32) (o a t : Int32) : Nat × Bool := if 2 < o then (if o = 5 then (1, false) else if o = 3 then (2, false) else (3, false)) else (0, if o = 0 then decide (v (ix a) < t) else if o = 1 then decide (t < v (ix a)) else decide (v (ix a) = t))
/-- the answers that conditions ask for -/
def AskV (r v : Nat → Int32) : Prop := ∀ j, j < 8 → r j = v j
section Holds
variable {L : Nat} {scr : Nat → Int32} {d : Nat}
theorem c_passes {h : MH} {c : Int32} {v : Nat → Int32} (hv : AskV (hI h 1211000008 0) v) (hc : ¬ c < 0) : E L scr (d + 1) 62 [vI c, vR 1211000008 0] h = some (some (vI (zb (tstB v c))), h) := by
  obtain ⟨u, hu, rfl⟩ := nI_of hc
  have e1 : nI u / 3000 = nI (u / 3000) := nI_div (b := 3000) hu (by decide)
  have ea : ∀ k : Int32 → Option Exit, aln 0 1211000008 k = k 8 := fun k => if_pos rfl
  refine r_Law_passes _ _ _ _ (Sm.ret ?_)
  rw [t_Law_passes_0, dvI_ok (by decide), ea]
  unfold tstB
  by_cases c1 : nI u / 3000 < 8
  · have h8 : u / 3000 < 8 := by
      rw [e1] at c1
      exact (nI_ltI (b := 8) (by omega) (by decide)).mp c1
    have er : ∀ k : Int32 → Option Exit, rdI 0 h 1211000008 0 (nI u / 3000) k = k (v (ix (nI u / 3000))) := fun k => by
      rw [e1, rd_P_asked (oob_nI h8 (by decide)), ix_nI (by omega), hv _ h8]
    rw [if_pos c1, if_pos c1, dvI_ok (by decide), dvI_ok (by decide), dvI_ok (by decide), er, er, er]
    by_cases c2 : nI u / 1000 % 3 = 0
    · rw [if_pos c2, if_pos c2]
      by_cases c3 : nI u % 1000 ≤ v (ix (nI u / 3000))
      · rw [if_pos c3, decide_eq_false (fun z => nlt_i.mpr c3 z)]; rfl
      · rw [if_neg c3, decide_eq_true (nle_i.mp c3)]; rfl
    · rw [if_neg c2, if_neg c2]
      by_cases c4 : nI u / 1000 % 3 = 1
      · rw [if_pos c4, if_pos c4]
        by_cases c3 : v (ix (nI u / 3000)) = nI u % 1000
        · rw [if_pos c3, decide_eq_true c3]; rfl
        · rw [if_neg c3, decide_eq_false c3]; rfl
      · rw [if_neg c4, if_neg c4]
        by_cases c3 : v (ix (nI u / 3000)) ≤ nI u % 1000
        · rw [if_pos c3, decide_eq_false (fun z => nlt_i.mpr c3 z)]; rfl
        · rw [if_neg c3, decide_eq_true (nle_i.mp c3)]; rfl
  · rw [if_neg c1, if_neg c1]; rfl
theorem cmp1 (x : Int64) : (if x < 1 then (-1 : Int32) else if 1 < x then 1 else 0) = 0 ↔ x = 1 := by
  have h1 : (1 : Int64).toInt = 1 := rfl
  by_cases a : x < 1
  · rw [if_pos a]
    refine ⟨fun z => absurd z (by decide), fun z => ?_⟩
    rw [z] at a; exact absurd a (by decide)
  · rw [if_neg a]
    by_cases b : 1 < x
    · rw [if_pos b]
      refine ⟨fun z => absurd z (by decide), fun z => ?_⟩
      rw [z] at b; exact absurd b (by decide)
    · rw [if_neg b]
      refine ⟨fun _ => ?_, fun _ => rfl⟩
      rw [Int64.lt_iff_toInt_lt, h1] at a b
      exact Int64.toInt_inj.mp (by omega)
theorem c_holds {h : MH} {m a b C : Nat} {φ : Bool} {v : Nat → Int32} (hv : AskV (hI h 1211000008 0) v) (ha : a < b) (hb : b ≤ C) (hC : C ≤ 300) (eC : hI h 615 m 0 = nI C) (hr : ruL (fun j => dcC v (hI h 616000300 m j)) 60 a (b - a) [] = some [φ]) : E L scr (d + 2) 61 [vR 900005 m, vI (nI a), vI (nI b), vR 1211000008 0] h = some (some (vI (zb φ)), h) := by
  refine r_Law_holds _ _ _ _ _ _ (Sm.step (t' := 2) (lo' := [some (vR 900005 m), some (vI (nI a)), some (vI (nI b)), some (vR 1211000008 0), some (vL 0), none, some (vI (nI (a + 0))), none, none, none]) (st' := []) (h' := h) ?_ ?_)
  · rw [t_Law_holds_0, if_pos (nI_lt ha (by omega))]; rfl
  refine Sm.inv0 (P := fun i lo h' => ∃ x l z5 z7 z8 z9, lo = [some (vR 900005 m), some (vI (nI a)), some (vI (nI b)), some (vR 1211000008 0), some (vL x), z5, some (vI (nI (a + i))), z7, z8, z9] ∧ h' = h ∧ Rp x l ∧ l.length ≤ 60 ∧ ruL (fun j => dcC v (hI h 616000300 m j)) 60 (a + i) (b - a - i) l = some [φ]) (b - a) ⟨_, [], _, _, _, _, rfl, rfl, fun i hi => absurd hi (Nat.not_lt_zero i), Nat.zero_le _, hr⟩ ?_ ?_
  · rintro i hi _ h' ⟨x, l, z5, z7, z8, z9, rfl, rfl, hx, hl, hrun⟩ kk
    rw [show b - a - i = (b - a - (i + 1)) + 1 by omega] at hrun
    obtain ⟨l', e1, e2, e3⟩ := ruL_inv hrun
    have hi2 : a + i < 300 := by omega
    obtain ⟨c, hc⟩ : ∃ c, c = hI h' 616000300 m (a + i) := ⟨_, rfl⟩
    rw [← hc] at e1
    have pre : ∀ (x' : Int64) z5 z7 z8 z9, Rp x' l' → Sm L scr (d + 1) B_Law_holds C_Law_holds 2 [some (vR 900005 m), some (vI (nI a)), some (vI (nI b)), some (vR 1211000008 0), some (vL x'), z5, some (vI (nI (a + i) + 1)), z7, z8, z9] [] h' (some (vI (zb φ)), h') := fun x' z5 z7 z8 z9 hx' => kk _ _ ⟨x', l', z5, z7, z8, z9, by rw [nI_1]; rfl, rfl, hx', e2, e3⟩
    by_cases c0 : c < 0
    · by_cases c1 : c = -1
      · have ed : dcC v c = (1, false) := by unfold dcC; rw [if_pos c0, if_pos c1]
        rw [ed] at e1
        cases l with
        | nil => cases e1
        | cons y l =>
          injection e1 with e1
          subst e1
          refine Sm.step ?_ (pre _ none (some (vI c)) z8 z9 (Rp_not hx))
          rw [t_Law_holds_2, if_neg (nI_ge (by omega) (by omega)), eC, if_neg (nI_ge (by omega) (by omega)), rd_Law_code (oob_nI hi2 (by decide)), ix_nI (by omega), ← hc, if_pos c0, if_pos c1]
      · by_cases c2 : c = -3
        · have ed : dcC v c = (2, false) := by unfold dcC; rw [if_pos c0, if_neg c1, if_pos c2]
          rw [ed] at e1
          match l, e1, hx, hl with
          | [], e1, _, _ => cases e1
          | [_], e1, _, _ => cases e1
          | y :: w :: l, e1, hx, hl =>
            injection e1 with e1
            subst e1
            refine Sm.step ?_ (pre _ none (some (vI c)) (some (vL (x &&& 1))) none (Rp_or hx))
            rw [t_Law_holds_2, if_neg (nI_ge (by omega) (by omega)), eC, if_neg (nI_ge (by omega) (by omega)), rd_Law_code (oob_nI hi2 (by decide)), ix_nI (by omega), ← hc, if_pos c0, if_neg c1, if_pos c2]
        · have ed : dcC v c = (3, false) := by unfold dcC; rw [if_pos c0, if_neg c1, if_neg c2]
          rw [ed] at e1
          match l, e1, hx, hl with
          | [], e1, _, _ => cases e1
          | [_], e1, _, _ => cases e1
          | y :: w :: l, e1, hx, hl =>
            injection e1 with e1
            subst e1
            refine Sm.step ?_ (pre _ none (some (vI c)) (some (vL (x &&& 1))) none (Rp_and hx (by have : l.length + 2 ≤ 60 := hl; omega)))
            rw [t_Law_holds_2, if_neg (nI_ge (by omega) (by omega)), eC, if_neg (nI_ge (by omega) (by omega)), rd_Law_code (oob_nI hi2 (by decide)), ix_nI (by omega), ← hc, if_pos c0, if_neg c1, if_neg c2]
    · have ed : dcC v c = (0, tstB v c) := by unfold dcC; rw [if_neg c0]
      rw [ed] at e1
      injection e1 with e1
      subst e1
      refine Sm.step ?_ (pre _ none (some (vI c)) z8 z9 (Rp_push hx (by omega) (tstB v c)))
      rw [t_Law_holds_2, if_neg (nI_ge (by omega) (by omega)), eC, if_neg (nI_ge (by omega) (by omega)), rd_Law_code (oob_nI hi2 (by decide)), ix_nI (by omega), ← hc, if_neg c0, c_passes hv c0, clI_ok]
      cases tstB v c with
      | false => rw [if_pos (show zb false = 0 from rfl)]; rfl
      | true => rw [if_neg (show ¬ zb true = 0 by decide)]; rfl
  · rintro _ h' ⟨x, l, z5, z7, z8, z9, rfl, rfl, hx, hl, hrun⟩
    rw [Nat.sub_self] at hrun
    have e : l = [φ] := by
      have : some l = some [φ] := hrun
      injection this
    subst e
    refine Sm.ret ?_
    rw [t_Law_holds_2, if_pos (nI_le (by omega) (by omega)), Rp_bit hx]
    cases φ with
    | false => rw [if_neg (fun z => by have := (cmp1 _).mp z; exact absurd this (by decide))]; rfl
    | true => rw [if_pos ((cmp1 (if true = true then 1 else 0)).mpr rfl)]; rfl
theorem c_holds0 {h : MH} {m : Nat} (a b : Int32) (hab : ¬ a < b) : E L scr (d + 1) 61 [vR 900005 m, vI a, vI b, vR 1211000008 0] h = some (some (vI (zb true)), h) := by
  refine r_Law_holds _ _ _ _ _ _ (Sm.ret ?_)
  rw [t_Law_holds_0, if_neg hab]; rfl
end Holds

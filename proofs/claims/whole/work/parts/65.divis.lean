/-! For keep: the common divisor of both sides -/
theorem lNi {n : Nat} (h : n < 2 ^ 63) : (lN n).toInt = (n : Int) := lg_ofNat_toInt h
theorem lNmod {a b : Nat} (ha : a < 2 ^ 63) (hb : b < 2 ^ 63) : lN a % lN b = lN (a % b) := (Int64.ofNat_mod ha hb).symm
theorem lNdiv {a b : Nat} (ha : a < 2 ^ 63) (hb : b < 2 ^ 63) : lN a / lN b = lN (a / b) := (Int64.ofNat_div ha hb).symm
theorem lN0 {n : Nat} (h : n < 2 ^ 63) : lN n = 0 ↔ n = 0 := by
  rw [← Int64.toInt_inj, lNi h]
  show ((n : Int) = 0) ↔ _
  omega
theorem lNsg {n : Nat} (h : n < 2 ^ 63) : (if lN n < 0 then (-1 : Int32) else if 0 < lN n then 1 else 0) = if n = 0 then 0 else 1 := by
  have h0 : (0 : Int64).toInt = 0 := rfl
  rw [if_neg (show ¬ lN n < 0 by rw [Int64.lt_iff_toInt_lt, lNi h]; omega)]
  by_cases c : n = 0
  · rw [if_pos c, if_neg (by rw [Int64.lt_iff_toInt_lt, lNi h]; omega)]
  · rw [if_neg c, if_pos (by rw [Int64.lt_iff_toInt_lt, lNi h]; omega)]
/-- one step of Euclid -/
def euT (s : Nat × Nat) : Nat × Nat := if s.2 = 0 then s else (s.2, s.1 % s.2)
def euI : Nat → Nat × Nat → Nat × Nat
  | 0, s => s
  | n + 1, s => euT (euI n s)
theorem euI_c : ∀ n s, euI (n + 1) s = euI n (euT s)
  | 0, _ => rfl
  | n + 1, s => by show euT (euI (n + 1) s) = euT (euI n (euT s)); rw [euI_c n s]
theorem euI_0 {s : Nat × Nat} (h : s.2 = 0) : ∀ n, euI n s = s
  | 0 => rfl
  | n + 1 => by show euT (euI n s) = s; rw [euI_0 h n]; exact if_pos h
theorem euI_eq : ∀ n s, euI n s = euS n s
  | 0, _ => rfl
  | n + 1, s => by
    rw [euI_c]
    show _ = if s.2 = 0 then s else euS n (s.2, s.1 % s.2)
    by_cases c : s.2 = 0
    · rw [if_pos c, show euT s = s from if_pos c, euI_0 c]
    · rw [if_neg c, show euT s = (s.2, s.1 % s.2) from if_neg c, euI_eq n]
theorem euI_stay {s : Nat × Nat} {k : Nat} (h : (euI k s).2 = 0) : ∀ {n : Nat}, k ≤ n → euI n s = euI k s
  | 0, hk => by have : k = 0 := by omega
                rw [this]
  | n + 1, hk => by
    rcases Nat.lt_or_ge n k with c | c
    · have : k = n + 1 := by omega
      rw [this]
    · show euT (euI n s) = _
      rw [euI_stay h c]; exact if_pos h
theorem euI_lt {a b N : Nat} (ha : a < N) (hb : b < N) : ∀ n, (euI n (a, b)).1 < N ∧ (euI n (a, b)).2 < N
  | 0 => ⟨ha, hb⟩
  | n + 1 => by
    have ih := euI_lt ha hb n
    show (euT (euI n (a, b))).1 < N ∧ (euT (euI n (a, b))).2 < N
    unfold euT
    by_cases c : (euI n (a, b)).2 = 0
    · rw [if_pos c]; exact ih
    · rw [if_neg c]
      exact ⟨ih.2, Nat.lt_of_lt_of_le (Nat.mod_lt _ (Nat.pos_of_ne_zero c)) (Nat.le_of_lt ih.2)⟩
/-- where Euclid ends -/
def gcE (a b : Nat) : Nat := (euI 200 (a, b)).1
theorem gcE_end {a b : Nat} (hb : b < 2 ^ 63) : (euI 127 (a, b)).2 = 0 := by
  rw [euI_eq]; exact eu_end 63 hb
section Divis
variable {L : Nat} {scr : Nat → Int32} {d : Nat}
theorem c_commonDivisor {h : MH} {a b : Nat} (ha : a < 2 ^ 63) (hb : b < 2 ^ 63) : E L scr (d + 1) 26 [vL (lN a), vL (lN b)] h = some (some (vL (lN (gcE a b))), h) := by
  obtain ⟨s, hs⟩ : ∃ s, s = (a, b) := ⟨_, rfl⟩
  have lt := fun n => euI_lt (N := 2 ^ 63) ha hb n
  rw [← hs] at lt
  obtain ⟨p, hp⟩ : ∃ p : Nat → Bool, p = fun k => decide ((euI k s).2 = 0) := ⟨_, rfl⟩
  have hp0 : ∀ k, p k = decide ((euI k s).2 = 0) := fun k => by rw [hp]
  refine r_Demand_commonDivisor _ _ _ (Sm.step (t' := 1) (lo' := [some (vL (lN a)), none, some (vL (lN b)), none, some (vL (lN (euI 0 s).1)), none, some (vL (lN (euI 0 s).2)), none, some (vI 0), none, none]) (st' := []) (h' := h) (by rw [t_Demand_commonDivisor_0, hs]; rfl) ?_)
  refine Sm.find (lo := fun k => [some (vL (lN a)), none, some (vL (lN b)), none, some (vL (lN (euI k s).1)), none, some (vL (lN (euI k s).2)), none, some (vI (nI k)), (match k with | 0 => none | j + 1 => some (vL (lN (euI (j + 1) s).2))), none]) (hh := fun _ => h) (r := fun _ => (some (vL (lN (gcE a b))), h)) p 200 (fun k hk pk => ?_) (fun k hk pk _ => Sm.ret ?_) (fun _ => Sm.ret ?_)
  · rw [hp0] at pk
    have c := of_decide_eq_false pk
    have e : euI (k + 1) s = ((euI k s).2, (euI k s).1 % (euI k s).2) := if_neg c
    rw [t_Demand_commonDivisor_1, if_neg (show ¬ (200 : Int32) ≤ nI k from nI_ge (b := 200) hk (by decide)), lNsg (lt k).2, if_neg c, if_neg (by decide), dvJ_ok (fun z => c ((lN0 (lt k).2).mp z)), lNmod (lt k).1 (lt k).2, nI_1]
    show _ = some (Sum.inl (1, [_, _, _, _, some (vL (lN (euI (k + 1) s).1)), _, some (vL (lN (euI (k + 1) s).2)), _, _, some (vL (lN (euI (k + 1) s).2)), _], [], h))
    rw [e]; rfl
  · rw [hp0] at pk
    have c := of_decide_eq_true pk
    have e := euI_stay c (n := 200) (by omega)
    rw [t_Demand_commonDivisor_1, if_neg (show ¬ (200 : Int32) ≤ nI k from nI_ge (b := 200) hk (by decide)), lNsg (lt k).2, if_pos c, if_pos rfl]
    unfold gcE
    rw [← hs, e]
  · rw [t_Demand_commonDivisor_1, if_pos (show (200 : Int32) ≤ nI 200 by decide)]
    unfold gcE
    rw [← hs]
theorem c_absN {h : MH} {a : Nat} (ha : a < 2 ^ 63) : E L scr (d + 1) 335 [vL (lN a)] h = some (some (vL (lN a)), h) := by
  rw [c_abs]
  by_cases c : 0 < lN a
  · rw [if_pos c]
  · have : a = 0 := by
      rw [Int64.lt_iff_toInt_lt, lNi ha] at c
      have : (0 : Int64).toInt = 0 := rfl
      omega
    subst this
    rw [if_neg c]; rfl
theorem c_M_divisor {h : MH} {a b : Nat} (ha : a < 2 ^ 63) (hb : b < 2 ^ 63) : E L scr (d + 2) 294 [vL (lN a), vL (lN b)] h = some (some (vL (lN (gcE a b))), h) := by
  obtain ⟨s, hs⟩ : ∃ s, s = (a, b) := ⟨_, rfl⟩
  have lt := fun n => euI_lt (N := 2 ^ 63) ha hb n
  have hend := gcE_end (a := a) hb
  rw [← hs] at lt hend
  obtain ⟨p, hp⟩ : ∃ p : Nat → Bool, p = fun k => decide ((euI k s).2 = 0) := ⟨_, rfl⟩
  have hp0 : ∀ k, p k = decide ((euI k s).2 = 0) := fun k => by rw [hp]
  refine r_M_divisor _ _ _ (Sm.step (t' := 1) (lo' := [some (vL (lN a)), none, some (vL (lN b)), none, some (vL (lN (euI 0 s).1)), none, some (vL (lN (euI 0 s).2)), none, none, none]) (st' := []) (h' := h) (by rw [t_M_divisor_0, c_absN ha, clJ_ok, c_absN hb, clJ_ok, hs]; rfl) ?_)
  refine Sm.find (lo := fun k => [some (vL (lN a)), none, some (vL (lN b)), none, some (vL (lN (euI k s).1)), none, some (vL (lN (euI k s).2)), none, (match k with | 0 => none | j + 1 => some (vL (lN (euI (j + 1) s).2))), none]) (hh := fun _ => h) (r := fun _ => (some (vL (lN (gcE a b))), h)) p 200 (fun k hk pk => ?_) (fun k hk pk _ => Sm.ret ?_) (fun z => ?_)
  · rw [hp0] at pk
    have c := of_decide_eq_false pk
    have e : euI (k + 1) s = ((euI k s).2, (euI k s).1 % (euI k s).2) := if_neg c
    rw [t_M_divisor_1, lNsg (lt k).2, if_neg c, if_neg (by decide), dvJ_ok (fun z => c ((lN0 (lt k).2).mp z)), lNmod (lt k).1 (lt k).2]
    show _ = some (Sum.inl (1, [_, _, _, _, some (vL (lN (euI (k + 1) s).1)), _, some (vL (lN (euI (k + 1) s).2)), _, some (vL (lN (euI (k + 1) s).2)), _], [], h))
    rw [e]; rfl
  · rw [hp0] at pk
    have c := of_decide_eq_true pk
    have e := euI_stay c (n := 200) (by omega)
    rw [t_M_divisor_1, lNsg (lt k).2, if_pos c, if_pos (by decide)]
    unfold gcE
    rw [← hs, e]
  · have := ffst_none z 127 (by decide)
    rw [hp0, decide_eq_true hend] at this
    cases this
end Divis

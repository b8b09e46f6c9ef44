/-! For keep and least: what is wanted; steps of Euclid -/
section Want
variable {L : Nat} {scr : Nat → Int32} {d : Nat}
def wnS (c : Nat → Nat) : Nat → Nat := sumN (fun _ => true) (fun k => c k * (k % 6))
def wnI (c : Nat → Nat) (i : Nat) : Nat → Nat := sumN (fun _ => true) (fun j => j * c (6 * i + j))
def wnN (c : Nat → Nat) : Nat → Nat := sumN (fun _ => true) (fun i => wnI c i 6)
theorem wnS_s {c : Nat → Nat} {k : Nat} : wnS c (k + 1) = wnS c k + c k * (k % 6) := sumN_t (p := fun _ => true) rfl
theorem wnI_s {c : Nat → Nat} {i j : Nat} : wnI c i (j + 1) = wnI c i j + j * c (6 * i + j) := sumN_t (p := fun _ => true) rfl
theorem wnN_s {c : Nat → Nat} {i : Nat} : wnN c (i + 1) = wnN c i + wnI c i 6 := sumN_t (p := fun _ => true) rfl
theorem wn_eq {c : Nat → Nat} : ∀ i, wnS c (6 * i) = wnN c i
  | 0 => rfl
  | i + 1 => by
    have ih := wn_eq (c := c) i
    have key : ∀ j, j ≤ 6 → wnS c (6 * i + j) = wnN c i + wnI c i j := by
      intro j
      induction j with
      | zero => intro _; rw [Nat.add_zero, ih]; rfl
      | succ j h =>
        intro hj
        have e : (6 * i + j) % 6 = j := by omega
        rw [← Nat.add_assoc, wnS_s, h (by omega), wnI_s, e, Nat.mul_comm (c (6 * i + j)) j, Nat.add_assoc]
    rw [show 6 * (i + 1) = 6 * i + 6 by omega, key 6 (Nat.le_refl _), wnN_s]
theorem c_wanted {h : MH} {c : Nat → Nat} (hc : ∀ k, hI h 300000072 0 k = nI (c k)) : E L scr (d + 1) 23 [vR 900002 0] h = some (some (vI (nI (wnN c 12))), h) := by
  rw [← wn_eq 12]
  refine r_Demand_wanted _ _ (Sm.step (t' := 1) (lo' := [some (vR 900002 0), some (vI (nI (wnS c 0))), some (vI 0)]) (st' := []) (h' := h) (t_Demand_wanted_0 ..) ?_)
  refine Sm.for (lo := fun k => [some (vR 900002 0), some (vI (nI (wnS c k))), some (vI (nI k))]) (hh := fun _ => h) 72 (fun k hk => ?_) (Sm.ret ?_)
  · rw [t_Demand_wanted_1, if_neg (show ¬ (72 : Int32) ≤ nI k from nI_ge (b := 72) hk (by decide)), rd_Demand_parts (oob_nI hk (by decide)), ix_nI (by omega), dvI_ok (by decide), hc, show (6 : Int32) = nI 6 from rfl, nI_mod (by omega) (by decide), nI_mul, nI_add, nI_1, wnS_s]
  · rw [t_Demand_wanted_1, if_pos (by decide)]
theorem c_M_wantedNow {h : MH} {c : Nat → Nat} (hc : ∀ k, hI h 1357000072 0 k = nI (c k)) : E L scr (d + 1) 293 [vR 900012 0] h = some (some (vI (nI (wnN c 12))), h) := by
  refine r_M_wantedNow _ _ (Sm.step (t' := 1) (lo' := [some (vR 900012 0), some (vI (nI (wnN c 0))), some (vI 0), none]) (st' := []) (h' := h) (t_M_wantedNow_0 ..) ?_)
  refine Sm.iter (lo := fun k => [some (vR 900012 0), some (vI (nI (wnN c k))), some (vI (nI k)), match k with | 0 => none | _ + 1 => some (vI (nI 6))]) (hh := fun _ => h) 12 (fun k hk kk => ?_) (Sm.ret ?_)
  · refine Sm.step (t' := 2) (lo' := [some (vR 900012 0), some (vI (nI (wnN c k + wnI c k 0))), some (vI (nI k)), some (vI 0)]) (st' := []) (h' := h) ?_ ?_
    · rw [t_M_wantedNow_1, if_neg (show ¬ (12 : Int32) ≤ nI k from nI_ge (b := 12) hk (by decide))]; rfl
    refine Sm.for (lo := fun j => [some (vR 900012 0), some (vI (nI (wnN c k + wnI c k j))), some (vI (nI k)), some (vI (nI j))]) (hh := fun _ => h) 6 (fun j hj => ?_) (Sm.step (t' := 1) (lo' := [some (vR 900012 0), some (vI (nI (wnN c (k + 1)))), some (vI (nI (k + 1))), some (vI (nI 6))]) (st' := []) (h' := h) ?_ kk)
    · rw [t_M_wantedNow_2, if_neg (show ¬ (6 : Int32) ≤ nI j from nI_ge (b := 6) hj (by decide)), show (6 : Int32) = nI 6 from rfl, nI_mul, nI_add, rd_M_chances (oob_nI (by omega) (by decide)), ix_nI (by omega), hc, nI_mul, nI_add, nI_1, wnI_s, Nat.add_assoc]
    · rw [t_M_wantedNow_2, if_pos (by decide), wnN_s, nI_1]
  · rw [t_M_wantedNow_1, if_pos (by decide)]
end Want
/-- n steps of Euclid, standing still at nought -/
def euS : Nat → Nat × Nat → Nat × Nat
  | 0, s => s
  | n + 1, s => if s.2 = 0 then s else euS n (s.2, s.1 % s.2)
theorem eu_half {a b : Nat} (hb : 0 < b) (h : 0 < a % b) : 2 * (b % (a % b)) ≤ b := by
  have h1 : a % b < b := Nat.mod_lt _ hb
  rcases Nat.lt_or_ge b (2 * (a % b)) with c | c
  · have : b % (a % b) = b - a % b := by
      rw [Nat.mod_eq_sub_mod (Nat.le_of_lt h1), Nat.mod_eq_of_lt (by omega)]
    omega
  · have := Nat.mod_lt b h
    omega
theorem eu_0 {n a : Nat} : euS n (a, 0) = (a, 0) := by
  cases n with
  | zero => rfl
  | succ n => exact if_pos rfl
theorem eu_end : ∀ k {a b : Nat}, b < 2 ^ k → (euS (2 * k + 1) (a, b)).2 = 0
  | 0, a, b, h => by
    have : b = 0 := by omega
    subst this
    rw [eu_0]
  | k + 1, a, b, h => by
    rcases Nat.eq_zero_or_pos b with c | c
    · subst c; rw [eu_0]
    · show (if b = 0 then (a, b) else euS (2 * k + 1 + 1) (b, a % b)).2 = 0
      rw [if_neg (by omega)]
      rcases Nat.eq_zero_or_pos (a % b) with e | e
      · rw [e, eu_0]
      · show (if a % b = 0 then (b, a % b) else euS (2 * k + 1) (a % b, b % (a % b))).2 = 0
        rw [if_neg (by omega)]
        have := eu_half c e
        rw [Nat.pow_succ] at h
        exact eu_end k (by omega)

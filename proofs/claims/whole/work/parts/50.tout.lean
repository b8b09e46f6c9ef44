/-! CALL: tout; whether the chances are whole -/
theorem nI_sub_toInt {a b : Nat} (ha : a < 2 ^ 30) (hb : b < 2 ^ 30) : (nI a - nI b).toInt = (a : Int) - b := by
  rw [Int32.toInt_sub, nI_toInt (by omega), nI_toInt (by omega), Int.bmod_eq_of_le_mul_two (by omega) (by omega)]
section Tout
variable {L : Nat} {scr : Nat → Int32} {d : Nat}
/-- how many of the first n stay -/
def stN (v : Nat → Nat) (p r : Nat) : Nat → Nat := sumN (fun k => !decide (r + v k < p)) (fun _ => 1)
theorem stN_le {v : Nat → Nat} {p r n : Nat} : stN v p r n ≤ n := by
  have := sumN_le (p := fun k => !decide (r + v k < p)) (v := fun _ => 1) (m := 1) (n := n) (fun _ _ => Nat.le_refl _)
  unfold stN
  omega
theorem stN_s {v : Nat → Nat} {p r k : Nat} : stN v p r (k + 1) = if r + v k < p then stN v p r k else stN v p r k + 1 := by
  unfold stN
  by_cases c : r + v k < p
  · rw [if_pos c, sumN_f (by show (!decide (r + v k < p)) = false; rw [decide_eq_true c]; rfl)]
  · rw [if_neg c, sumN_t (by show (!decide (r + v k < p)) = true; rw [decide_eq_false c]; rfl)]
theorem c_staying {h : MH} {n p r : Nat} {v : Nat → Nat} (hn : n ≤ 12) (e : hI h 301 0 0 = nI n) (hp : p ≤ 999) (hr : r ≤ 999) (hv : ∀ k, k < n → hI h 302000012 0 k = nI (v k) ∧ v k ≤ 999) : E L scr (d + 1) 29 [vR 900002 0, vI (nI p), vI (nI r)] h = some (some (vI (nI (stN v p r n))), h) := by
  refine r_Demand_staying _ _ _ _ (Sm.step (t' := 1) (lo' := [some (vR 900002 0), some (vI (nI p)), some (vI (nI r)), some (vI 0), some (vI 0)]) (st' := []) (h' := h) (t_Demand_staying_0 ..) ?_)
  refine Sm.for (lo := fun k => [some (vR 900002 0), some (vI (nI p)), some (vI (nI r)), some (vI (nI (stN v p r k))), some (vI (nI k))]) (hh := fun _ => h) n (fun k hk => ?_) (Sm.ret ?_)
  · obtain ⟨ev, hv9⟩ := hv k hk
    rw [t_Demand_staying_1, e, if_neg (nI_ge hk (by omega)), rd_Demand_patience (oob_nI (by omega) (by decide)), ix_nI (by omega), ev, nI_1, stN_s]
    have key : nI (v k) < nI p - nI r ↔ r + v k < p := by
      rw [Int32.lt_iff_toInt_lt, nI_sub_toInt (by omega) (by omega), nI_toInt (by omega)]
      omega
    by_cases c : r + v k < p
    · rw [if_pos (key.mpr c), if_pos c, Int32.add_zero]
    · rw [if_neg (fun z => c (key.mp z)), if_neg c, nI_1]
  · rw [t_Demand_staying_1, e, if_pos (nI_le (Nat.le_refl _) (by omega))]
theorem c_M_stays {h : MH} {n p r : Nat} {v : Nat → Nat} (hn : n ≤ 12) (e : hI h 1381 0 0 = nI n) (hp : p ≤ 999) (hr : r ≤ 999) (hv : ∀ k, k < n → hI h 1382000012 0 k = nI (v k) ∧ v k ≤ 999) : E L scr (d + 2) 323 [vR 900012 0, vI (nI p), vI (nI r)] h = some (some (vI (nI (stN v p r n))), h) := by
  refine r_M_stays _ _ _ _ (Sm.step (t' := 1) (lo' := [some (vR 900012 0), some (vI (nI p)), some (vI (nI r)), some (vI 0), some (vI 0)]) (st' := []) (h' := h) (t_M_stays_0 ..) ?_)
  refine Sm.for (lo := fun k => [some (vR 900012 0), some (vI (nI p)), some (vI (nI r)), some (vI (nI (stN v p r k))), some (vI (nI k))]) (hh := fun _ => h) n (fun k hk => ?_) (Sm.ret ?_)
  · obtain ⟨ev, hv9⟩ := hv k hk
    rw [t_M_stays_1, e, if_neg (nI_ge hk (by omega)), rd_M_loyal (oob_nI (by omega) (by decide)), ix_nI (by omega), ev, nI_1, stN_s, nI_add]
    by_cases c : r + v k < p
    · rw [if_pos (nI_lt c (by omega)), if_pos c, c_M_one, clI_ok, if_pos rfl, Int32.add_zero]
    · rw [if_neg (nI_nlt (by omega) (by omega)), if_neg c, c_M_one, clI_ok, if_neg i0n1, nI_1]
  · rw [t_M_stays_1, e, if_pos (nI_le (Nat.le_refl _) (by omega))]
/-- the best of the prices up to k -/
def bpN (s : Nat → Nat) : Nat → Nat
  | 0 => 0
  | k + 1 => if (k + 1) * s (k + 1) ≤ bpN s k * s (bpN s k) then bpN s k else k + 1
theorem bpN_le {s : Nat → Nat} : ∀ k, bpN s k ≤ k
  | 0 => Nat.le_refl _
  | k + 1 => by
    have := bpN_le (s := s) k
    show (if (k + 1) * s (k + 1) ≤ bpN s k * s (bpN s k) then bpN s k else k + 1) ≤ k + 1
    split <;> omega
theorem call_tout (x y z : Int32) (h : MH) (q : RLoyal h) : Both L scr (d + 40) Scr (fun _ => True) 170 324 [vR 900011 0, vI x, vI y, vI z] [vR 900012 0, vI x, vI y, vI z] h := by
  obtain ⟨q1, n, hn, e, m, q2⟩ := q
  cases hx : inB x 0 999 with
  | false =>
    refine both0 (vI (-1000000)) (r_P_tout _ _ _ _ _ (Sm.ret ?_)) (r_M_tout _ _ _ _ _ (Sm.ret ?_)) trivial
    · rw [t_P_tout_0, c_P_isCoin, clI_ok, hx, itF]
    · rw [t_M_tout_0, c_M_isIn, clI_ok, hx, itF]
  | true =>
    cases hy : inB y 0 9999 with
    | false =>
      refine both0 (vI (-1000000)) (r_P_tout _ _ _ _ _ (Sm.ret ?_)) (r_M_tout _ _ _ _ _ (Sm.ret ?_)) trivial
      · rw [t_P_tout_0, c_P_isCoin, clI_ok, hx, itT, c_P_within, clI_ok, hy, itF]
      · rw [t_M_tout_0, c_M_isIn, clI_ok, hx, itT, c_M_isIn, clI_ok, hy, itF]
    | true =>
      cases hz : inB z 0 3 with
      | false =>
        refine both0 (vI (-1000000)) (r_P_tout _ _ _ _ _ (Sm.ret ?_)) (r_M_tout _ _ _ _ _ (Sm.ret ?_)) trivial
        · rw [t_P_tout_0, c_P_isCoin, clI_ok, hx, itT, c_P_within, clI_ok, hy, itT, c_P_within, clI_ok, hz, itF]
        · rw [t_M_tout_0, c_M_isIn, clI_ok, hx, itT, c_M_isIn, clI_ok, hy, itT, c_M_isIn, clI_ok, hz, itF]
      | true =>
        obtain ⟨r, hr, rfl⟩ := inB_t (n := 999) rfl hx
        obtain ⟨v, hv⟩ : ∃ v : Nat → Nat, v = fun k => nn (hI h 302000012 0 k) := ⟨_, rfl⟩
        have hvk : ∀ k, hI h 302000012 0 k = nI (v k) ∧ v k ≤ 999 := fun k => by rw [hv]; exact nn_ex (by decide) (q2 k)
        obtain ⟨s, hs⟩ : ∃ s : Nat → Nat, s = fun p => stN v p r n := ⟨_, rfl⟩
        have s12 : ∀ p, s p ≤ n := fun p => by rw [hs]; exact stN_le
        have eC : ∀ d p, p ≤ 999 → E L scr (d + 1) 29 [vR 900002 0, vI (nI p), vI (nI r)] h = some (some (vI (nI (s p))), h) := fun d p hp => by
          rw [c_staying hn e hp hr (fun k _ => hvk k), hs]
        have eM : ∀ d p, p ≤ 999 → E L scr (d + 2) 323 [vR 900012 0, vI (nI p), vI (nI r)] h = some (some (vI (nI (s p))), h) := fun d p hp => by
          rw [c_M_stays hn m hp hr (fun k _ => by rw [← q1]; exact hvk k), hs]
        have pm : ∀ p, p ≤ 999 → p * s p ≤ 999 * 12 := fun p hp => Nat.mul_le_mul hp (Nat.le_trans (s12 p) hn)
        obtain ⟨B, hB⟩ : ∃ B, B = bpN s 999 := ⟨_, rfl⟩
        have B9 : B ≤ 999 := by rw [hB]; exact bpN_le _
        have eB : E L scr (d + 39) 30 [vR 900002 0, vI (nI r)] h = some (some (vI (nI B)), h) := by
          refine r_Demand_bestPrice _ _ _ (Sm.step (t' := 1) (lo' := [some (vR 900002 0), some (vI (nI r)), some (vI 0), some (vI 0), some (vI 0), none]) (st' := []) (h' := h) (t_Demand_bestPrice_0 ..) ?_)
          refine Sm.step (t' := 1) (lo' := [some (vR 900002 0), some (vI (nI r)), some (vI (nI (bpN s 0))), some (vI (nI (bpN s 0 * s (bpN s 0)))), some (vI (nI (0 + 1))), some (vI (nI (0 * s 0)))]) (st' := []) (h' := h) ?_ ?_
          · rw [t_Demand_bestPrice_1, if_neg (by decide), show (0 : Int32) = nI 0 from rfl, eC _ 0 (by omega), clI_ok, nI_mul, Nat.zero_mul, if_pos (by decide)]
            show _ = some (Sum.inl (1, [_, _, some (vI (nI 0)), some (vI (nI (0 * s 0))), _, _], [], h))
            rw [Nat.zero_mul]; rfl
          refine Sm.for (lo := fun k => [some (vR 900002 0), some (vI (nI r)), some (vI (nI (bpN s k))), some (vI (nI (bpN s k * s (bpN s k)))), some (vI (nI (k + 1))), some (vI (nI (k * s k)))]) (hh := fun _ => h) 999 (fun k hk => ?_) (Sm.ret ?_)
          · have b9 := bpN_le (s := s) k
            have p1 := pm (bpN s k) (by omega)
            have p2 := pm (k + 1) (by omega)
            rw [t_Demand_bestPrice_1, if_neg (show ¬ (999 : Int32) < nI (k + 1) from nI_nlt (a := 999) (by omega) (by decide)), eC _ (k + 1) (by omega), clI_ok, nI_mul, nI_1]
            by_cases c : (k + 1) * s (k + 1) ≤ bpN s k * s (bpN s k)
            · have e1 : bpN s (k + 1) = bpN s k := if_pos c
              rw [if_pos (nI_le c (by omega)), e1]
            · have e1 : bpN s (k + 1) = k + 1 := if_neg c
              rw [if_neg (nI_ge (by omega) (by omega)), e1]
          · rw [t_Demand_bestPrice_1, if_pos (by decide), hB]
        have sB := s12 B
        have pB := pm B B9
        refine both0 (vI (if z = 0 then nI B else if z = 1 then nI (B * s B) else if z = 2 then nI (n - s B) else if n - s B = 0 then 0 else nI r * nI (n - s B) - y)) (r_P_tout _ _ _ _ _ (Sm.ret ?_)) (r_M_tout _ _ _ _ _ (Sm.step (t' := 3) (lo' := [some (vR 900012 0), some (vI (nI r)), some (vI y), some (vI z), some (vI (nI (bpN s 0))), some (vI 1)]) (st' := []) (h' := h) ?_ ?_)) trivial
        · rw [t_P_tout_0, c_P_isCoin, clI_ok, hx, itT, c_P_within, clI_ok, hy, itT, c_P_within, clI_ok, hz, itT, eB, clI_ok, eC _ B B9, clI_ok, e, nI_mul, nI_sub sB]
          by_cases z0 : z = 0
          · rw [if_pos z0, if_pos z0]
          · rw [if_neg z0, if_neg z0]
            by_cases z1 : z = 1
            · rw [if_pos z1, if_pos z1]
            · rw [if_neg z1, if_neg z1]
              by_cases z2 : z = 2
              · rw [if_pos z2, if_pos z2]
              · rw [if_neg z2, if_neg z2]
                by_cases c : n - s B = 0
                · rw [if_pos c, c, if_pos (by decide)]
                · rw [if_neg c, if_neg (show ¬ nI (n - s B) ≤ 0 from nI_ge (a := 0) (by omega) (by omega))]
        · rw [t_M_tout_0, c_M_isIn, clI_ok, hx, itT, c_M_isIn, clI_ok, hy, itT, c_M_isIn, clI_ok, hz, itT]; rfl
        · refine Sm.for (lo := fun k => [some (vR 900012 0), some (vI (nI r)), some (vI y), some (vI z), some (vI (nI (bpN s k))), some (vI (nI (k + 1)))]) (hh := fun _ => h) 999 (fun k hk => ?_) (Sm.ret ?_)
          · have b9 := bpN_le (s := s) k
            have p1 := pm (bpN s k) (by omega)
            have p2 := pm (k + 1) (by omega)
            rw [t_M_tout_3, if_neg (show ¬ (1000 : Int32) ≤ nI (k + 1) from nI_ge (b := 1000) (by omega) (by decide)), eM _ (k + 1) (by omega), clI_ok, eM _ (bpN s k) (by omega), clI_ok, nI_mul, nI_mul, nI_1]
            by_cases c : (k + 1) * s (k + 1) ≤ bpN s k * s (bpN s k)
            · have e1 : bpN s (k + 1) = bpN s k := if_pos c
              rw [if_pos (nI_le c (by omega)), e1]
            · have e1 : bpN s (k + 1) = k + 1 := if_neg c
              rw [if_neg (nI_ge (by omega) (by omega)), e1]
          · rw [t_M_tout_3, if_pos (by decide), ← hB, eM _ B B9, clI_ok, m, nI_sub sB]
            by_cases z0 : z = 0
            · rw [if_pos z0, if_pos z0]
            · rw [if_neg z0, if_neg z0]
              by_cases z1 : z = 1
              · rw [if_pos z1, if_pos z1, eM _ B B9, clI_ok, nI_mul]
              · rw [if_neg z1, if_neg z1]
                by_cases z2 : z = 2
                · rw [if_pos z2, if_pos z2]
                · rw [if_neg z2, if_neg z2]
                  by_cases c : n - s B = 0
                  · rw [if_pos c, c, if_pos (show nI 0 = 0 from rfl)]
                  · rw [if_neg c, if_neg (show ¬ nI (n - s B) = 0 from fun z => c ((nI_eq (b := 0) (by omega) (by decide)).mp z))]
end Tout
theorem nb_t {b : Bool} (h : (!b) = true) : b = false := by cases b <;> first | rfl | cases h
theorem nb_f {b : Bool} (h : (!b) = false) : b = true := by cases b <;> first | rfl | cases h
section Whole
variable {L : Nat} {scr : Nat → Int32} {d : Nat}
/-- the sum of the parts of an hour, up to n of them -/
def hrS (c : Nat → Nat) (i : Nat) : Nat → Nat := sumN (fun _ => true) (fun j => c (6 * i + j))
def whB (c : Nat → Nat) (i : Nat) : Bool := decide (hrS c i 6 = 10)
theorem hrS_s {c : Nat → Nat} {i j : Nat} : hrS c i (j + 1) = hrS c i j + c (6 * i + j) := sumN_t (p := fun _ => true) rfl
theorem hrS_le {c : Nat → Nat} (hc : ∀ k, c k ≤ 10) {i j : Nat} (hj : j ≤ 6) : hrS c i j ≤ 60 := by
  have := sumN_le (p := fun _ => true) (v := fun j => c (6 * i + j)) (m := 10) (n := j) (fun k _ => hc _)
  unfold hrS
  omega
theorem c_isWhole {h : MH} {c : Nat → Nat} (hc : ∀ k, hI h 300000072 0 k = nI (c k) ∧ c k ≤ 10) : E L scr (d + 1) 22 [vR 900002 0] h = some (some (vI (zb (ffst (fun i => !whB c i) 12).isNone)), h) := by
  refine r_Demand_isWhole _ _ (Sm.step (t' := 1) (lo' := [some (vR 900002 0), some (vI 0), none, none]) (st' := []) (h' := h) (t_Demand_isWhole_0 ..) ?_)
  have inner : ∀ (k : Nat) (z2 z3 : Option MV) (r : RT), k < 12 → Sm L scr d B_Demand_isWhole C_Demand_isWhole 2 [some (vR 900002 0), some (vI (nI k)), some (vI (nI (hrS c k 6))), some (vI (nI 6))] [] h r → Sm L scr d B_Demand_isWhole C_Demand_isWhole 1 [some (vR 900002 0), some (vI (nI k)), z2, z3] [] h r := by
    intro k z2 z3 r hk kk
    refine Sm.step (t' := 2) (lo' := [some (vR 900002 0), some (vI (nI k)), some (vI 0), some (vI 0)]) (st' := []) (h' := h) ?_ ?_
    · rw [t_Demand_isWhole_1, if_neg (show ¬ (12 : Int32) ≤ nI k from nI_ge (b := 12) hk (by decide))]
    refine Sm.for (lo := fun j => [some (vR 900002 0), some (vI (nI k)), some (vI (nI (hrS c k j))), some (vI (nI j))]) (hh := fun _ => h) 6 (fun j hj => ?_) kk
    rw [t_Demand_isWhole_2, if_neg (show ¬ (6 : Int32) ≤ nI j from nI_ge (b := 6) hj (by decide)), show (6 : Int32) = nI 6 from rfl, nI_mul, nI_add, nI_1, rd_Demand_parts (oob_nI (by omega) (by decide)), ix_nI (by omega), (hc _).1, nI_add, hrS_s, Nat.mul_comm]
  obtain ⟨lo, hlo⟩ : ∃ lo : Nat → List (Option MV), lo = fun k => match k with
    | 0 => [some (vR 900002 0), some (vI 0), none, none]
    | j + 1 => [some (vR 900002 0), some (vI (nI (j + 1))), some (vI (nI (hrS c j 6))), some (vI (nI 6))] := ⟨_, rfl⟩
  have lo2 : ∀ k, ∃ z2 z3, lo k = [some (vR 900002 0), some (vI (nI k)), z2, z3] := fun k => by
    rw [hlo]
    cases k with
    | zero => exact ⟨_, _, rfl⟩
    | succ j => exact ⟨_, _, rfl⟩
  have lo3 : ∀ k, lo (k + 1) = [some (vR 900002 0), some (vI (nI (k + 1))), some (vI (nI (hrS c k 6))), some (vI (nI 6))] := fun k => by rw [hlo]
  have lo0 : lo 0 = [some (vR 900002 0), some (vI 0), none, none] := by rw [hlo]
  rw [← lo0]
  have stepK : ∀ (r : RT) (k : Nat), k < 12 → (!whB c k) = false → Sm L scr d B_Demand_isWhole C_Demand_isWhole 1 (lo (k + 1)) [] h r → Sm L scr d B_Demand_isWhole C_Demand_isWhole 1 (lo k) [] h r := by
    intro r k hk pk kk
    obtain ⟨z2, z3, ez⟩ := lo2 k
    rw [ez]
    have w : hrS c k 6 = 10 := of_decide_eq_true (show whB c k = true from nb_f pk)
    refine inner k z2 z3 r hk (Sm.step (t' := 1) (lo' := lo (k + 1)) (st' := []) (h' := h) ?_ kk)
    rw [t_Demand_isWhole_2, if_pos (by decide), w, if_pos (show nI 10 = 10 from rfl), nI_1, lo3, w]
  cases hf : ffst (fun i => !whB c i) 12 with
  | none =>
    refine Sm.iter (lo := lo) (hh := fun _ => h) 12 (fun k hk kk => stepK _ k hk (ffst_none hf k hk) kk) (Sm.ret ?_)
    rw [lo3 11, t_Demand_isWhole_1, if_pos (by decide), rtZ1]; rfl
  | some j =>
    obtain ⟨j1, j2, j3⟩ := ffst_some hf
    refine Sm.iter (lo := lo) (hh := fun _ => h) j (fun k hk kk => stepK _ k (by omega) (j3 k hk) kk) ?_
    obtain ⟨z2, z3, ez⟩ := lo2 j
    rw [ez]
    refine inner j z2 z3 _ j1 (Sm.ret ?_)
    have w : hrS c j 6 ≠ 10 := of_decide_eq_false (show whB c j = false from nb_t j2)
    have := hrS_le (c := c) (fun k => (hc k).2) (i := j) (j := 6) (Nat.le_refl _)
    rw [t_Demand_isWhole_2, if_pos (by decide), if_neg (show ¬ nI (hrS c j 6) = 10 from fun z => w ((nI_eq (b := 10) (by omega) (by decide)).mp z)), rtZ0]; rfl
end Whole

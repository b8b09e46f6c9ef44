/-! CALL: worst -/
def hrB (m y : Nat) : Bool := decide (m ≤ y ∧ y ≤ m + 59)
theorem sum_or {r q : Nat → Bool} : ∀ k, sumN (fun y => r y || q y) (fun _ => 1) k = sumN r (fun _ => 1) k + sumN (fun y => q y && !r y) (fun _ => 1) k
  | 0 => rfl
  | k + 1 => by
    have ih := sum_or (r := r) (q := q) k
    cases e1 : r k with
    | true =>
      rw [sumN_t (p := fun y => r y || q y) (by show (r k || q k) = true; rw [e1]; rfl), sumN_t e1, sumN_f (p := fun y => q y && !r y) (by show (q k && !r k) = false; rw [e1, Bool.not_true, Bool.and_false]), ih]; omega
    | false =>
      cases e2 : q k with
      | true =>
        rw [sumN_t (p := fun y => r y || q y) (by show (r k || q k) = true; rw [e1, e2]; rfl), sumN_f e1, sumN_t (p := fun y => q y && !r y) (by show (q k && !r k) = true; rw [e1, e2]; rfl), ih]; omega
      | false =>
        rw [sumN_f (p := fun y => r y || q y) (by show (r k || q k) = false; rw [e1, e2]; rfl), sumN_f e1, sumN_f (p := fun y => q y && !r y) (by show (q k && !r k) = false; rw [e2, Bool.false_and]), ih]
theorem cnt_st {r : Nat → Bool} {a : Nat} : ∀ {b}, a ≤ b → sumN r (fun _ => 1) b - sumN r (fun _ => 1) a ≤ b - a ∧ sumN r (fun _ => 1) a ≤ sumN r (fun _ => 1) b
  | 0, h => by have : a = 0 := by omega
               subst this; exact ⟨Nat.le_of_eq (by omega), Nat.le_refl _⟩
  | b + 1, h => by
    rcases Nat.lt_or_ge b a with c | c
    · have : a = b + 1 := by omega
      subst this; exact ⟨by omega, Nat.le_refl _⟩
    · obtain ⟨h1, h2⟩ := cnt_st (r := r) c
      cases e : r b with
      | true => rw [sumN_t e]; omega
      | false => rw [sumN_f e]; omega
/-- dry minutes of a span -/
theorem cnt_dry {r : Nat → Bool} {f0 a b : Nat} (ha : f0 ≤ a) (hab : a ≤ b) : ∀ k, sumN (fun y => decide (a ≤ f0 + y ∧ f0 + y < b) && !r (f0 + y)) (fun _ => 1) k = (min b (f0 + k) - a) - (sumN r (fun _ => 1) (min b (f0 + k)) - sumN r (fun _ => 1) a)
  | 0 => by
    rw [show min b (f0 + 0) - a = 0 by omega, Nat.zero_sub]; rfl
  | k + 1 => by
    have ih := cnt_dry (r := r) ha hab k
    by_cases c1 : f0 + k < a
    · rw [sumN_f (p := fun y => decide (a ≤ f0 + y ∧ f0 + y < b) && !r (f0 + y)) (by show (decide (a ≤ f0 + k ∧ f0 + k < b) && _) = false; rw [decide_eq_false (by omega), Bool.false_and]), ih, show min b (f0 + k) - a = 0 by omega, show min b (f0 + (k + 1)) - a = 0 by omega, Nat.zero_sub, Nat.zero_sub]
    · by_cases c2 : f0 + k < b
      · have e1 : min b (f0 + k) = f0 + k := by omega
        have e2 : min b (f0 + (k + 1)) = f0 + k + 1 := by omega
        rw [e1] at ih
        rw [e2]
        obtain ⟨h1, h2⟩ := cnt_st (r := r) (show a ≤ f0 + k by omega)
        have dt : decide (a ≤ f0 + k ∧ f0 + k < b) = true := decide_eq_true (by omega)
        cases e : r (f0 + k) with
        | true => rw [sumN_f (p := fun y => decide (a ≤ f0 + y ∧ f0 + y < b) && !r (f0 + y)) (by show (_ && !r (f0 + k)) = false; rw [e, Bool.not_true, Bool.and_false]), ih, sumN_t e]; omega
        | false => rw [sumN_t (p := fun y => decide (a ≤ f0 + y ∧ f0 + y < b) && !r (f0 + y)) (by show (decide (a ≤ f0 + k ∧ f0 + k < b) && !r (f0 + k)) = true; rw [dt, e]; rfl), ih, sumN_f e]; omega
      · rw [sumN_f (p := fun y => decide (a ≤ f0 + y ∧ f0 + y < b) && !r (f0 + y)) (by show (decide (a ≤ f0 + k ∧ f0 + k < b) && _) = false; rw [decide_eq_false (by omega), Bool.false_and]), ih, show min b (f0 + k) = b by omega, show min b (f0 + (k + 1)) = b by omega]
theorem sumN_cg {p q : Nat → Bool} {v : Nat → Nat} : ∀ {n}, (∀ j, j < n → p j = q j) → sumN p v n = sumN q v n := fun h => sumN_trunc (Nat.le_refl _) h (fun j a b => absurd b (by omega))
/-- wet minutes with an hour of rain more -/
theorem wc_hour {r : Nat → Bool} {f0 mi m : Nat} (h1 : m < f0 + mi) (h2 : f0 < m + 60) : sumN (fun y => r (f0 + y) || hrB m (f0 + y)) (fun _ => 1) mi = (sumN r (fun _ => 1) (f0 + mi) - sumN r (fun _ => 1) f0) + ((min (m + 60) (f0 + mi) - max m f0) - (sumN r (fun _ => 1) (min (m + 60) (f0 + mi)) - sumN r (fun _ => 1) (max m f0))) := by
  rw [sum_or (r := fun y => r (f0 + y)) (q := fun y => hrB m (f0 + y)), sumN_add (p := r) (a := f0) mi, Nat.add_sub_cancel_left]
  refine congrArg (Nat.add (sumN (fun y => r (f0 + y)) (fun _ => 1) mi)) ?_
  have e := cnt_dry (r := r) (f0 := f0) (a := max m f0) (b := min (m + 60) (f0 + mi)) (by omega) (by omega) mi
  rw [show min (min (m + 60) (f0 + mi)) (f0 + mi) = min (m + 60) (f0 + mi) by omega] at e
  rw [← e]
  refine sumN_cg (fun y hy => ?_)
  show (hrB m (f0 + y) && _) = (decide _ && _)
  unfold hrB
  rw [show decide (m ≤ f0 + y ∧ f0 + y ≤ m + 59) = decide (max m f0 ≤ f0 + y ∧ f0 + y < min (m + 60) (f0 + mi)) from decide_eq_decide.mpr (by omega)]
theorem wc_no {r : Nat → Bool} {f0 mi m : Nat} (h : f0 + mi ≤ m ∨ m + 60 ≤ f0) : sumN (fun y => r (f0 + y) || hrB m (f0 + y)) (fun _ => 1) mi = sumN (fun y => r (f0 + y) || false) (fun _ => 1) mi := sumN_cg (fun y hy => by
  unfold hrB
  rw [decide_eq_false (by omega)])
theorem wt_mono {f : Nat → Nat} {pr mi a b : Nat} (h : a ≤ b) : wtN f pr mi a ≤ wtN f pr mi b := by
  unfold wtN
  by_cases c : mi = 0
  · rw [if_pos c, if_pos c]; exact Nat.le_refl _
  · rw [if_neg c, if_neg c]
    exact Nat.div_le_div_right (Nat.mul_le_mul_left _ h)
theorem wtn_le {f : Nat → Nat} {pr mi wc : Nat} (hf : f 15 ≤ 100) (h : wc ≤ mi) : wtN f pr mi wc ≤ pr := by
  unfold wtN
  by_cases c : mi = 0
  · rw [if_pos c]; exact Nat.zero_le _
  · rw [if_neg c]
    have h1 : pr * f 15 * wc ≤ pr * (100 * mi) := by
      rw [Nat.mul_assoc]
      exact Nat.mul_le_mul_left pr (Nat.mul_le_mul hf h)
    have h2 := Nat.div_le_div_right (c := 100 * mi) h1
    rw [Nat.mul_div_cancel _ (by omega)] at h2
    exact h2
theorem gtN_add {f g : Nat → Nat} {c : Nat} (h : ∀ k, f k = c + g k) : ∀ k, gtN f k = gtN g k
  | 0 => rfl
  | k + 1 => by
    have ih := gtN_add h k
    show (if f (k + 1) ≤ f (gtN f k) then gtN f k else k + 1) = (if g (k + 1) ≤ g (gtN g k) then gtN g k else k + 1)
    rw [ih, h, h]
    by_cases z : g (k + 1) ≤ g (gtN g k)
    · rw [if_pos z, if_pos (by omega)]
    · rw [if_neg z, if_neg (by omega)]
section Worst
variable {L : Nat} {scr : Nat → Int32} {d : Nat}
theorem c_addRain {g : MH} {mm f0 mi pr w0 : Nat} {f : Nat → Nat} {r : Nat → Bool} {A : Nat → Nat} (hf : LB f) (hp : pr ≤ 7182810) (hm : f0 + mi ≤ 719) (e09 : hI g 109 0 0 = nI f0) (e00 : hI g 100 0 0 = nI mi) (e03 : hI g 103 0 0 = nI pr) (e05 : hI g 105 0 0 = nI w0) (ew0 : w0 = wtN f pr mi (sumN (fun y => r (f0 + y) || false) (fun _ => 1) mi)) (er : hI g 608 mm 0 = nI (f 15)) (hW : ∀ x, x < 721 → hI g 1212000721 0 x = nI (sumN r (fun _ => 1) x)) (hA : ∀ m, m ≤ 660 → hI g 1213002304 0 m = nI (A m)) : ∃ g', E L scr (d + 2) 6 [vR 900000 0, vR 900005 mm, vR 1212000721 0, vR 1213002304 0] g = some (none, g') ∧ Upd [(1213002304, 0)] g g' ∧ ∀ m, m ≤ 660 → hI g' 1213002304 0 m = nI (A m + (wtN f pr mi (sumN (fun y => r (f0 + y) || hrB m (f0 + y)) (fun _ => 1) mi) - w0)) := by
  obtain ⟨WM, hWM⟩ : ∃ WM : Nat → Nat, WM = fun m => wtN f pr mi (sumN (fun y => r (f0 + y) || hrB m (f0 + y)) (fun _ => 1) mi) := ⟨_, rfl⟩
  have wm0 : ∀ m, w0 ≤ WM m := fun m => by
    rw [hWM, ew0]
    refine wt_mono ?_
    have e1 := sum_or (r := fun y => r (f0 + y)) (q := fun y => hrB m (f0 + y)) mi
    rw [e1, show sumN (fun y => r (f0 + y) || false) (fun _ => 1) mi = sumN (fun y => r (f0 + y)) (fun _ => 1) mi from sumN_cg (fun y _ => Bool.or_false _)]
    omega
  have wno : ∀ m, f0 + mi ≤ m ∨ m + 60 ≤ f0 → WM m - w0 = 0 := fun m h => by
    rw [hWM, ew0]
    show wtN f pr mi (sumN (fun y => r (f0 + y) || hrB m (f0 + y)) (fun _ => 1) mi) - _ = 0
    rw [wc_no h, Nat.sub_self]
  obtain ⟨ms, hms⟩ : ∃ ms, ms = f0 - 59 := ⟨_, rfl⟩
  obtain ⟨N, hN⟩ : ∃ N, N = min (f0 + mi) 661 - ms := ⟨_, rfl⟩
  have key : Sx L scr (d + 1) B_Bill_addRain C_Bill_addRain 0 [some (vR 900000 0), some (vR 900005 mm), some (vR 1212000721 0), some (vR 1213002304 0), none, none, none, none, none] g (fun rr => ∃ g', rr = (none, g') ∧ Upd [(1213002304, 0)] g g' ∧ ∀ m, m ≤ 660 → hI g' 1213002304 0 m = nI (A m + (WM m - w0))) := by
    refine Sx.step (t' := 1) (lo' := [some (vR 900000 0), some (vR 900005 mm), some (vR 1212000721 0), some (vR 1213002304 0), some (vI (nI (f0 + mi))), some (vI (nI (ms + 0))), none, none, none]) (h' := g) ?_ (Sx.inv0 (P := fun k lo g' => ∃ z6 z7 z8, lo = [some (vR 900000 0), some (vR 900005 mm), some (vR 1212000721 0), some (vR 1213002304 0), some (vI (nI (f0 + mi))), some (vI (nI (ms + k))), z6, z7, z8] ∧ Upd [(1213002304, 0)] g g' ∧ ∀ m, m ≤ 660 → hI g' 1213002304 0 m = nI (if ms ≤ m ∧ m < ms + k then A m + (WM m - w0) else A m)) N ⟨_, _, _, rfl, Upd.rf _ g, fun m hm => by rw [if_neg (by omega)]; exact hA m hm⟩ ?_ ?_)
    · rw [t_Bill_addRain_0, e09, e00, show (60 : Int32) = nI 60 from rfl]
      have e : (if (0 : Int32) < nI f0 - nI 60 + 1 then nI f0 - nI 60 + 1 else 0) = nI ms := by
        have e1 : nI f0 - nI 60 + 1 = nI f0 - nI 59 := by
          apply Int32.toInt_inj.mp
          have i1 := nI_sub_toInt (a := f0) (b := 60) (by omega) (by omega)
          have i2 := nI_sub_toInt (a := f0) (b := 59) (by omega) (by omega)
          rw [Int32.toInt_add, i1, i2, show (1 : Int32).toInt = 1 from rfl, Int.bmod_eq_of_le_mul_two (by omega) (by omega)]; omega
        rw [e1, max0_nI (by omega) (by omega), hms]
      rw [c_max, clI_ok, e, nI_add]; rfl
    · rintro k hk _ g1 ⟨z6, z7, z8, rfl, u1, hr⟩ kk
      obtain ⟨m, hm⟩ : ∃ m, m = ms + k := ⟨_, rfl⟩
      have m1 : m < f0 + mi := by omega
      have m2 : m ≤ 660 := by omega
      have m3 : f0 < m + 60 := by omega
      have u0 : ∀ a b, (a, b) ∉ [(1213002304, 0)] → hI g1 a b = hI g a b := u1.2
      have rW : ∀ x, x < 721 → ∀ kk : Int32 → Option Exit, rdI 0 g1 1212000721 0 (nI x) kk = kk (nI (sumN r (fun _ => 1) x)) := fun x hx kk => by rw [rd_P_wetBy (oob_nI hx (by decide)), ix_nI (by omega), u0 _ _ (by decide), hW x hx]
      obtain ⟨fi, hfi⟩ : ∃ fi, fi = max m f0 := ⟨_, rfl⟩
      obtain ⟨en, hen⟩ : ∃ en, en = min (m + 60) (f0 + mi) := ⟨_, rfl⟩
      obtain ⟨c1, c2⟩ := cnt_st (r := r) (show fi ≤ en by omega)
      obtain ⟨c3, c4⟩ := cnt_st (r := r) (show f0 ≤ f0 + mi by omega)
      have ewc := wc_hour (r := r) (f0 := f0) (mi := mi) (m := m) m1 m3
      rw [← hfi, ← hen] at ewc
      have wcl : sumN (fun y => r (f0 + y) || hrB m (f0 + y)) (fun _ => 1) mi ≤ mi := by
        have := sumN_le (p := fun y => r (f0 + y) || hrB m (f0 + y)) (v := fun _ => 1) (m := 1) (n := mi) (fun _ _ => Nat.le_refl 1)
        omega
      have cw := c_wetCoin (L := L) (scr := scr) (d := d) (g := g1) (f := f) (pr := pr) (mi := mi) (wc := sumN (fun y => r (f0 + y) || hrB m (f0 + y)) (fun _ => 1) mi) hf hp (by omega) (by omega) (by rw [u0 _ _ (by decide)]; exact e00) (by rw [u0 _ _ (by decide)]; exact e03)
      have hrm := hr m m2
      rw [if_neg (by omega)] at hrm
      rw [← hm]
      refine Sx.step (t' := 1) (lo' := [some (vR 900000 0), some (vR 900005 mm), some (vR 1212000721 0), some (vR 1213002304 0), some (vI (nI (f0 + mi))), some (vI (nI (ms + (k + 1)))), some (vI (nI fi)), some (vI (nI en)), some (vI (nI ((en - fi) - (sumN r (fun _ => 1) en - sumN r (fun _ => 1) fi))))]) (h' := sI g1 1213002304 0 m (nI (A m + (WM m - w0)))) ?_ (kk _ _ ⟨_, _, _, rfl, u1.sI (by decide), fun x hx => ?_⟩)
      · rw [t_Bill_addRain_1, if_neg (nI_ge m1 (by omega)), if_neg (show ¬ 660 < nI m from nI_nlt (a := 660) (by omega) (by decide)), u0 109 0 (by decide), e09, c_max, clI_ok, max_nI (by omega) (by omega), show (60 : Int32) = nI 60 from rfl, nI_add, c_min, clI_ok, min_nI (by omega) (by omega), ← hfi, ← hen, rW en (by omega), rW fi (by omega), rd_P_work (oob_nI (by omega) (by decide)), ix_nI (by omega), hrm, rW (f0 + mi) (by omega), u0 109 0 (by decide), e09, rW f0 (by omega), nI_sub c4, nI_sub (show fi ≤ en by omega), nI_sub c2, nI_sub c1, nI_add, u1.sites (S := [608]) (by decide) 608 mm (by decide), er, ← ewc, cw, clI_ok, u0 105 0 (by decide), e05, ← show WM m = wtN f pr mi (sumN (fun y => r (f0 + y) || hrB m (f0 + y)) (fun _ => 1) mi) by rw [hWM], nI_sub (wm0 m), nI_add, wr_P_work (oob_nI (by omega) (by decide)), ix_nI (by omega), nI_1, hm]; rfl
      · rw [hI_rs]
        by_cases e : x = m
        · rw [e, up_s, if_pos (by omega)]
        · rw [up_n e, hr x hx]
          by_cases e2 : ms ≤ x ∧ x < ms + k
          · rw [if_pos e2, if_pos (by omega)]
          · rw [if_neg e2, if_neg (by omega)]
    · rintro _ g1 ⟨z6, z7, z8, rfl, u1, hr⟩
      refine Sx.ret (r := (none, g1)) ?_ ⟨g1, rfl, u1, fun m hm => ?_⟩
      · rw [t_Bill_addRain_1]
        by_cases c : f0 + mi ≤ ms + N
        · rw [if_pos (nI_le c (by omega))]
        · rw [if_neg (nI_ge (by omega) (by omega)), if_pos (show 660 < nI (ms + N) from nI_lt (a := 660) (by omega) (by omega))]
      · rw [hr m hm]
        by_cases c : ms ≤ m ∧ m < ms + N
        · rw [if_pos c]
        · rw [if_neg c, wno m (by omega), Nat.add_zero]
  obtain ⟨_, k1, g', rfl, k2, k3⟩ := key
  refine ⟨g', r_Bill_addRain _ _ _ _ _ _ _ k1, k2, fun m hm => ?_⟩
  rw [k3 m hm, hWM]
end Worst

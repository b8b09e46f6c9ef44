/-! CALL: protect -/
section Protect
variable {L : Nat} {scr : Nat → Int32} {d : Nat}
theorem whole_any {c : Nat → Nat} : (ffst (fun i => !whB c i) 12).isNone = !anyB (fun i => !whB c i) 12 := by
  rw [← ffst_any]
  cases ffst (fun i => !whB c i) 12 <;> rfl
theorem c_M_areWhole {h : MH} {c : Nat → Nat} (hc : ∀ k, hI h 1357000072 0 k = nI (c k) ∧ c k ≤ 10) : E L scr (d + 1) 291 [vR 900012 0] h = some (some (vI (zb (!anyB (fun i => !whB c i) 12))), h) := by
  obtain ⟨F, hF⟩ : ∃ F : Nat → Bool, F = fun k => !anyB (fun i => !whB c i) k := ⟨_, rfl⟩
  have Fs : ∀ k, F (k + 1) = (F k && whB c k) := fun k => by
    rw [hF]
    show (!(anyB (fun i => !whB c i) k || !whB c k)) = (!anyB (fun i => !whB c i) k && whB c k)
    cases anyB (fun i => !whB c i) k <;> cases whB c k <;> rfl
  obtain ⟨lo, hlo⟩ : ∃ lo : Nat → List (Option MV), lo = fun k => match k with
    | 0 => [some (vR 900012 0), some (vI 1), some (vI 0), none, none]
    | j + 1 => [some (vR 900012 0), some (vI (zb (F (j + 1)))), some (vI (nI (j + 1))), some (vI (nI (hrS c j 6))), some (vI (nI 6))] := ⟨_, rfl⟩
  have F0 : F 0 = true := by rw [hF]; rfl
  have lo2 : ∀ k, ∃ z2 z3, lo k = [some (vR 900012 0), some (vI (zb (F k))), some (vI (nI k)), z2, z3] := fun k => by
    rw [hlo]
    cases k with
    | zero => rw [F0]; exact ⟨_, _, rfl⟩
    | succ j => exact ⟨_, _, rfl⟩
  have lo3 : ∀ k, lo (k + 1) = [some (vR 900012 0), some (vI (zb (F (k + 1)))), some (vI (nI (k + 1))), some (vI (nI (hrS c k 6))), some (vI (nI 6))] := fun k => by rw [hlo]
  have lo0 : lo 0 = [some (vR 900012 0), some (vI 1), some (vI 0), none, none] := by rw [hlo]
  refine r_M_areWhole _ _ (Sm.step (t' := 1) (lo' := lo 0) (st' := []) (h' := h) (by rw [t_M_areWhole_0, lo0]) ?_)
  refine Sm.iter (lo := lo) (hh := fun _ => h) 12 (fun k hk kk => ?_) (Sm.ret ?_)
  · obtain ⟨z2, z3, ez⟩ := lo2 k
    rw [ez]
    refine Sm.step (t' := 2) (lo' := [some (vR 900012 0), some (vI (zb (F k))), some (vI (nI k)), some (vI 0), some (vI 0)]) (st' := []) (h' := h) ?_ ?_
    · rw [t_M_areWhole_1, if_neg (show ¬ (12 : Int32) ≤ nI k from nI_ge (b := 12) hk (by decide))]
    refine Sm.for (lo := fun j => [some (vR 900012 0), some (vI (zb (F k))), some (vI (nI k)), some (vI (nI (hrS c k j))), some (vI (nI j))]) (hh := fun _ => h) 6 (fun j hj => ?_) (Sm.step (t' := 1) (lo' := lo (k + 1)) (st' := []) (h' := h) ?_ kk)
    · rw [t_M_areWhole_2, if_neg (show ¬ (6 : Int32) ≤ nI j from nI_ge (b := 6) hj (by decide)), show (6 : Int32) = nI 6 from rfl, nI_mul, nI_add, nI_1, rd_M_chances (oob_nI (by omega) (by decide)), ix_nI (by omega), (hc _).1, nI_add, hrS_s]
    · have hl := hrS_le (c := c) (fun k => (hc k).2) (i := k) (j := 6) (Nat.le_refl _)
      rw [t_M_areWhole_2, if_pos (by decide), lo3, nI_1, Fs]
      cases e : F k with
      | false => rw [itF, Bool.false_and]; rfl
      | true =>
        rw [itT, Bool.true_and]
        by_cases c1 : hrS c k 6 = 10
        · rw [show whB c k = true from decide_eq_true c1, c1, if_pos (show nI 10 = 10 from rfl)]; rfl
        · rw [show whB c k = false from decide_eq_false c1, if_neg (show ¬ nI (hrS c k 6) = 10 from fun z => c1 ((nI_eq (b := 10) (by omega) (by decide)).mp z))]; rfl
  · rw [lo3 11, t_M_areWhole_1, if_pos (by decide), rtZ_ok, hF]
theorem min_nI {x y : Nat} (hx : x < 2 ^ 31) (hy : y < 2 ^ 31) : (if nI y < nI x then nI y else nI x) = nI (min x y) := by
  by_cases c : y < x
  · rw [if_pos (nI_lt c hx), Nat.min_eq_right (by omega)]
  · rw [if_neg (nI_nlt (by omega) (by omega)), Nat.min_eq_left (by omega)]
/-- the sum over b of both hours -/
def mnA (c : Nat → Nat) (l A B a ma : Nat) : Nat → Nat := sumN (fun _ => true) (fun b => (c a * c (6 + b)) * (ma * A + min b (l - ma) * B))
def mnN (c : Nat → Nat) (l kk A B : Nat) : Nat → Nat := sumN (fun _ => true) (fun a => mnA c l A B a (min a (l - kk)) 6)
theorem mnA_s {c : Nat → Nat} {l A B a ma b : Nat} : mnA c l A B a ma (b + 1) = mnA c l A B a ma b + (c a * c (6 + b)) * (ma * A + min b (l - ma) * B) := sumN_t (p := fun _ => true) rfl
theorem mnN_s {c : Nat → Nat} {l kk A B a : Nat} : mnN c l kk A B (a + 1) = mnN c l kk A B a + mnA c l A B a (min a (l - kk)) 6 := sumN_t (p := fun _ => true) rfl
theorem sumN_le2 {p : Nat → Bool} {v : Nat → Nat} {m : Nat} {n : Nat} (h : ∀ k, k < n → v k ≤ m) : sumN p v n ≤ n * m := sumN_le h
theorem mnN_le {c : Nat → Nat} {l kk A B : Nat} (hc : ∀ k, c k ≤ 10) (hA : A ≤ 999) (hB : B ≤ 999) : mnN c l kk A B 6 ≤ 6 * (6 * (100 * 9990)) := by
  refine sumN_le2 (fun a ha => sumN_le2 (fun b hb => ?_))
  refine Nat.mul_le_mul (Nat.mul_le_mul (hc a) (hc (6 + b))) ?_
  have h1 : min a (l - kk) ≤ 5 := by omega
  have h2 : min b (l - min a (l - kk)) ≤ 5 := by omega
  have h3 := Nat.mul_le_mul h1 hA
  have h4 := Nat.mul_le_mul h2 hB
  omega
theorem c_meanCoin {h : MH} {c : Nat → Nat} {l kk A B : Nat} (hc : ∀ k, hI h 300000072 0 k = nI (c k) ∧ c k ≤ 10) (hl : l ≤ 12) (hk : kk ≤ l) : E L scr (d + 2) 27 [vR 900002 0, vI (nI l), vI (nI kk), vI (nI A), vI (nI B)] h = some (some (vI (nI (mnN c l kk A B 6))), h) := by
  obtain ⟨lo, hlo⟩ : ∃ lo : Nat → List (Option MV), lo = fun k => match k with
    | 0 => [some (vR 900002 0), some (vI (nI l)), some (vI (nI kk)), some (vI (nI A)), some (vI (nI B)), some (vI 0), some (vI 0), none, none, none]
    | j + 1 => [some (vR 900002 0), some (vI (nI l)), some (vI (nI kk)), some (vI (nI A)), some (vI (nI B)), some (vI (nI (mnN c l kk A B (j + 1)))), some (vI (nI (j + 1))), some (vI (nI (min j (l - kk)))), some (vI (nI 6)), some (vI (nI (min 5 (l - min j (l - kk)))))] := ⟨_, rfl⟩
  have lo2 : ∀ k, ∃ z7 z8 z9, lo k = [some (vR 900002 0), some (vI (nI l)), some (vI (nI kk)), some (vI (nI A)), some (vI (nI B)), some (vI (nI (mnN c l kk A B k))), some (vI (nI k)), z7, z8, z9] := fun k => by
    rw [hlo]
    cases k with
    | zero => exact ⟨_, _, _, rfl⟩
    | succ j => exact ⟨_, _, _, rfl⟩
  have lo3 : ∀ j, lo (j + 1) = [some (vR 900002 0), some (vI (nI l)), some (vI (nI kk)), some (vI (nI A)), some (vI (nI B)), some (vI (nI (mnN c l kk A B (j + 1)))), some (vI (nI (j + 1))), some (vI (nI (min j (l - kk)))), some (vI (nI 6)), some (vI (nI (min 5 (l - min j (l - kk)))))] := fun j => by rw [hlo]
  refine r_Demand_meanCoin _ _ _ _ _ _ (Sm.step (t' := 1) (lo' := lo 0) (st' := []) (h' := h) (by rw [t_Demand_meanCoin_0, hlo]) ?_)
  refine Sm.iter (lo := lo) (hh := fun _ => h) 6 (fun a ha kk2 => ?_) (Sm.ret ?_)
  · obtain ⟨z7, z8, z9, ez⟩ := lo2 a
    rw [ez]
    obtain ⟨ma, hma⟩ : ∃ ma, ma = min a (l - kk) := ⟨_, rfl⟩
    refine Sm.step (t' := 2) (lo' := [some (vR 900002 0), some (vI (nI l)), some (vI (nI kk)), some (vI (nI A)), some (vI (nI B)), some (vI (nI (mnN c l kk A B a))), some (vI (nI a)), some (vI (nI ma)), some (vI 0), z9]) (st' := []) (h' := h) ?_ ?_
    · rw [t_Demand_meanCoin_1, if_neg (show ¬ (6 : Int32) ≤ nI a from nI_ge (b := 6) ha (by decide)), nI_sub hk, c_min, clI_ok, min_nI (by omega) (by omega), hma]
    refine Sm.for (lo := fun b => [some (vR 900002 0), some (vI (nI l)), some (vI (nI kk)), some (vI (nI A)), some (vI (nI B)), some (vI (nI (mnN c l kk A B a + mnA c l A B a ma b))), some (vI (nI a)), some (vI (nI ma)), some (vI (nI b)), match b with | 0 => z9 | j + 1 => some (vI (nI (min j (l - ma))))]) (hh := fun _ => h) 6 (fun b hb => ?_) (Sm.step (t' := 1) (lo' := lo (a + 1)) (st' := []) (h' := h) ?_ kk2)
    · rw [t_Demand_meanCoin_2, if_neg (show ¬ (6 : Int32) ≤ nI b from nI_ge (b := 6) hb (by decide)), nI_sub (show ma ≤ l by omega), c_min, clI_ok, min_nI (by omega) (by omega), rd_Demand_parts (oob_nI (by omega) (by decide)), ix_nI (by omega), show (6 : Int32) = nI 6 from rfl, nI_add, rd_Demand_parts (oob_nI (by omega) (by decide)), ix_nI (by omega), (hc a).1, (hc (6 + b)).1, nI_mul, nI_mul, nI_mul, nI_add, nI_mul, nI_add, nI_1, mnA_s, Nat.add_assoc]
    · rw [t_Demand_meanCoin_2, if_pos (by decide), lo3, nI_1, mnN_s, hma]
  · rw [lo3 5, t_Demand_meanCoin_1, if_pos (by decide)]
theorem c_M_mean {h : MH} {c : Nat → Nat} {l kk A B : Nat} (hc : ∀ k, hI h 1357000072 0 k = nI (c k) ∧ c k ≤ 10) (hl : l ≤ 12) (hk : kk ≤ l) : E L scr (d + 2) 297 [vR 900012 0, vI (nI l), vI (nI A), vI (nI B), vI (nI kk)] h = some (some (vI (nI (mnN c l kk A B 6))), h) := by
  obtain ⟨lo, hlo⟩ : ∃ lo : Nat → List (Option MV), lo = fun k => match k with
    | 0 => [some (vR 900012 0), some (vI (nI l)), some (vI (nI A)), some (vI (nI B)), some (vI (nI kk)), some (vI 0), some (vI 0), none, none, none]
    | j + 1 => [some (vR 900012 0), some (vI (nI l)), some (vI (nI A)), some (vI (nI B)), some (vI (nI kk)), some (vI (nI (mnN c l kk A B (j + 1)))), some (vI (nI (j + 1))), some (vI (nI 6)), some (vI (nI (min j (l - kk)))), some (vI (nI (min 5 (l - min j (l - kk)))))] := ⟨_, rfl⟩
  have lo2 : ∀ k, ∃ z7 z8 z9, lo k = [some (vR 900012 0), some (vI (nI l)), some (vI (nI A)), some (vI (nI B)), some (vI (nI kk)), some (vI (nI (mnN c l kk A B k))), some (vI (nI k)), z7, z8, z9] := fun k => by
    rw [hlo]
    cases k with
    | zero => exact ⟨_, _, _, rfl⟩
    | succ j => exact ⟨_, _, _, rfl⟩
  have lo3 : ∀ j, lo (j + 1) = [some (vR 900012 0), some (vI (nI l)), some (vI (nI A)), some (vI (nI B)), some (vI (nI kk)), some (vI (nI (mnN c l kk A B (j + 1)))), some (vI (nI (j + 1))), some (vI (nI 6)), some (vI (nI (min j (l - kk)))), some (vI (nI (min 5 (l - min j (l - kk)))))] := fun j => by rw [hlo]
  refine r_M_mean _ _ _ _ _ _ (Sm.step (t' := 1) (lo' := lo 0) (st' := []) (h' := h) (by rw [t_M_mean_0, hlo]) ?_)
  refine Sm.iter (lo := lo) (hh := fun _ => h) 6 (fun a ha kk2 => ?_) (Sm.ret ?_)
  · obtain ⟨z7, z8, z9, ez⟩ := lo2 a
    rw [ez]
    obtain ⟨ma, hma⟩ : ∃ ma, ma = min a (l - kk) := ⟨_, rfl⟩
    refine Sm.step (t' := 2) (lo' := [some (vR 900012 0), some (vI (nI l)), some (vI (nI A)), some (vI (nI B)), some (vI (nI kk)), some (vI (nI (mnN c l kk A B a))), some (vI (nI a)), some (vI 0), z8, z9]) (st' := []) (h' := h) ?_ ?_
    · rw [t_M_mean_1, if_neg (show ¬ (6 : Int32) ≤ nI a from nI_ge (b := 6) ha (by decide))]
    refine Sm.for (lo := fun b => [some (vR 900012 0), some (vI (nI l)), some (vI (nI A)), some (vI (nI B)), some (vI (nI kk)), some (vI (nI (mnN c l kk A B a + mnA c l A B a ma b))), some (vI (nI a)), some (vI (nI b)), (match b with | 0 => z8 | j + 1 => some (vI (nI ma))), match b with | 0 => z9 | j + 1 => some (vI (nI (min j (l - ma))))]) (hh := fun _ => h) 6 (fun b hb => ?_) (Sm.step (t' := 1) (lo' := lo (a + 1)) (st' := []) (h' := h) ?_ kk2)
    · rw [t_M_mean_2, if_neg (show ¬ (6 : Int32) ≤ nI b from nI_ge (b := 6) hb (by decide)), nI_sub hk, c_min, clI_ok, min_nI (by omega) (by omega), ← hma, nI_sub (show ma ≤ l by omega), c_min, clI_ok, min_nI (by omega) (by omega), rd_M_chances (oob_nI (by omega) (by decide)), ix_nI (by omega), show (6 : Int32) = nI 6 from rfl, nI_add, rd_M_chances (oob_nI (by omega) (by decide)), ix_nI (by omega), (hc a).1, (hc (6 + b)).1, nI_mul, nI_mul, nI_mul, nI_add, nI_mul, nI_add, nI_1, mnA_s, Nat.add_assoc]
    · rw [t_M_mean_2, if_pos (by decide), lo3, nI_1, mnN_s, hma]
  · rw [lo3 5, t_M_mean_1, if_pos (by decide)]
/-- the place among the first k+1 where f is greatest, the first of such -/
def gtN (f : Nat → Nat) : Nat → Nat
  | 0 => 0
  | k + 1 => if f (k + 1) ≤ f (gtN f k) then gtN f k else k + 1
theorem gtN_le {f : Nat → Nat} : ∀ k, gtN f k ≤ k
  | 0 => Nat.le_refl _
  | k + 1 => by
    have := gtN_le (f := f) k
    show (if f (k + 1) ≤ f (gtN f k) then gtN f k else k + 1) ≤ k + 1
    split <;> omega
theorem call_protect (x y z u : Int32) (h : MH) (q : RChance h) : Both L scr (d + 40) Scr (fun _ => True) 155 298 [vR 900011 0, vI x, vI y, vI z, vI u] [vR 900012 0, vI x, vI y, vI z, vI u] h := by
  obtain ⟨q1, q2⟩ := q
  cases hx : inB x 0 12 with
  | false =>
    refine both0 (vI (-1)) (r_P_protect _ _ _ _ _ _ (Sm.ret ?_)) (r_M_protect _ _ _ _ _ _ (Sm.ret ?_)) trivial
    · rw [t_P_protect_0, c_P_within, clI_ok, hx, itF]
    · rw [t_M_protect_0, c_M_isIn, clI_ok, hx, itF]
  | true =>
    cases hy : inB y 0 999 with
    | false =>
      refine both0 (vI (-1)) (r_P_protect _ _ _ _ _ _ (Sm.ret ?_)) (r_M_protect _ _ _ _ _ _ (Sm.ret ?_)) trivial
      · rw [t_P_protect_0, c_P_within, clI_ok, hx, itT, c_P_isCoin, clI_ok, hy, itF]
      · rw [t_M_protect_0, c_M_isIn, clI_ok, hx, itT, c_M_isIn, clI_ok, hy, itF]
    | true =>
      cases hz : inB z 0 999 with
      | false =>
        refine both0 (vI (-1)) (r_P_protect _ _ _ _ _ _ (Sm.ret ?_)) (r_M_protect _ _ _ _ _ _ (Sm.ret ?_)) trivial
        · rw [t_P_protect_0, c_P_within, clI_ok, hx, itT, c_P_isCoin, clI_ok, hy, itT, c_P_isCoin, clI_ok, hz, itF]
        · rw [t_M_protect_0, c_M_isIn, clI_ok, hx, itT, c_M_isIn, clI_ok, hy, itT, c_M_isIn, clI_ok, hz, itF]
      | true =>
        cases hu : inB u 0 1 with
        | false =>
          refine both0 (vI (-1)) (r_P_protect _ _ _ _ _ _ (Sm.ret ?_)) (r_M_protect _ _ _ _ _ _ (Sm.ret ?_)) trivial
          · rw [t_P_protect_0, c_P_within, clI_ok, hx, itT, c_P_isCoin, clI_ok, hy, itT, c_P_isCoin, clI_ok, hz, itT, c_P_within, clI_ok, hu, itF]
          · rw [t_M_protect_0, c_M_isIn, clI_ok, hx, itT, c_M_isIn, clI_ok, hy, itT, c_M_isIn, clI_ok, hz, itT, c_M_isIn, clI_ok, hu, itF]
        | true =>
          obtain ⟨c, hc0⟩ : ∃ c : Nat → Nat, c = fun k => nn (hI h 300000072 0 k) := ⟨_, rfl⟩
          have hc : ∀ k, hI h 300000072 0 k = nI (c k) ∧ c k ≤ 10 := fun k => by
            rw [hc0]
            obtain ⟨v, hv, ev⟩ := q2 k
            exact nn_ex (by decide) ⟨v, hv, ev⟩
          have hcm : ∀ k, hI h 1357000072 0 k = nI (c k) ∧ c k ≤ 10 := fun k => by rw [← q1]; exact hc k
          obtain ⟨l, hl, rfl⟩ := inB_t (n := 12) rfl hx
          obtain ⟨A, hA, rfl⟩ := inB_t (n := 999) rfl hy
          obtain ⟨B, hB, rfl⟩ := inB_t (n := 999) rfl hz
          have e1 := c_isWhole (L := L) (scr := scr) (d := d + 38) hc
          have e2 := c_M_areWhole (L := L) (scr := scr) (d := d + 38) hcm
          rw [whole_any] at e1
          cases hw : !anyB (fun i => !whB c i) 12 with
          | false =>
            rw [hw] at e1 e2
            refine both0 (vI (-1)) (r_P_protect _ _ _ _ _ _ (Sm.ret ?_)) (r_M_protect _ _ _ _ _ _ (Sm.ret ?_)) trivial
            · rw [t_P_protect_0, c_P_within, clI_ok, hx, itT, c_P_isCoin, clI_ok, hy, itT, c_P_isCoin, clI_ok, hz, itT, c_P_within, clI_ok, hu, itT, e1, clI_ok, itF]
            · rw [t_M_protect_0, c_M_isIn, clI_ok, hx, itT, c_M_isIn, clI_ok, hy, itT, c_M_isIn, clI_ok, hz, itT, c_M_isIn, clI_ok, hu, itT, e2, clI_ok, itF]
          | true =>
            rw [hw] at e1 e2
            obtain ⟨f, hf⟩ : ∃ f : Nat → Nat, f = fun k => mnN c l k A B 6 := ⟨_, rfl⟩
            have fl : ∀ k, f k ≤ 35964000 := fun k => by
              rw [hf]
              exact mnN_le (fun k => (hc k).2) hA hB
            have eC : ∀ k, k ≤ l → E L scr (d + 39) 27 [vR 900002 0, vI (nI l), vI (nI k), vI (nI A), vI (nI B)] h = some (some (vI (nI (f k))), h) := fun k hk => by rw [c_meanCoin hc hl hk, hf]
            have eM : ∀ k, k ≤ l → E L scr (d + 39) 297 [vR 900012 0, vI (nI l), vI (nI A), vI (nI B), vI (nI k)] h = some (some (vI (nI (f k))), h) := fun k hk => by rw [c_M_mean hcm hl hk, hf]
            refine both0 (vI (if u = 0 then nI (gtN f l) else nI (f (gtN f l)))) (r_P_protect _ _ _ _ _ _ (Sm.step (t' := 4) (lo' := [some (vR 900011 0), some (vI (nI l)), some (vI (nI A)), some (vI (nI B)), some (vI u), some (vI 0), some (vI (-1)), some (vI 0), none]) (st' := []) (h' := h) ?_ (Sm.step (t' := 4) (lo' := [some (vR 900011 0), some (vI (nI l)), some (vI (nI A)), some (vI (nI B)), some (vI u), some (vI (nI (gtN f 0))), some (vI (nI (f (gtN f 0)))), some (vI (nI (0 + 1))), some (vI (nI (f 0)))]) (st' := []) (h' := h) ?_ ?_))) (r_M_protect _ _ _ _ _ _ (Sm.step (t' := 3) (lo' := [some (vR 900012 0), some (vI (nI l)), some (vI (nI A)), some (vI (nI B)), some (vI u), some (vI (nI (gtN f 0))), some (vI (nI (0 + 1)))]) (st' := []) (h' := h) ?_ ?_)) trivial
            · rw [t_P_protect_0, c_P_within, clI_ok, hx, itT, c_P_isCoin, clI_ok, hy, itT, c_P_isCoin, clI_ok, hz, itT, c_P_within, clI_ok, hu, itT, e1, clI_ok, itT]
            · have h0 : ¬ nI (f 0) ≤ -1 := by
                intro z
                rw [Int32.le_iff_toInt_le, nI_toInt (by have := fl 0; omega)] at z
                have : (-1 : Int32).toInt = -1 := rfl
                omega
              rw [t_P_protect_4, if_neg (show ¬ nI l < 0 from nI_nlt (b := 0) (by omega) (by omega)), show (0 : Int32) = nI 0 from rfl, eC 0 (by omega), clI_ok, if_neg h0, nI_1]; rfl
            · refine Sm.for (lo := fun k => [some (vR 900011 0), some (vI (nI l)), some (vI (nI A)), some (vI (nI B)), some (vI u), some (vI (nI (gtN f k))), some (vI (nI (f (gtN f k)))), some (vI (nI (k + 1))), some (vI (nI (f k)))]) (hh := fun _ => h) l (fun k hk => ?_) (Sm.ret ?_)
              · have g1 := gtN_le (f := f) k
                have f1 := fl (k + 1)
                have f2 := fl (gtN f k)
                rw [t_P_protect_4, if_neg (nI_nlt (by omega) (by omega)), eC (k + 1) (by omega), clI_ok, nI_1]
                by_cases c1 : f (k + 1) ≤ f (gtN f k)
                · have e : gtN f (k + 1) = gtN f k := if_pos c1
                  rw [if_pos (nI_le c1 (by omega)), e]
                · have e : gtN f (k + 1) = k + 1 := if_neg c1
                  rw [if_neg (nI_ge (by omega) (by omega)), e]
              · rw [t_P_protect_4, if_pos (nI_lt (by omega) (by omega))]
                by_cases c1 : u = 0
                · rw [if_pos c1, if_pos c1]
                · rw [if_neg c1, if_neg c1]
            · rw [t_M_protect_0, c_M_isIn, clI_ok, hx, itT, c_M_isIn, clI_ok, hy, itT, c_M_isIn, clI_ok, hz, itT, c_M_isIn, clI_ok, hu, itT, e2, clI_ok, itT]; rfl
            · refine Sm.for (lo := fun k => [some (vR 900012 0), some (vI (nI l)), some (vI (nI A)), some (vI (nI B)), some (vI u), some (vI (nI (gtN f k))), some (vI (nI (k + 1)))]) (hh := fun _ => h) l (fun k hk => ?_) (Sm.ret ?_)
              · have g1 := gtN_le (f := f) k
                have f1 := fl (k + 1)
                have f2 := fl (gtN f k)
                rw [t_M_protect_3, if_neg (nI_nlt (by omega) (by omega)), eM (k + 1) (by omega), clI_ok, eM (gtN f k) (by omega), clI_ok, nI_1]
                by_cases c1 : f (k + 1) ≤ f (gtN f k)
                · have e : gtN f (k + 1) = gtN f k := if_pos c1
                  rw [if_pos (nI_le c1 (by omega)), e]
                · have e : gtN f (k + 1) = k + 1 := if_neg c1
                  rw [if_neg (nI_ge (by omega) (by omega)), e]
              · rw [t_M_protect_3, if_pos (nI_lt (by omega) (by omega))]
                by_cases c1 : u = 0
                · rw [if_pos c1, if_pos c1]
                · rw [if_neg c1, if_neg c1, eM (gtN f l) (gtN_le _), clI_ok]
end Protect

/-! CALLS: worn, old -/
section Wear
variable {L : Nat} {scr : Nat → Int32} {d : Nat}
def adF (p : Nat → Bool) (v : Nat → Int32) (k : Nat) (x : Int32) : Int32 := if p k = true then x + v k else x
theorem adF_t {p : Nat → Bool} {v : Nat → Int32} {k : Nat} {x : Int32} (h : p k = true) : adF p v k x = x + v k := if_pos h
theorem adF_f {p : Nat → Bool} {v : Nat → Int32} {k : Nat} {x : Int32} (h : p k = false) : adF p v k x = x := if_neg (by rw [h]; decide)
theorem ad_eq {p q : Nat → Bool} {v w : Nat → Int32} {m n : Nat} (hm : m ≤ n) (h1 : ∀ k, k < m → p k = q k ∧ v k = w k) (h2 : ∀ k, m ≤ k → k < n → q k = false) (a : Int32) : fold (adF q w) a n = fold (adF p v) a m := by
  rw [fold_trunc hm (fun k k1 k2 x => adF_f (h2 k k1 k2))]
  refine fold_congr (fun k hk x => ?_)
  unfold adF
  rw [(h1 k hk).1, (h1 k hk).2]
def ownB (bo B : Nat → Int32) (b : Int32) (k : Nat) : Bool := decide (bo k = b) && !decide (B k = -1)
def ownM (tb : Nat → Int32) (t : Int32) (bo B : Nat → Int32) (b : Int32) (k : Nat) : Bool := (decide (tb k ≤ t) && !decide (B k = -1)) && decide (bo k = b)
def durV (B oa : Nat → Int32) (k : Nat) : Int32 := B k - oa k
theorem c_minutesOf {i : Nat} (hi : i < 120) (h : MH) : E L scr (d + 1) 111 [vR 900010 0, vI (nI i)] h = some (some (vI (durV (hI h 1102000120 0) (hI h 205000120 0) i)), h) := by
  refine r_View_minutesOf _ _ _ (Sm.ret ?_)
  rw [t_View_minutesOf_0, rd_View_backAt (oob_nI hi (by decide)), rd_Book_outAt (oob_nI hi (by decide)), ix_nI (by omega)]; rfl
theorem c_M_minutes {i : Nat} (hi : i < 120) (h : MH) : E L scr (d + 1) 266 [vR 900012 0, vI (nI i)] h = some (some (vI (durV (hI h 1350000120 0) (hI h 1341000120 0) i)), h) := by
  refine r_M_minutes _ _ _ (Sm.ret ?_)
  rw [t_M_minutes_0, rd_M_backAt (oob_nI hi (by decide)), rd_M_outAt (oob_nI hi (by decide)), ix_nI (by omega)]; rfl
theorem c_minutesOfBoat {m : Nat} (hm : m ≤ 120) (b : Int32) {h : MH} (em : hI h 1101 0 0 = nI m) : E L scr (d + 2) 120 [vR 900010 0, vI b] h = some (some (vI (fold (adF (ownB (hI h 203000120 0) (hI h 1102000120 0) b) (durV (hI h 1102000120 0) (hI h 205000120 0))) 0 m)), h) := by
  refine r_View_minutesOfBoat _ _ _ (Sm.step (t' := 1) (lo' := [some (vR 900010 0), some (vI b), some (vI 0), some (vI 0)]) (st' := []) (h' := h) (t_View_minutesOfBoat_0 ..) ?_)
  refine Sm.for (lo := fun k => [some (vR 900010 0), some (vI b), some (vI (fold (adF (ownB (hI h 203000120 0) (hI h 1102000120 0) b) (durV (hI h 1102000120 0) (hI h 205000120 0))) 0 k)), some (vI (nI k))]) (hh := fun _ => h) m (fun k hk => ?_) (Sm.ret ?_)
  · show _ = some (Sum.inl (1, [some (vR 900010 0), some (vI b), some (vI (adF (ownB (hI h 203000120 0) (hI h 1102000120 0) b) (durV (hI h 1102000120 0) (hI h 205000120 0)) k (fold (adF (ownB (hI h 203000120 0) (hI h 1102000120 0) b) (durV (hI h 1102000120 0) (hI h 205000120 0))) 0 k))), some (vI (nI (k + 1)))], [], h))
    generalize fold (adF (ownB (hI h 203000120 0) (hI h 1102000120 0) b) (durV (hI h 1102000120 0) (hI h 205000120 0))) 0 k = acc
    rw [t_View_minutesOfBoat_1, em, if_neg (nI_ge hk (by omega)), rd_Book_boatOf (oob_nI (by omega) (by decide)), ix_nI (by omega)]
    by_cases c1 : hI h 203000120 0 k = b
    · rw [if_pos c1, c_isBack (by omega), clI_ok]
      by_cases c2 : hI h 1102000120 0 k = -1
      · rw [adF_f (show ownB _ _ b k = false by unfold ownB; rw [decide_eq_true c2]; exact Bool.and_false _), decide_eq_true c2, Bool.not_true, itF, Int32.add_zero, nI_1]
      · rw [adF_t (show ownB _ _ b k = true by unfold ownB; rw [decide_eq_false c2, decide_eq_true c1]; rfl), decide_eq_false c2, Bool.not_false, itT, c_minutesOf (by omega), clI_ok, nI_1]
    · rw [if_neg c1, adF_f (show ownB _ _ b k = false by unfold ownB; rw [decide_eq_false c1]; exact Bool.false_and _), Int32.add_zero, nI_1]
  · rw [t_View_minutesOfBoat_1, em, if_pos (nI_le (Nat.le_refl _) (by omega))]
theorem c_hiresOfBoat {m : Nat} (hm : m ≤ 120) (b : Int32) {h : MH} (em : hI h 1101 0 0 = nI m) : E L scr (d + 2) 121 [vR 900010 0, vI b] h = some (some (vI (fold (adF (ownB (hI h 203000120 0) (hI h 1102000120 0) b) (fun _ => 1)) 0 m)), h) := by
  refine r_View_hiresOfBoat _ _ _ (Sm.step (t' := 1) (lo' := [some (vR 900010 0), some (vI b), some (vI 0), some (vI 0)]) (st' := []) (h' := h) (t_View_hiresOfBoat_0 ..) ?_)
  refine Sm.for (lo := fun k => [some (vR 900010 0), some (vI b), some (vI (fold (adF (ownB (hI h 203000120 0) (hI h 1102000120 0) b) (fun _ => 1)) 0 k)), some (vI (nI k))]) (hh := fun _ => h) m (fun k hk => ?_) (Sm.ret ?_)
  · show _ = some (Sum.inl (1, [some (vR 900010 0), some (vI b), some (vI (adF (ownB (hI h 203000120 0) (hI h 1102000120 0) b) (fun _ => 1) k (fold (adF (ownB (hI h 203000120 0) (hI h 1102000120 0) b) (fun _ => 1)) 0 k))), some (vI (nI (k + 1)))], [], h))
    generalize fold (adF (ownB (hI h 203000120 0) (hI h 1102000120 0) b) (fun _ => 1)) 0 k = acc
    rw [t_View_hiresOfBoat_1, em, if_neg (nI_ge hk (by omega)), rd_Book_boatOf (oob_nI (by omega) (by decide)), ix_nI (by omega)]
    by_cases c1 : hI h 203000120 0 k = b
    · rw [if_pos c1, c_isBack (by omega), clI_ok]
      by_cases c2 : hI h 1102000120 0 k = -1
      · rw [adF_f (show ownB _ _ b k = false by unfold ownB; rw [decide_eq_true c2]; exact Bool.and_false _), decide_eq_true c2, Bool.not_true, itF, Int32.add_zero, nI_1]
      · rw [adF_t (show ownB _ _ b k = true by unfold ownB; rw [decide_eq_false c2, decide_eq_true c1]; rfl), decide_eq_false c2, Bool.not_false, itT, nI_1]
    · rw [if_neg c1, adF_f (show ownB _ _ b k = false by unfold ownB; rw [decide_eq_false c1]; exact Bool.false_and _), Int32.add_zero, nI_1]
  · rw [t_View_hiresOfBoat_1, em, if_pos (nI_le (Nat.le_refl _) (by omega))]
theorem c_M_wornNow {n : Nat} (hn : n ≤ 120) (b : Int32) {h : MH} (en : hI h 1336 0 0 = nI n) : E L scr (d + 3) 284 [vR 900012 0, vI b] h = some (some (vI (fold (adF (ownM (hI h 1343000120 0) (hI h 1354 0 0) (hI h 1339000120 0) (hI h 1350000120 0) b) (durV (hI h 1350000120 0) (hI h 1341000120 0))) 0 n)), h) := by
  refine r_M_wornNow _ _ _ (Sm.step (t' := 1) (lo' := [some (vR 900012 0), some (vI b), some (vI 0), some (vI 0)]) (st' := []) (h' := h) (t_M_wornNow_0 ..) ?_)
  refine Sm.for (lo := fun k => [some (vR 900012 0), some (vI b), some (vI (fold (adF (ownM (hI h 1343000120 0) (hI h 1354 0 0) (hI h 1339000120 0) (hI h 1350000120 0) b) (durV (hI h 1350000120 0) (hI h 1341000120 0))) 0 k)), some (vI (nI k))]) (hh := fun _ => h) n (fun k hk => ?_) (Sm.ret ?_)
  · show _ = some (Sum.inl (1, [some (vR 900012 0), some (vI b), some (vI (adF (ownM (hI h 1343000120 0) (hI h 1354 0 0) (hI h 1339000120 0) (hI h 1350000120 0) b) (durV (hI h 1350000120 0) (hI h 1341000120 0)) k (fold (adF (ownM (hI h 1343000120 0) (hI h 1354 0 0) (hI h 1339000120 0) (hI h 1350000120 0) b) (durV (hI h 1350000120 0) (hI h 1341000120 0))) 0 k))), some (vI (nI (k + 1)))], [], h))
    generalize fold (adF (ownM (hI h 1343000120 0) (hI h 1354 0 0) (hI h 1339000120 0) (hI h 1350000120 0) b) (durV (hI h 1350000120 0) (hI h 1341000120 0))) 0 k = acc
    rw [t_M_wornNow_1, en, if_neg (nI_ge hk (by omega)), c_M_isBack (by omega), clI_ok]
    cases c2 : (decide (hI h 1343000120 0 k ≤ hI h 1354 0 0) && !decide (hI h 1350000120 0 k = -1)) with
    | false => rw [adF_f (show ownM _ _ _ _ b k = false by unfold ownM; rw [c2]; exact Bool.false_and _), itF, Int32.add_zero, nI_1]
    | true =>
      rw [itT, rd_M_boatOf (oob_nI (by omega) (by decide)), ix_nI (by omega)]
      by_cases c1 : hI h 1339000120 0 k = b
      · rw [adF_t (show ownM _ _ _ _ b k = true by unfold ownM; rw [c2, decide_eq_true c1]; rfl), if_pos c1, c_M_minutes (by omega), clI_ok, nI_1]
      · rw [adF_f (show ownM _ _ _ _ b k = false by unfold ownM; rw [decide_eq_false c1]; exact Bool.and_false _), if_neg c1, Int32.add_zero, nI_1]
  · rw [t_M_wornNow_1, en, if_pos (nI_le (Nat.le_refl _) (by omega))]
/-- what both sides know of boats' wear -/
theorem wear_eq {bo B B2 tb v w : Nat → Int32} {b t : Int32} {m n : Nat} (hm : m ≤ n) (ht : ∀ i, i < n → decide (tb i ≤ t) = decide (i < m)) (hB : ∀ i, i < m → B i = B2 i) (hv : ∀ i, i < m → v i = w i) : fold (adF (ownM tb t bo B2 b) w) 0 n = fold (adF (ownB bo B b) v) 0 m := by
  refine ad_eq hm (fun k hk => ⟨?_, hv k hk⟩) (fun k k1 k2 => ?_) 0
  · unfold ownB ownM
    rw [ht k (by omega), decide_eq_true hk, hB k hk, Bool.true_and, Bool.and_comm]
  · unfold ownM
    rw [ht k k2, decide_eq_false (show ¬ k < m by omega), Bool.false_and, Bool.false_and]
theorem call_worn (x y z : Int32) (h : MH) (q : RHire h) (qb : RBoat h) : Both L scr (d + 40) Scr (fun _ => True) 148 285 [vR 900011 0, vI x, vI y, vI z] [vR 900012 0, vI x, vI y, vI z] h := by
  obtain ⟨q1, q2, q3, q4, q5, n, T, nb, hn, hT, hnb, ch, mh, cl, ml, bn, tk, hk, hsep⟩ := id q
  obtain ⟨b1, nB, hnB, eb, mb, b2⟩ := qb
  cases hx : ixB x nB with
  | false =>
    refine both0 (vI (-1)) (r_P_worn _ _ _ _ _ (Sm.ret ?_)) (r_M_worn _ _ _ _ _ (Sm.ret ?_)) trivial
    · rw [t_P_worn_0, c_P_isBoat eb, clI_ok, hx, itF]
    · rw [t_M_worn_0, c_M_isBoat (by omega) mb, clI_ok, hx, itF]
  | true =>
    cases hy : inB y 0 (nI T) with
    | false =>
      refine both0 (vI (-1)) (r_P_worn _ _ _ _ _ (Sm.ret ?_)) (r_M_worn _ _ _ _ _ (Sm.ret ?_)) trivial
      · rw [t_P_worn_0, c_P_isBoat eb, clI_ok, hx, itT, c_P_isTelling cl, clI_ok, hy, itF]
      · rw [t_M_worn_0, c_M_isBoat (by omega) mb, clI_ok, hx, itT, c_M_isTelling ml, clI_ok, hy, itF]
    | true =>
      cases hz : inB z 0 1 with
      | false =>
        refine both0 (vI (-1)) (r_P_worn _ _ _ _ _ (Sm.ret ?_)) (r_M_worn _ _ _ _ _ (Sm.ret ?_)) trivial
        · rw [t_P_worn_0, c_P_isBoat eb, clI_ok, hx, itT, c_P_isTelling cl, clI_ok, hy, itT, c_P_within, clI_ok, hz, itF]
        · rw [t_M_worn_0, c_M_isBoat (by omega) mb, clI_ok, hx, itT, c_M_isTelling ml, clI_ok, hy, itT, c_M_isIn, clI_ok, hz, itF]
      | true =>
        obtain ⟨t, ht, rfl⟩ := inB_T (by omega) hy
        obtain ⟨hm, B, S, C, eS, fS⟩ := see_g (L := L) (scr := scr) (d := d + 37) q 0 hT cl ht hn ch
        have u1 := vwx_Scr (h := h) (B := B) (S := S) (C := C) (n := cnS h t)
        have a1 : ∀ r ∈ SHire, hI (withR h (vwL h 0 B S C (cnS h t))) r.1 r.2 = hI h r.1 r.2 := fun r hr => u1.2 _ _ (ScrH r hr)
        obtain ⟨B2, S2, C2, D2, eK, fK⟩ := kn_g (L := L) (scr := scr) (d := d + 38) q hT cl ht hn ch a1
        have u2 := kn_Scr (h := withR h (vwL h 0 B S C (cnS h t))) (B := B2) (S := S2) (C := C2) (D := D2) (t := nI t)
        have u3 := u1.tr u2
        have ml1 : hI (withR h (vwL h 0 B S C (cnS h t))) 1337 0 0 = nI T := by rw [u1.2 _ _ (by decide)]; exact ml
        have mb1 : hI (withR h (vwL h 0 B S C (cnS h t))) 1335 0 0 = nI nB := by rw [u1.2 _ _ (by decide)]; exact mb
        have mh3 : hI (withR (withR h (vwL h 0 B S C (cnS h t))) (knL (withR h (vwL h 0 B S C (cnS h t))) B2 S2 C2 D2 (nI t))) 1336 0 0 = nI n := by rw [u3.2 _ _ (by decide)]; exact mh
        have hB : ∀ i, i < cnS h t → B i = B2 i := fun i hi => by rw [(fS i hi).1, (fK i (by omega)).1]
        have td : ∀ i, i < n → decide (hI h 207000120 0 i ≤ nI t) = decide (i < cnS h t) := fun i hi => told_dec hT ht hk hi
        by_cases z0 : z = 0
        · refine ⟨vI (fold (adF (ownB (hI h 203000120 0) B x) (durV B (hI h 205000120 0))) 0 (cnS h t)), withR h (vwL h 0 B S C (cnS h t)), withR (withR h (vwL h 0 B S C (cnS h t))) (knL (withR h (vwL h 0 B S C (cnS h t))) B2 S2 C2 D2 (nI t)), r_P_worn _ _ _ _ _ (Sm.ret ?_), r_M_worn _ _ _ _ _ (Sm.ret ?_), u3, trivial⟩
          · rw [t_P_worn_0, c_P_isBoat eb, clI_ok, hx, itT, c_P_isTelling cl, clI_ok, hy, itT, c_P_within, clI_ok, hz, itT, eS, clV_ok, if_pos z0, c_minutesOfBoat (m := cnS h t) (by omega) x vwx_n, clI_ok, vwx_B, u1.2 205000120 0 (by decide), u1.2 203000120 0 (by decide)]
          · rw [t_M_worn_0, c_M_isBoat (by omega) mb1, clI_ok, hx, itT, c_M_isTelling ml1, clI_ok, hy, itT, c_M_isIn, clI_ok, hz, itT, eK, clV_ok, if_pos z0, c_M_wornNow hn x mh3, clI_ok, kn_B, kn_t, u3.2 1341000120 0 (by decide), u3.2 1339000120 0 (by decide), u3.2 1343000120 0 (by decide), ← q1, ← q3, ← q5, wear_eq (v := durV B (hI h 205000120 0)) hm td hB (fun i hi => by unfold durV; rw [hB i hi])]
        · refine ⟨vI (fold (adF (ownB (hI h 203000120 0) B x) (fun _ => 1)) 0 (cnS h t)), withR h (vwL h 0 B S C (cnS h t)), withR (withR h (vwL h 0 B S C (cnS h t))) (knL (withR h (vwL h 0 B S C (cnS h t))) B2 S2 C2 D2 (nI t)), r_P_worn _ _ _ _ _ (Sm.ret ?_), r_M_worn _ _ _ _ _ (Sm.step (t' := 4) (lo' := [some (vR 900012 0), some (vI x), some (vI (nI t)), some (vI z), some (vI 0), some (vI 0)]) (st' := []) (h' := withR (withR h (vwL h 0 B S C (cnS h t))) (knL (withR h (vwL h 0 B S C (cnS h t))) B2 S2 C2 D2 (nI t))) ?_ ?_), u3, trivial⟩
          · rw [t_P_worn_0, c_P_isBoat eb, clI_ok, hx, itT, c_P_isTelling cl, clI_ok, hy, itT, c_P_within, clI_ok, hz, itT, eS, clV_ok, if_neg z0, c_hiresOfBoat (m := cnS h t) (by omega) x vwx_n, clI_ok, vwx_B, u1.2 203000120 0 (by decide)]
          · rw [t_M_worn_0, c_M_isBoat (by omega) mb1, clI_ok, hx, itT, c_M_isTelling ml1, clI_ok, hy, itT, c_M_isIn, clI_ok, hz, itT, eK, clV_ok, if_neg z0]
          · rw [← wear_eq (b := x) hm td hB (v := fun _ => 1) (w := fun _ => 1) (fun _ _ => rfl)]
            have k1 : ∀ (f : MH), hI f 1343000120 0 = hI h 207000120 0 → hI f 1339000120 0 = hI h 203000120 0 → hI f 1350000120 0 = B2 → hI f 1354 0 0 = nI t → hI f 1336 0 0 = nI n → Sm L scr (d + 39) B_M_worn C_M_worn 4 [some (vR 900012 0), some (vI x), some (vI (nI t)), some (vI z), some (vI 0), some (vI 0)] [] f (some (vI (fold (adF (ownM (hI h 207000120 0) (nI t) (hI h 203000120 0) B2 x) (fun _ => 1)) 0 n)), f) := by
              intro f f1 f2 f3 f4 f5
              refine Sm.for (lo := fun k => [some (vR 900012 0), some (vI x), some (vI (nI t)), some (vI z), some (vI (fold (adF (ownM (hI h 207000120 0) (nI t) (hI h 203000120 0) B2 x) (fun _ => 1)) 0 k)), some (vI (nI k))]) (hh := fun _ => f) n (fun k hk => ?_) (Sm.ret ?_)
              · show _ = some (Sum.inl (4, [some (vR 900012 0), some (vI x), some (vI (nI t)), some (vI z), some (vI (adF (ownM (hI h 207000120 0) (nI t) (hI h 203000120 0) B2 x) (fun _ => 1) k (fold (adF (ownM (hI h 207000120 0) (nI t) (hI h 203000120 0) B2 x) (fun _ => 1)) 0 k))), some (vI (nI (k + 1)))], [], f))
                generalize fold (adF (ownM (hI h 207000120 0) (nI t) (hI h 203000120 0) B2 x) (fun _ => 1)) 0 k = acc
                rw [t_M_worn_4, f5, if_neg (nI_ge hk (by omega)), c_M_isBack (by omega), clI_ok, f1, f3, f4]
                cases c2 : (decide (hI h 207000120 0 k ≤ nI t) && !decide (B2 k = -1)) with
                | false => rw [adF_f (show ownM _ _ _ _ x k = false by unfold ownM; rw [c2]; exact Bool.false_and _), itF, c_M_one, clI_ok, if_pos rfl, Int32.add_zero, nI_1]
                | true =>
                  rw [itT, rd_M_boatOf (oob_nI (by omega) (by decide)), ix_nI (by omega), f2]
                  by_cases c1 : hI h 203000120 0 k = x
                  · rw [adF_t (show ownM _ _ _ _ x k = true by unfold ownM; rw [c2, decide_eq_true c1]; rfl), if_pos c1, c_M_one, clI_ok, if_neg i0n1, nI_1]
                  · rw [adF_f (show ownM _ _ _ _ x k = false by unfold ownM; rw [decide_eq_false c1]; exact Bool.and_false _), if_neg c1, c_M_one, clI_ok, if_pos rfl, Int32.add_zero, nI_1]
              · rw [t_M_worn_4, f5, if_pos (nI_le (Nat.le_refl _) (by omega))]
            refine k1 _ ?_ ?_ kn_B kn_t mh3
            · rw [u3.2 1343000120 0 (by decide)]; exact Eq.symm q5
            · rw [u3.2 1339000120 0 (by decide)]; exact Eq.symm q1
end Wear

/-! CALL: barred -/
theorem nI_mod {a b : Nat} (ha : a < 2 ^ 31) (hb : b < 2 ^ 31) : nI a % nI b = nI (a % b) := (Int32.ofNat_mod ha hb).symm
theorem nI_predI {u : Nat} (h : u < 2 ^ 31) : (nI u - 1).toInt = (u : Int) - 1 := by
  cases u with
  | zero => rfl
  | succ m => rw [nI_pred, nI_toInt (by omega)]; omega
section Bar
variable {L : Nat} {scr : Nat → Int32} {d : Nat}
def orF (p : Nat → Bool) (v : Nat → Int32) (k : Nat) (x : Int32) : Int32 := if p k = true then x ||| v k else x
theorem orF_t {p : Nat → Bool} {v : Nat → Int32} {k : Nat} {x : Int32} (h : p k = true) : orF p v k x = x ||| v k := if_pos h
theorem orF_f {p : Nat → Bool} {v : Nat → Int32} {k : Nat} {x : Int32} (h : p k = false) : orF p v k x = x := if_neg (by rw [h]; decide)
theorem orF_fold {p : Nat → Bool} {v : Nat → Int32} {a : Int32} : ∀ n, fold (orF p v) a n = a ||| fold (orF p v) 0 n
  | 0 => (Int32.or_zero ..).symm
  | n + 1 => by
    show orF p v n (fold (orF p v) a n) = a ||| orF p v n (fold (orF p v) 0 n)
    rw [orF_fold n]
    cases e : p n with
    | true => rw [orF_t e, orF_t e, Int32.or_assoc]
    | false => rw [orF_f e, orF_f e]
def nestB (nf nt : Nat → Int32) (day : Int32) (k : Nat) : Bool := inB day (nf k) (nt k)
def bitV (r : Nat → Int32) (k : Nat) : Int32 := (1 : Int32) <<< (r k &&& 31)
theorem c_nested {n m : Nat} (hn : n ≤ 20) {h : MH} (e : hI h 807 0 0 = nI n) : E L scr (d + 1) 98 [vR 900007 0, vI (nI m)] h = some (some (vI (fold (orF (nestB (hI h 809000020 0) (hI h 810000020 0) (nI m)) (bitV (hI h 808000020 0))) 0 n)), h) := by
  refine r_River_nestedReaches _ _ _ (Sm.step (t' := 1) (lo' := [some (vR 900007 0), some (vI (nI m)), some (vI 0), some (vI 0)]) (st' := []) (h' := h) (t_River_nestedReaches_0 ..) ?_)
  refine Sm.for (lo := fun k => [some (vR 900007 0), some (vI (nI m)), some (vI (fold (orF (nestB (hI h 809000020 0) (hI h 810000020 0) (nI m)) (bitV (hI h 808000020 0))) 0 k)), some (vI (nI k))]) (hh := fun _ => h) n (fun k hk => ?_) (Sm.ret ?_)
  · show _ = some (Sum.inl (1, [some (vR 900007 0), some (vI (nI m)), some (vI (orF (nestB (hI h 809000020 0) (hI h 810000020 0) (nI m)) (bitV (hI h 808000020 0)) k (fold (orF (nestB (hI h 809000020 0) (hI h 810000020 0) (nI m)) (bitV (hI h 808000020 0))) 0 k))), some (vI (nI (k + 1)))], [], h))
    generalize fold (orF (nestB (hI h 809000020 0) (hI h 810000020 0) (nI m)) (bitV (hI h 808000020 0))) 0 k = acc
    have ob : ¬ oob (nI k) 20 := oob_nI (by omega) (by decide)
    rw [t_River_nestedReaches_1, e, if_neg (nI_ge hk (by omega)), rd_River_nestFrom ob, ix_nI (by omega), nI_1]
    by_cases c1 : nI m < hI h 809000020 0 k
    · rw [if_pos c1, orF_f (show nestB _ _ _ k = false from decide_eq_false (fun z => nlt_i.mpr z.1 c1))]
    · rw [if_neg c1, rd_River_nestTo ob, ix_nI (by omega)]
      by_cases c2 : hI h 810000020 0 k < nI m
      · rw [if_pos c2, orF_f (show nestB _ _ _ k = false from decide_eq_false (fun z => nlt_i.mpr z.2 c2))]
      · rw [if_neg c2, rd_River_nestReach ob, ix_nI (by omega), orF_t (show nestB _ _ _ k = true from decide_eq_true ⟨nlt_i.mp c1, nlt_i.mp c2⟩)]
        rfl
  · rw [t_River_nestedReaches_1, e, if_pos (nI_le (Nat.le_refl _) (by omega))]
/-- a regatta of the day that falls on the minutes s .. u-1 -/
def raceB (rd rf rt : Nat → Int32) (day : Int32) (s u : Nat) (k : Nat) : Bool := decide (rd k = day) && decide ((nI s).toInt < u ∧ (rf k).toInt < u ∧ (nI s).toInt ≤ (rt k).toInt ∧ (rf k).toInt ≤ (rt k).toInt)
theorem c_raced {n m s u : Nat} (hn : n ≤ 10) (hs : s < 720) (hu : u ≤ 720) {h : MH} (e : hI h 811 0 0 = nI n) (hb : ∀ k, k < n → ∃ a b, a ≤ b ∧ b < 720 ∧ hI h 813000010 0 k = nI a ∧ hI h 814000010 0 k = nI b) : E L scr (d + 2) 99 [vR 900007 0, vI (nI m), vI (nI s), vI (nI u)] h = some (some (vI (fold (orF (raceB (hI h 812000010 0) (hI h 813000010 0) (hI h 814000010 0) (nI m) s u) (hI h 815000010 0)) 0 n)), h) := by
  obtain ⟨F, hF⟩ : ∃ F, F = orF (raceB (hI h 812000010 0) (hI h 813000010 0) (hI h 814000010 0) (nI m) s u) (hI h 815000010 0) := ⟨_, rfl⟩
  rw [← hF]
  refine r_River_racedReaches _ _ _ _ _ (Sm.step (t' := 1) (lo' := [some (vR 900007 0), some (vI (nI m)), some (vI (nI s)), some (vI (nI u)), some (vI 0), some (vI 0)]) (st' := []) (h' := h) (t_River_racedReaches_0 ..) ?_)
  refine Sm.for (lo := fun k => [some (vR 900007 0), some (vI (nI m)), some (vI (nI s)), some (vI (nI u)), some (vI (fold F 0 k)), some (vI (nI k))]) (hh := fun _ => h) n (fun k hk => ?_) (Sm.ret ?_)
  · show _ = some (Sum.inl (1, [some (vR 900007 0), some (vI (nI m)), some (vI (nI s)), some (vI (nI u)), some (vI (F k (fold F 0 k))), some (vI (nI (k + 1)))], [], h))
    generalize fold F 0 k = acc
    have ob : ¬ oob (nI k) 10 := oob_nI (by omega) (by decide)
    obtain ⟨a, b, h1, h2, h3, h4⟩ := hb k hk
    rw [t_River_racedReaches_1, e, if_neg (nI_ge hk (by omega)), rd_River_raceDay ob, ix_nI (by omega), nI_1, hF]
    by_cases c1 : hI h 812000010 0 k = nI m
    · rw [if_pos c1, rd_River_raceFrom ob, ix_nI (by omega), c_max, clI_ok, rd_River_raceTo ob, ix_nI (by omega), h3, h4, nI_1, c_min, clI_ok]
      have key : ((if nI u < nI (b + 1) then nI u else nI (b + 1)) ≤ (if nI a < nI s then nI s else nI a)) ↔ ¬ (s < u ∧ a < u ∧ s ≤ b ∧ a ≤ b) := by
        by_cases x1 : u < b + 1
        · rw [if_pos (nI_lt x1 (by omega))]
          by_cases x2 : a < s
          · rw [if_pos (nI_lt x2 (by omega)), nI_leI (by omega) (by omega)]; omega
          · rw [if_neg (nI_nlt (by omega) (by omega)), nI_leI (by omega) (by omega)]; omega
        · rw [if_neg (nI_nlt (by omega) (by omega))]
          by_cases x2 : a < s
          · rw [if_pos (nI_lt x2 (by omega)), nI_leI (by omega) (by omega)]; omega
          · rw [if_neg (nI_nlt (by omega) (by omega)), nI_leI (by omega) (by omega)]; omega
      have kb : raceB (hI h 812000010 0) (hI h 813000010 0) (hI h 814000010 0) (nI m) s u k = decide (s < u ∧ a < u ∧ s ≤ b ∧ a ≤ b) := by
        unfold raceB
        rw [decide_eq_true c1, Bool.true_and, h3, h4, nI_toInt (by omega), nI_toInt (by omega), nI_toInt (by omega)]
        apply decide_eq_decide.mpr
        omega
      by_cases c2 : s < u ∧ a < u ∧ s ≤ b ∧ a ≤ b
      · rw [if_neg (fun z => key.mp z c2), rd_River_raceReaches ob, ix_nI (by omega), orF_t (by rw [kb]; exact decide_eq_true c2)]
      · rw [if_pos (key.mpr c2), orF_f (by rw [kb]; exact decide_eq_false c2)]
    · rw [if_neg c1, orF_f (by unfold raceB; rw [decide_eq_false c1]; exact Bool.false_and _)]
  · rw [t_River_racedReaches_1, e, if_pos (nI_le (Nat.le_refl _) (by omega))]
theorem call_barred (x y : Int32) (h : MH) (q : RHire h) (qn : RNest h) (qr : RRace h) (qp : RPass h) : Both L scr (d + 40) Scr (fun _ => True) 173 327 [vR 900011 0, vI x, vI y] [vR 900012 0, vI x, vI y] h := by
  obtain ⟨q1, q2, q3, q4, q5, n, T, nb, hn, hT, hnb, ch, mh, cl, ml, bn, tk, hk, hsep⟩ := id q
  obtain ⟨n1, n2, n3, nN, hnN, en, emn⟩ := qn
  obtain ⟨r1, r2, r3, r4, nR, hnR, er, emr, r5⟩ := qr
  obtain ⟨p1, p2, p3⟩ := qp
  cases hx : ixB x n with
  | false =>
    refine both0 (vI (-1)) (r_P_barred _ _ _ _ (Sm.ret ?_)) (r_M_barred _ _ _ _ (Sm.ret ?_)) trivial
    · have e : E L scr (d + 39) 192 [vR 900011 0, vI x, vI y] h = some (some (vI 0), h) := by
        refine r_P_seesHire _ _ _ _ (Sm.ret ?_)
        rw [t_P_seesHire_0, c_P_isHire ch, clI_ok, hx, itF, rtZ0]
      rw [t_P_barred_0, e, clI_ok, if_pos rfl]
    · rw [t_M_barred_0, c_M_isHire (by omega) mh, clI_ok, hx, itF]
  | true =>
    cases hy : inB y 0 (nI T) with
    | false =>
      refine both0 (vI (-1)) (r_P_barred _ _ _ _ (Sm.ret ?_)) (r_M_barred _ _ _ _ (Sm.ret ?_)) trivial
      · have e : E L scr (d + 39) 192 [vR 900011 0, vI x, vI y] h = some (some (vI 0), h) := by
          refine r_P_seesHire _ _ _ _ (Sm.ret ?_)
          rw [t_P_seesHire_0, c_P_isHire ch, clI_ok, hx, itT, c_P_isTelling cl, clI_ok, hy, itF, rtZ0]
        rw [t_P_barred_0, e, clI_ok, if_pos rfl]
      · rw [t_M_barred_0, c_M_isHire (by omega) mh, clI_ok, hx, itT, c_M_isTelling ml, clI_ok, hy, itF]
    | true =>
      obtain ⟨t, ht, rfl⟩ := inB_T (by omega) hy
      obtain ⟨i, hi, hi2, rfl⟩ := ixB_t hx
      have ob : ¬ oob (nI i) 120 := oob_nI (by omega) (by decide)
      obtain ⟨hm, B, S, C, eS, fS⟩ := see_g (L := L) (scr := scr) (d := d + 36) q 0 hT cl ht hn ch
      have u1 := vwx_Scr (h := h) (B := B) (S := S) (C := C) (n := cnS h t)
      have eH : E L scr (d + 39) 192 [vR 900011 0, vI (nI i), vI (nI t)] h = some (some (vI (zb (decide (i < cnS h t)))), withR h (vwL h 0 B S C (cnS h t))) := by
        refine r_P_seesHire _ _ _ _ (Sm.ret ?_)
        rw [t_P_seesHire_0, c_P_isHire ch, clI_ok, hx, itT, c_P_isTelling cl, clI_ok, hy, itT, eS, clV_ok, vwx_n]
        by_cases c : i < cnS h t
        · rw [if_neg (nI_ge c (by omega)), decide_eq_true c, rtZ1]; rfl
        · rw [if_pos (nI_le (by omega) (by omega)), decide_eq_false c, rtZ0]; rfl
      obtain ⟨g, hg⟩ : ∃ g, g = withR h (vwL h 0 B S C (cnS h t)) := ⟨_, rfl⟩
      rw [← hg] at eH u1
      have gB : hI g 1102000120 0 = B := by rw [hg]; exact vwx_B
      have ml1 : hI g 1337 0 0 = nI T := by rw [u1.2 _ _ (by decide)]; exact ml
      have mh1 : hI g 1336 0 0 = nI n := by rw [u1.2 _ _ (by decide)]; exact mh
      have td := told_dec hT ht hk hi
      have mt1 : hI g 1343000120 0 i = hI h 207000120 0 i := by
        rw [u1.2 _ _ (by decide)]; exact (congrFun (show hI h 207000120 0 = hI h 1343000120 0 from q5) i).symm
      by_cases c : i < cnS h t
      · have a1 : ∀ r ∈ SHire, hI g r.1 r.2 = hI h r.1 r.2 := fun r hr => u1.2 _ _ (ScrH r hr)
        obtain ⟨B2, S2, C2, D2, eK, fK⟩ := kn_g (L := L) (scr := scr) (d := d + 38) q hT cl ht hn ch a1
        obtain ⟨f, hf⟩ : ∃ f, f = withR g (knL g B2 S2 C2 D2 (nI t)) := ⟨_, rfl⟩
        rw [← hf] at eK
        have uf : Upd Scr h f := u1.tr (by rw [hf]; exact kn_Scr)
        have fB : hI f 1350000120 0 = B2 := by rw [hf]; exact kn_B
        rw [decide_eq_true (show i < cntW (hI h 211000400 0) t from c)] at td
        obtain ⟨⟨bb, ww, m, qq, o1, o2, o3, o4, o5, o6, -⟩, -⟩ := hk i hi
        have hBi : B i = bkS h t i := (fS i c).1
        have hB2 : B2 i = bkS h t i := (fK i hi).1
        have gO : hI g 205000120 0 i = nI m := by rw [u1.2 _ _ (by decide)]; exact o5
        have fO : hI f 1341000120 0 i = nI m := by rw [uf.2 _ _ (by decide), show hI h 1341000120 0 = hI h 205000120 0 from q3.symm]; exact o5
        -- the last minute but one on both sides
        obtain ⟨u, hu, hcu, hmu⟩ : ∃ u, u ≤ 720 ∧ ((bkS h t i = -1 ∧ u = 720) ∨ (bkS h t i ≠ -1 ∧ nI (m % 720) + (bkS h t i - nI m) = nI u)) ∧ ((bkS h t i = -1 ∧ u = 720) ∨ (bkS h t i ≠ -1 ∧ bkS h t i % 720 - 1 = nI u - 1)) := by
          rcases bk_ok tk ht (i := i) (by omega) with hb | ⟨a, b, b1, b2, b3, b4, b5⟩
          · exact ⟨720, by omega, Or.inl ⟨hb, rfl⟩, Or.inl ⟨hb, rfl⟩⟩
          · have ea : a = m := (nI_eq (by omega) (by omega)).mp (by rw [← b1, ← o5])
            subst ea
            have hbk : bkS h t i = nI b := b2
            refine ⟨b % 720, by omega, Or.inr ⟨by rw [hbk]; exact nI_ne1 (by omega), ?_⟩, Or.inr ⟨by rw [hbk]; exact nI_ne1 (by omega), ?_⟩⟩
            · rw [hbk, nI_sub b3, nI_add]
              exact congrArg nI (by omega)
            · rw [hbk, show (720 : Int32) = nI 720 from rfl, nI_mod (by omega) (by decide)]
        obtain ⟨A, hA⟩ : ∃ A, A = fold (orF (nestB (hI h 809000020 0) (hI h 810000020 0) (nI (m / 720))) (bitV (hI h 808000020 0))) 0 nN := ⟨_, rfl⟩
        obtain ⟨F, hF⟩ : ∃ F, F = orF (raceB (hI h 812000010 0) (hI h 813000010 0) (hI h 814000010 0) (nI (m / 720)) (m % 720) u) (hI h 815000010 0) := ⟨_, rfl⟩
        refine ⟨vI ((A ||| fold F 0 nR) &&& hI h 208000120 0 i), g, f, r_P_barred _ _ _ _ (Sm.ret ?_), ?_, uf, trivial⟩
        · have cn : ∀ d, E L scr (d + 1) 98 [vR 900007 0, vI (nI (m / 720))] g = some (some (vI A), g) := fun d => by
            rw [c_nested hnN (by rw [u1.2 _ _ (by decide)]; exact en), hA, u1.2 809000020 0 (by decide), u1.2 810000020 0 (by decide), u1.2 808000020 0 (by decide)]
          have cr : ∀ d, E L scr (d + 2) 99 [vR 900007 0, vI (nI (m / 720)), vI (nI (m % 720)), vI (nI u)] g = some (some (vI (fold F 0 nR)), g) := fun d => by
            rw [c_raced hnR (by omega) hu (by rw [u1.2 _ _ (by decide)]; exact er) (by rw [u1.2 813000010 0 (by decide), u1.2 814000010 0 (by decide)]; exact r5), hF, u1.2 813000010 0 (by decide), u1.2 814000010 0 (by decide), u1.2 812000010 0 (by decide), u1.2 815000010 0 (by decide)]
          rw [t_P_barred_0, eH, clI_ok, decide_eq_true c, itT, c_dayOf (by omega) o6 gO, clI_ok, rd_Book_outAt ob, ix_nI hi2, gO, dvI_ok (by decide), c_isBack (by omega), clI_ok, gB, hBi]
          rcases hcu with ⟨hb, eu⟩ | ⟨hb, eu⟩
          · rw [decide_eq_true hb, Bool.not_true, itF, cn, clI_ok, show (720 : Int32) = nI 720 from rfl, nI_mod (by omega) (by decide), show nI 720 = nI u from by rw [eu], cr, clI_ok, rd_Book_reaches ob, ix_nI hi2, u1.2 208000120 0 (by decide)]
          · rw [decide_eq_false hb, Bool.not_false, itT, c_minutesOf (by omega), clI_ok, cn, clI_ok, show (720 : Int32) = nI 720 from rfl, nI_mod (by omega) (by decide)]
            unfold durV
            rw [gB, gO, hBi, eu, cr, clI_ok, rd_Book_reaches ob, ix_nI hi2, u1.2 208000120 0 (by decide)]
        · refine r_M_barred _ _ _ _ (Sm.step (t' := 5) (lo' := [some (vR 900012 0), some (vI (nI i)), some (vI (nI t)), some (vI (nI (m / 720))), some (vI (nI (m % 720))), some (vI (nI u - 1)), some (vI 0), some (vI 0)]) (st' := []) (h' := f) ?_ ?_)
          · rw [t_M_barred_0, c_M_isHire (by omega) mh1, clI_ok, hx, itT, c_M_isTelling ml1, clI_ok, hy, itT, rd_M_toldBy ob, ix_nI hi2, mt1, if_pos (of_decide_eq_true td), eK, clV_ok, rd_M_outAt ob, ix_nI hi2, fO, dvI_ok (by decide), rd_M_outAt ob, ix_nI hi2, fO, dvI_ok (by decide), rd_M_backAt ob, ix_nI hi2, fB, hB2, show (720 : Int32) = nI 720 from rfl, nI_mod (by omega) (by decide), nI_div (by omega) (by decide)]
            rcases hmu with ⟨hb, eu⟩ | ⟨hb, eu⟩
            · rw [if_pos hb, eu]; rfl
            · rw [if_neg hb, rd_M_backAt ob, ix_nI hi2, fB, hB2, dvI_ok (by decide), ← eu]; rfl
          have fn : hI f 1383 0 0 = nI nN := by rw [uf.2 _ _ (by decide)]; exact emn
          have fr : hI f 1384 0 0 = nI nR := by rw [uf.2 _ _ (by decide)]; exact emr
          refine Sm.for (lo := fun k => [some (vR 900012 0), some (vI (nI i)), some (vI (nI t)), some (vI (nI (m / 720))), some (vI (nI (m % 720))), some (vI (nI u - 1)), some (vI (fold (orF (nestB (hI h 809000020 0) (hI h 810000020 0) (nI (m / 720))) (bitV (hI h 808000020 0))) 0 k)), some (vI (nI k))]) (hh := fun _ => f) nN (fun k hk => ?_) (Sm.step (t' := 8) (lo' := [some (vR 900012 0), some (vI (nI i)), some (vI (nI t)), some (vI (nI (m / 720))), some (vI (nI (m % 720))), some (vI (nI u - 1)), some (vI A), some (vI 0)]) (st' := []) (h' := f) ?_ ?_)
          · show _ = some (Sum.inl (5, [some (vR 900012 0), some (vI (nI i)), some (vI (nI t)), some (vI (nI (m / 720))), some (vI (nI (m % 720))), some (vI (nI u - 1)), some (vI (orF (nestB (hI h 809000020 0) (hI h 810000020 0) (nI (m / 720))) (bitV (hI h 808000020 0)) k (fold (orF (nestB (hI h 809000020 0) (hI h 810000020 0) (nI (m / 720))) (bitV (hI h 808000020 0))) 0 k))), some (vI (nI (k + 1)))], [], f))
            generalize fold (orF (nestB (hI h 809000020 0) (hI h 810000020 0) (nI (m / 720))) (bitV (hI h 808000020 0))) 0 k = acc
            have o2 : ¬ oob (nI k) 20 := oob_nI (by omega) (by decide)
            rw [t_M_barred_5, fn, if_neg (nI_ge hk (by omega)), rd_M_nestFrom o2, rd_M_nestTo o2, ix_nI (by omega), c_M_isIn, clI_ok, uf.2 1386000020 0 (by decide), uf.2 1387000020 0 (by decide), ← n2, ← n3, nI_1]
            cases e : inB (nI (m / 720)) (hI h 809000020 0 k) (hI h 810000020 0 k) with
            | false => rw [itF, orF_f (show nestB _ _ _ k = false from e)]
            | true => rw [itT, rd_M_nestReach o2, ix_nI (by omega), uf.2 1385000020 0 (by decide), ← n1, orF_t (show nestB _ _ _ k = true from e)]; rfl
          · rw [t_M_barred_5, fn, if_pos (nI_le (Nat.le_refl _) (by omega)), hA]
          refine Sm.for (lo := fun k => [some (vR 900012 0), some (vI (nI i)), some (vI (nI t)), some (vI (nI (m / 720))), some (vI (nI (m % 720))), some (vI (nI u - 1)), some (vI (fold F A k)), some (vI (nI k))]) (hh := fun _ => f) nR (fun k hk => ?_) (Sm.ret ?_)
          · show _ = some (Sum.inl (8, [some (vR 900012 0), some (vI (nI i)), some (vI (nI t)), some (vI (nI (m / 720))), some (vI (nI (m % 720))), some (vI (nI u - 1)), some (vI (F k (fold F A k))), some (vI (nI (k + 1)))], [], f))
            generalize fold F A k = acc
            have o2 : ¬ oob (nI k) 10 := oob_nI (by omega) (by decide)
            obtain ⟨a, b, h1, h2, h3, h4⟩ := r5 k hk
            rw [t_M_barred_8, fr, if_neg (nI_ge hk (by omega)), rd_M_regattaDay o2, ix_nI (by omega), uf.2 1388000010 0 (by decide), ← r1, nI_1, hF]
            by_cases c1 : hI h 812000010 0 k = nI (m / 720)
            · rw [if_pos c1, rd_M_regattaFrom o2, ix_nI (by omega), c_max, clI_ok, rd_M_regattaTo o2, ix_nI (by omega), uf.2 1389000010 0 (by decide), uf.2 1390000010 0 (by decide), ← r2, ← r3, h3, h4, c_min, clI_ok]
              have key : ((if nI b < nI u - 1 then nI b else nI u - 1) < (if nI (m % 720) < nI a then nI a else nI (m % 720))) ↔ ¬ (m % 720 < u ∧ a < u ∧ m % 720 ≤ b ∧ a ≤ b) := by
                have iu := nI_predI (u := u) (by omega)
                have ib := nI_toInt (n := b) (by omega)
                have ia := nI_toInt (n := a) (by omega)
                have is := nI_toInt (n := m % 720) (by omega)
                by_cases x1 : nI b < nI u - 1
                · rw [if_pos x1]
                  rw [Int32.lt_iff_toInt_lt] at x1
                  by_cases x2 : nI (m % 720) < nI a
                  · rw [if_pos x2, Int32.lt_iff_toInt_lt]; rw [Int32.lt_iff_toInt_lt] at x2; omega
                  · rw [if_neg x2, Int32.lt_iff_toInt_lt]; rw [Int32.lt_iff_toInt_lt] at x2; omega
                · rw [if_neg x1]
                  rw [Int32.lt_iff_toInt_lt] at x1
                  by_cases x2 : nI (m % 720) < nI a
                  · rw [if_pos x2, Int32.lt_iff_toInt_lt]; rw [Int32.lt_iff_toInt_lt] at x2; omega
                  · rw [if_neg x2, Int32.lt_iff_toInt_lt]; rw [Int32.lt_iff_toInt_lt] at x2; omega
              have kb : raceB (hI h 812000010 0) (hI h 813000010 0) (hI h 814000010 0) (nI (m / 720)) (m % 720) u k = decide (m % 720 < u ∧ a < u ∧ m % 720 ≤ b ∧ a ≤ b) := by
                unfold raceB
                rw [decide_eq_true c1, Bool.true_and, h3, h4, nI_toInt (by omega), nI_toInt (by omega), nI_toInt (by omega)]
                apply decide_eq_decide.mpr
                omega
              by_cases c2 : m % 720 < u ∧ a < u ∧ m % 720 ≤ b ∧ a ≤ b
              · rw [if_neg (fun z => key.mp z c2), rd_M_regattaSet o2, ix_nI (by omega), uf.2 1391000010 0 (by decide), ← r4, orF_t (by rw [kb]; exact decide_eq_true c2)]
              · rw [if_pos (key.mpr c2), orF_f (by rw [kb]; exact decide_eq_false c2)]
            · rw [if_neg c1, orF_f (by unfold raceB; rw [decide_eq_false c1]; exact Bool.false_and _)]
          · rw [t_M_barred_8, fr, if_pos (nI_le (Nat.le_refl _) (by omega)), rd_M_reaches ob, ix_nI hi2, uf.2 1344000120 0 (by decide), ← p1, hF, orF_fold]
      · refine ⟨vI (-1), g, g, r_P_barred _ _ _ _ (Sm.ret ?_), r_M_barred _ _ _ _ (Sm.ret ?_), u1, trivial⟩
        · rw [t_P_barred_0, eH, clI_ok, decide_eq_false c, itF]
        · rw [decide_eq_false (show ¬ i < cntW (hI h 211000400 0) t from c)] at td
          rw [t_M_barred_0, c_M_isHire (by omega) mh1, clI_ok, hx, itT, c_M_isTelling ml1, clI_ok, hy, itT, rd_M_toldBy ob, ix_nI hi2, mt1, if_neg (of_decide_eq_false td)]
end Bar

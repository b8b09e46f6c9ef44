/-! CALLS: guided, pay -/
section Guided
variable {L : Nat} {scr : Nat → Int32} {d : Nat}
theorem c_M_guides {h : MH} {n P : Nat} {pay : Nat → Nat} {W K pu : Nat → Int32} (hn : n ≤ 8) (hP : P ≤ 8) (en : hI h 1366 0 0 = nI n) (eP : hI h 1367 0 0 = nI P) (ep : ∀ k, k < P → hI h 1371000008 0 k = nI (pay k)) (hpay : ∀ k, pay k ≤ 999) (ew : hI h 1370000008 0 = W) (ek : hI h 1368000008 0 = K) (eu : hI h 1369000008 0 = pu) : ∃ f, E L scr (d + 3) 308 [vR 900012 0] h = some (none, f) ∧ Upd Scr h f ∧ (∀ k, k < P → hI f 1373000008 0 k = oI (chP n P pay W K pu k (mkP n P pay W K pu k))) ∧ hI f 1372002304 0 0 = nI (wF n P pay (okG W K) P 0) := by
  have p256 : 2 ^ n ≤ 256 := Nat.pow_le_pow_right (n := 2) (by decide) hn
  have p1 : 0 < 2 ^ n := Nat.two_pow_pos n
  obtain ⟨ro, eL, k2⟩ := lookLeft (L := L) (scr := scr) (d := d) (g := h) (n := n) (P := P) (pay := pay) (W := W) (K := K) hn hP en eP ep hpay ew ek
  obtain ⟨a, ha⟩ : ∃ a, a = withR h [(1372002304, 0, ro)] := ⟨_, rfl⟩
  rw [← ha] at eL
  have ua : Upd Scr h a := by
    rw [ha]
    exact withR_Upd (fun q hq => by
      rw [List.mem_singleton] at hq
      subst hq
      dsimp only
      decide)
  have aB : hI a 1372002304 0 = ro := by rw [ha, withR_hit]
  obtain ⟨V, hV⟩ : ∃ V : Nat → Int32, V = fun k => oI (chP n P pay W K pu k (mkP n P pay W K pu k)) := ⟨_, rfl⟩
  obtain ⟨b, hb⟩ : ∃ b : Nat → MH, b = fun k => withR a [(1373000008, 0, setF (hI a 1373000008 0) V k)] := ⟨_, rfl⟩
  have b0 : b 0 = a := by
    rw [hb]
    refine withR_id (fun q hq => ?_)
    rw [List.mem_singleton] at hq
    subst hq
    exact setF_0 _ V
  have ub : ∀ k, Upd Scr a (b k) := fun k => by
    rw [hb]
    exact withR_Upd (fun q hq => by
      rw [List.mem_singleton] at hq
      subst hq
      dsimp only
      decide)
  have uh : ∀ k, Upd Scr h (b k) := fun k => ua.tr (ub k)
  have bB : ∀ k, hI (b k) 1372002304 0 = ro := fun k => by
    rw [hb]
    show hI (withR a [(_, 0, _)]) 1372002304 0 = ro
    rw [withR_miss (by decide)]
    exact aB
  have bG : ∀ k, hI (b k) 1373000008 0 = setF (hI a 1373000008 0) V k := fun k => by rw [hb]; exact withR_hit
  have bs : ∀ k, sI (b k) 1373000008 0 k (V k) = b (k + 1) := fun k => by
    rw [hb]
    show sI (withR a [(_, 0, setF (hI a 1373000008 0) V k)]) 1373000008 0 k (V k) = withR a [(_, 0, setF (hI a 1373000008 0) V (k + 1))]
    rw [withR_set, setF_s]
  obtain ⟨lo, hlo⟩ : ∃ lo : Nat → List (Option MV), lo = fun k => match k with
    | 0 => [some (vR 900012 0), some (vI 0), some (vI 0), none, none]
    | j + 1 => [some (vR 900012 0), some (vI (nI (mkP n P pay W K pu (j + 1)))), some (vI (nI (j + 1))), some (vI (V j)), some (vI (nI n))] := ⟨_, rfl⟩
  have lo2 : ∀ k, ∃ z3 z4, lo k = [some (vR 900012 0), some (vI (nI (mkP n P pay W K pu k))), some (vI (nI k)), z3, z4] := fun k => by
    rw [hlo]
    cases k with
    | zero => exact ⟨_, _, rfl⟩
    | succ j => exact ⟨_, _, rfl⟩
  have lo3 : ∀ j, lo (j + 1) = [some (vR 900012 0), some (vI (nI (mkP n P pay W K pu (j + 1)))), some (vI (nI (j + 1))), some (vI (V j)), some (vI (nI n))] := fun j => by rw [hlo]
  refine ⟨b P, r_M_guides _ _ (Sm.step (t' := 1) (lo' := lo 0) (st' := []) (h' := b 0) (by rw [t_M_guides_0, eL, clV_ok, b0, hlo]) ?_), uh P, fun k hk => by rw [bG, setF_t hk, hV], by rw [bB]; exact k2 0 0 (Nat.zero_le _) p1⟩
  refine Sm.iter (lo := lo) (hh := b) P (fun p hp kk => ?_) (Sm.ret ?_)
  · obtain ⟨z3, z4, ez⟩ := lo2 p
    rw [ez]
    obtain ⟨m, hmm⟩ : ∃ m, m = mkP n P pay W K pu p := ⟨_, rfl⟩
    have hm : m < 2 ^ n := by rw [hmm]; exact mkP_lt p
    obtain ⟨C, hC⟩ : ∃ C, C = chG (fun g => okG W K g p m) (fun g => decide (100000 + pay p + wF n P pay (okG W K) (P - (p + 1)) (m ||| 2 ^ g) = wF n P pay (okG W K) (P - p) m)) pu := ⟨_, rfl⟩
    have eC : V p = oI (C n) := by rw [hC, hmm, hV]; rfl
    have fn : hI (b p) 1366 0 0 = nI n := by rw [(uh p).2 _ _ (by decide)]; exact en
    have fw : hI (b p) 1370000008 0 = W := by rw [(uh p).2 _ _ (by decide)]; exact ew
    have fk : hI (b p) 1368000008 0 = K := by rw [(uh p).2 _ _ (by decide)]; exact ek
    have fu : hI (b p) 1369000008 0 = pu := by rw [(uh p).2 _ _ (by decide)]; exact eu
    have fp : hI (b p) 1371000008 0 p = nI (pay p) := by rw [(uh p).2 _ _ (by decide)]; exact ep p hp
    rw [← hmm]
    refine Sm.step (t' := 2) (lo' := [some (vR 900012 0), some (vI (nI m)), some (vI (nI p)), some (vI (oI (C 0))), some (vI 0)]) (st' := []) (h' := b p) ?_ ?_
    · rw [t_M_guides_1, (uh p).2 1367 0 (by decide), eP, if_neg (nI_ge hp (by omega)), hC]; rfl
    refine Sm.for (lo := fun g => [some (vR 900012 0), some (vI (nI m)), some (vI (nI p)), some (vI (oI (C g))), some (vI (nI g))]) (hh := fun _ => b p) n (fun g hg => ?_) (Sm.step (t' := 1) (lo' := lo (p + 1)) (st' := []) (h' := b (p + 1)) ?_ kk)
    · have hx : ∀ x, C g = some x → x < g := fun x hx => by rw [hC] at hx; exact (chG_some hx).1
      rw [t_M_guides_2, fn, if_neg (nI_ge hg (by omega)), c_M_has, clI_ok, nI_1]
      cases eb : bitB (nI m) (nI g) with
      | true =>
        have e2 : C (g + 1) = C g := by rw [hC]; exact chG_f (by show (okG W K g p m && _) = false; unfold okG; rw [eb]; rfl)
        rw [itT, e2]
      | false =>
        rw [itF, c_M_maySing (by omega) (by omega), clI_ok, fw, fk]
        by_cases c : (W p &&& (K g ^^^ (-1))) = 0
        · have e : okG W K g p m = true := by unfold okG; rw [eb, decide_eq_true c]; rfl
          have ho := or_lt hm hg
          have g1 := wF_good (n := n) (P := P) (ok := okG W K) hpay (P - (p + 1)) (m ||| 2 ^ g)
          have g0 := wF_good (n := n) (P := P) (ok := okG W K) hpay (P - p) m
          have l1 := (conv_le8 g1 (by omega)).2
          have l0 := (conv_le8 g0 (by omega)).2
          have b3 := hpay p
          rw [decide_eq_true c, itT, c_leftBy (by omega) (by omega) (by omega) (by rw [bB]; exact k2 (p + 1) _ (by omega) ho) fp, clI_ok, show (256 : Int32) = nI 256 from rfl, nI_mul, nI_add, rd_M_bestLeft (oob_nI (by omega) (by decide)), ix_nI (by omega), bB, k2 p m (by omega) hm]
          by_cases q : 100000 + pay p + wF n P pay (okG W K) (P - (p + 1)) (m ||| 2 ^ g) = wF n P pay (okG W K) (P - p) m
          · have e2 : C (g + 1) = (match C g with
                | none => some g
                | some x => if pu x ≤ pu g then some x else some g) := by rw [hC]; exact chG_t (by show (okG W K g p m && decide _) = true; rw [e, decide_eq_true q]; rfl)
            rw [if_pos (congrArg nI q), e2]
            cases ec : C g with
            | none => rw [if_pos (show oI none = -1 from rfl)]; rfl
            | some x =>
              have hxg := hx x ec
              rw [if_neg (show ¬ oI (some x) = -1 from nI_ne1 (by omega)), rd_M_guideEarned (oob_nI (by omega) (by decide)), rd_M_guideEarned (show ¬ oob (oI (some x)) 8 from oob_nI (by omega) (by decide)), ix_nI (by omega), show ix (oI (some x)) = x from ix_nI (by omega), fu]
              by_cases q2 : pu x ≤ pu g
              · rw [if_pos q2]
                show _ = some (Sum.inl (2, [_, _, _, some (vI (oI (if pu x ≤ pu g then some x else some g))), _], [], b p))
                rw [if_pos q2]
              · rw [if_neg q2]
                show _ = some (Sum.inl (2, [_, _, _, some (vI (oI (if pu x ≤ pu g then some x else some g))), _], [], b p))
                rw [if_neg q2]; rfl
          · have e2 : C (g + 1) = C g := by rw [hC]; exact chG_f (by show (okG W K g p m && decide _) = false; rw [e, decide_eq_false q]; rfl)
            rw [if_neg (fun z => q ((nI_eq (by omega) (by omega)).mp z)), e2]
        · have e2 : C (g + 1) = C g := by rw [hC]; exact chG_f (by show (okG W K g p m && _) = false; unfold okG; rw [eb, decide_eq_false c]; rfl)
          rw [decide_eq_false c, itF, e2]
    · rw [t_M_guides_2, fn, if_pos (nI_le (Nat.le_refl _) (by omega)), wr_M_guideOf (oob_nI (by omega) (by decide)), ix_nI (by omega), ← eC, bs, nI_1, lo3]
      have eV : V p = oI (chP n P pay W K pu p m) := by rw [hV, hmm]
      cases e : chP n P pay W K pu p m with
      | none =>
        have m1 : mkP n P pay W K pu (p + 1) = m := by show (match chP n P pay W K pu p (mkP n P pay W K pu p) with | none => _ | some g => _) = _; rw [← hmm, e]
        rw [if_pos (show V p = -1 by rw [eV, e]; rfl), Int32.or_zero, m1]
      | some x =>
        have hx : x < n := (chG_some e).1
        have m1 : mkP n P pay W K pu (p + 1) = m ||| 2 ^ x := by show (match chP n P pay W K pu p (mkP n P pay W K pu p) with | none => _ | some g => _) = _; rw [← hmm, e]
        have vx : V p = nI x := by rw [eV, e]; rfl
        rw [if_neg (show ¬ V p = -1 by rw [vx]; exact nI_ne1 (by omega)), vx, or_nI (by omega) (by omega), m1]
  · obtain ⟨z3, z4, ez⟩ := lo2 P
    rw [ez, t_M_guides_1, (uh P).2 1367 0 (by decide), eP, if_pos (nI_le (Nat.le_refl _) (by omega))]
theorem call_guided (x : Int32) (h : MH) (qg : RGuide h) (qp : RParty h) : Both L scr (d + 40) Scr (fun _ => True) 160 309 [vR 900011 0, vI x] [vR 900012 0, vI x] h := by
  obtain ⟨g1, g2, n, hn, en, em⟩ := qg
  obtain ⟨p1, p2, P, hP, eP, emP, p3⟩ := qp
  obtain ⟨pay, hpay⟩ : ∃ pay : Nat → Nat, pay = fun k => nn (hI h 505000008 0 k) := ⟨_, rfl⟩
  have hp : ∀ k, hI h 505000008 0 k = nI (pay k) ∧ pay k ≤ 999 := fun k => by rw [hpay]; exact nn_ex (by decide) (p3 k)
  obtain ⟨W, hW⟩ : ∃ W, W = hI h 504000008 0 := ⟨_, rfl⟩
  obtain ⟨K, hK⟩ : ∃ K, K = hI h 501000008 0 := ⟨_, rfl⟩
  obtain ⟨pu, hpu⟩ : ∃ pu, pu = hI h 502000008 0 := ⟨_, rfl⟩
  obtain ⟨f, eF, uF, fG, fS, fC⟩ := c_solve (L := L) (scr := scr) (d := d + 35) (h := h) (n := n) (P := P) (pay := pay) (W := W) (K := K) (pu := pu) hn hP en eP (fun k _ => (hp k).1) (fun k => (hp k).2) hW.symm hK.symm hpu.symm
  obtain ⟨t, eT, uT, tG, tB⟩ := c_M_guides (L := L) (scr := scr) (d := d + 36) (h := f) (n := n) (P := P) (pay := pay) (W := W) (K := K) (pu := pu) hn hP (by rw [uF.2 _ _ (by decide)]; exact em) (by rw [uF.2 _ _ (by decide)]; exact emP) (fun k _ => by rw [uF.2 _ _ (by decide), show hI h 1371000008 0 = hI h 505000008 0 from p2.symm]; exact (hp k).1) (fun k => (hp k).2) (by rw [uF.2 _ _ (by decide), hW]; exact p1.symm) (by rw [uF.2 _ _ (by decide), hK]; exact g1.symm) (by rw [uF.2 _ _ (by decide), hpu]; exact g2.symm)
  have pe := path_end (n := n) (P := P) (pay := pay) (W := W) (K := K) (pu := pu) hP (fun k => (hp k).2)
  have wg := wF_good (n := n) (P := P) (ok := okG W K) (fun k => (hp k).2) P 0
  have wl := (conv_le8 wg hP).2
  have ePf : hI f 1367 0 0 = nI P := by rw [uF.2 _ _ (by decide)]; exact emP
  cases h01 : inB x 0 1 with
  | true =>
    have l10 : x < 10 := by
      have hh := of_decide_eq_true (show decide (0 ≤ x ∧ x ≤ 1) = true from h01)
      rw [Int32.le_iff_toInt_le, Int32.le_iff_toInt_le] at hh
      rw [Int32.lt_iff_toInt_lt]
      have t1 : (1 : Int32).toInt = 1 := rfl
      have t2 : (10 : Int32).toInt = 10 := rfl
      omega
    by_cases x0 : x = 0
    · refine ⟨vI (nI (svP n P pay W K pu P)), f, t, r_P_guided _ _ _ (Sm.step (t' := 3) (lo' := [some (vR 900011 0), some (vI x), some (vI 0)]) (st' := []) (h' := h) ?_ (Sm.ret ?_)), r_M_guided _ _ _ (Sm.ret ?_), uF.tr uT, trivial⟩
      · rw [t_P_guided_0, if_pos l10, c_P_within, clI_ok, h01, itT]
      · rw [t_P_guided_3, eF, clV_ok, if_pos rfl, if_pos x0, fS]
      · rw [t_M_guided_0, c_M_isIn, clI_ok, h01, itT, eT, clV_ok, if_pos x0, rd_M_bestLeft (show ¬ oob 0 2304 by decide), dvI_ok (by decide), show ix 0 = 0 from rfl, tB, show (100000 : Int32) = nI 100000 from rfl, nI_div (by omega) (by decide), pe.1]
    · have x1 : x = 1 := by
        have hh := of_decide_eq_true (show decide (0 ≤ x ∧ x ≤ 1) = true from h01)
        rw [Int32.le_iff_toInt_le, Int32.le_iff_toInt_le] at hh
        have t1 : (1 : Int32).toInt = 1 := rfl
        have t2 : (0 : Int32).toInt = 0 := rfl
        by_cases c : x.toInt < 1
        · exact absurd (Int32.toInt_inj.mp (by omega)) x0
        · exact Int32.toInt_inj.mp (by omega)
      refine ⟨vI (nI (cnP n P pay W K pu P)), f, t, r_P_guided _ _ _ (Sm.step (t' := 3) (lo' := [some (vR 900011 0), some (vI x), some (vI 0)]) (st' := []) (h' := h) ?_ (Sm.ret ?_)), r_M_guided _ _ _ (Sm.ret ?_), uF.tr uT, trivial⟩
      · rw [t_P_guided_0, if_pos l10, c_P_within, clI_ok, h01, itT]
      · rw [t_P_guided_3, eF, clV_ok, if_pos rfl, if_neg x0, fC]
      · rw [t_M_guided_0, c_M_isIn, clI_ok, h01, itT, eT, clV_ok, if_neg x0, if_pos x1, rd_M_bestLeft (show ¬ oob 0 2304 by decide), dvI_ok (by decide), show ix 0 = 0 from rfl, tB, show (100000 : Int32) = nI 100000 from rfl, nI_mod (by omega) (by decide), pe.2]
  | false =>
    by_cases l10 : x < 10
    · have h9 : inB x 10 (9 + nI P) = false := decide_eq_false (fun z => nlt_i.mpr z.1 l10)
      refine both0 (vI (-1)) (r_P_guided _ _ _ (Sm.ret ?_)) (r_M_guided _ _ _ (Sm.ret ?_)) trivial
      · rw [t_P_guided_0, if_pos l10, c_P_within, clI_ok, h01, itF, if_pos rfl]
      · rw [t_M_guided_0, c_M_isIn, clI_ok, h01, itF, emP, c_M_isIn, clI_ok, h9, itF]
    · have x10 := nlt_i.mp l10
      rw [Int32.le_iff_toInt_le] at x10
      have t10 : (10 : Int32).toInt = 10 := rfl
      obtain ⟨v, hv, rfl⟩ := nI_of (x := x) (by rw [Int32.lt_iff_toInt_lt]; have : (0 : Int32).toInt = 0 := rfl; omega)
      rw [nI_toInt hv] at x10
      have v10 : 10 ≤ v := by omega
      have e10 : nI v - 10 = nI (v - 10) := nI_sub (b := 10) v10
      have e9 : 9 + nI P = nI (9 + P) := nI_add 9 P
      by_cases c : P ≤ v - 10
      · have h9 : inB (nI v) 10 (nI (9 + P)) = false := decide_eq_false (fun z => by
          have := (nI_leI hv (by omega)).mp z.2
          omega)
        refine both0 (vI (-1)) (r_P_guided _ _ _ (Sm.ret ?_)) (r_M_guided _ _ _ (Sm.ret ?_)) trivial
        · rw [t_P_guided_0, if_neg l10, eP, e10, if_pos (nI_le c (by omega)), c_P_within, clI_ok, h01, itF, if_pos rfl]
        · rw [t_M_guided_0, c_M_isIn, clI_ok, h01, itF, emP, e9, c_M_isIn, clI_ok, h9, itF]
      · have h9 : inB (nI v) 10 (nI (9 + P)) = true := decide_eq_true ⟨nlt_i.mp l10, nI_le (by omega) (by omega)⟩
        have ov : ¬ oob (nI (v - 10)) 8 := oob_nI (by omega) (by decide)
        refine ⟨vI (oI (chP n P pay W K pu (v - 10) (mkP n P pay W K pu (v - 10)))), f, t, r_P_guided _ _ _ (Sm.step (t' := 3) (lo' := [some (vR 900011 0), some (vI (nI v)), some (vI 1)]) (st' := []) (h' := h) ?_ (Sm.ret ?_)), r_M_guided _ _ _ (Sm.ret ?_), uF.tr uT, trivial⟩
        · rw [t_P_guided_0, if_neg l10, eP, e10, if_neg (nI_ge (by omega) (by omega)), c_P_within, clI_ok, h01, itF, if_neg i0n1]
        · rw [t_P_guided_3, eF, clV_ok, if_neg i0n1, e10, rd_Guides_guideOf ov, ix_nI (by omega), fG _ (by omega)]
        · rw [t_M_guided_0, c_M_isIn, clI_ok, h01, itF, ePf, e9, c_M_isIn, clI_ok, h9, itT, eT, clV_ok, if_neg (show ¬ nI v = 0 from fun z => by have := (nI_eq (b := 0) hv (by decide)).mp z; omega), if_neg (show ¬ nI v = 1 from fun z => by have := (nI_eq (b := 1) hv (by decide)).mp z; omega), e10, rd_M_guideOf ov, ix_nI (by omega), tG _ (by omega)]
end Guided

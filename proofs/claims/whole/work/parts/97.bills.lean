/-! CALLS: bill, takings, cost -/
section Bills
variable {L : Nat} {scr : Nat → Int32} {d : Nat}
theorem look_ne {z : Int32} {k : Nat} (hk : k < 2 ^ 31) (n : ∀ j, j ≤ 8 → z ≠ nI j) (h : k ≤ 8) : ¬ z = nI k := n k h
theorem sp_ok {h g : MH} {ns : Nat} (qs : RSpell h) (en : hI h 801 0 0 = nI ns) (hns : ns ≤ 40) (u : Upd Scr h g) : SpOk g ns := by
  obtain ⟨-, -, -, ns', hns', cs, -, k⟩ := qs
  have e : ns' = ns := (nI_eq (by omega) (by omega)).mp (by rw [← cs, en])
  subst e
  refine ⟨by rw [u.2 _ _ (by decide)]; exact en, hns, fun i hi => ?_⟩
  obtain ⟨dy, a, b, h1, h2, h3, e1, e2, e3⟩ := k i hi
  exact ⟨dy, a, b, h1, h2, h3, by rw [u.2 _ _ (by decide)]; exact e1, by rw [u.2 _ _ (by decide)]; exact e2, by rw [u.2 _ _ (by decide)]; exact e3⟩
theorem rainY_scr {h g : MH} {D ns : Nat} (u : Upd Scr h g) : wetN g D ns = wetN h D ns := by
  unfold wetN rainY
  rw [u.2 802000040 0 (by decide), u.2 803000040 0 (by decide), u.2 804000040 0 (by decide)]
theorem call_bill (x y z : Int32) (h : MH) (q : RHire h) (qb : RBoat h) (qw : RWater h) (qs : RSpell h) (qd : RWeed h) (qr : RRule h) (qn : RNum h) (ql : RLaw h) : Both L scr (d + 40) Scr (fun _ => True) 141 274 [vR 900011 0, vI x, vI y, vI z] [vR 900012 0, vI x, vI y, vI z] h := by
  obtain ⟨q1, q2, q3, q4, q5, n, T, nb, hn, hT, hnb, ch, mh, cl, ml, bn, tk, hk, hsep⟩ := id q
  cases hx : ixB x n with
  | false =>
    refine both0 (vI (-1000000)) (r_P_bill _ _ _ _ _ (Sm.ret ?_)) (r_M_bill _ _ _ _ _ (Sm.ret ?_)) trivial
    · have e : E L scr (d + 39) 192 [vR 900011 0, vI x, vI y] h = some (some (vI 0), h) := by
        refine r_P_seesHire _ _ _ _ (Sm.ret ?_)
        rw [t_P_seesHire_0, c_P_isHire ch, clI_ok, hx, itF, rtZ0]
      rw [t_P_bill_0, e, clI_ok, if_pos rfl]
    · rw [t_M_bill_0, c_M_isHire (by omega) mh, clI_ok, hx, itF]
  | true =>
    cases hy : inB y 0 (nI T) with
    | false =>
      refine both0 (vI (-1000000)) (r_P_bill _ _ _ _ _ (Sm.ret ?_)) (r_M_bill _ _ _ _ _ (Sm.ret ?_)) trivial
      · have e : E L scr (d + 39) 192 [vR 900011 0, vI x, vI y] h = some (some (vI 0), h) := by
          refine r_P_seesHire _ _ _ _ (Sm.ret ?_)
          rw [t_P_seesHire_0, c_P_isHire ch, clI_ok, hx, itT, c_P_isTelling cl, clI_ok, hy, itF, rtZ0]
        rw [t_P_bill_0, e, clI_ok, if_pos rfl]
      · rw [t_M_bill_0, c_M_isHire (by omega) mh, clI_ok, hx, itT, c_M_isTelling ml, clI_ok, hy, itF]
    | true =>
      obtain ⟨t, ht, rfl⟩ := inB_T (by omega) hy
      obtain ⟨i, hi, hi2, rfl⟩ := ixB_t hx
      obtain ⟨H, m, h1, sw, ca, cb, qq, u, eS, v1, hmn, -, hH, no, cc, kM⟩ := bill_ctx (L := L) (scr := scr) (d := d + 34) (e := d + 35) q qb hT cl ht hn ch
      have eH : E L scr (d + 39) 192 [vR 900011 0, vI (nI i), vI (nI t)] h = some (some (vI (zb (decide (i < m)))), h1) := by
        refine r_P_seesHire _ _ _ _ (Sm.ret ?_)
        rw [t_P_seesHire_0, c_P_isHire ch, clI_ok, hx, itT, c_P_isTelling cl, clI_ok, hy, itT, eS, clV_ok, (cc h1 v1).1.1]
        by_cases c : i < m
        · rw [if_neg (nI_ge c (by omega)), decide_eq_true c, rtZ1]; rfl
        · rw [if_pos (nI_le (by omega) (by omega)), decide_eq_false c, rtZ0]; rfl
      by_cases hb : i < m ∧ H.bk i = true
      · obtain ⟨him, hb⟩ := hb
        obtain ⟨hoi, -⟩ := hH i hi
        obtain ⟨lo, f, R, s, p, φ, hf, ld0⟩ := law_at (L := L) (scr := scr) qr qn ql (D := H.o i / 720) (by omega)
        have ld : LawD L scr h (H.o i / 720) lo f R s p φ := ⟨hf, ld0⟩
        obtain ⟨-, -, -, ns, hns, cs, -⟩ := id qs
        obtain ⟨h2, eW, uW, wW⟩ := c_countWet (L := L) (scr := scr) (d := d + 37) (sp_ok qs cs hns v1.1) (show H.o i / 720 < 100 by omega)
        have v2 : VC h h1 h2 := v1.up uW (by decide) (by decide)
        rw [rainY_scr v1.1] at wW
        obtain ⟨h3, eB, uB, B⟩ := hire_bill (L := L) (scr := scr) (d := d + 31) cc no him hb ld hns cs v2 wW
        have v3 : VC h h1 h3 := v2.up uB (by decide) (by decide)
        obtain ⟨g1, eK, vM1, cm⟩ := kM h3 v3.1
        obtain ⟨a1, a2, a3, a4, a5, ⟨g2, a6, w6⟩, a7, a8, a9, a0⟩ := hire_M (d := d + 31) cm no qw qs qd him hb ld hns cs vM1
        have vM2 : VM h g1 g2 := vM1.up w6 (by decide) (by decide)
        obtain ⟨-, -, -, -, -, -, b7, -, -, -⟩ := hire_M (d := d + 31) cm no qw qs qd him hb ld hns cs vM2
        obtain ⟨g3, e3, w3⟩ := hire_owed (d := d + 30) cm no qw qs qd him hb ld hns cs vM1
        have mk := (cm g1 vM1).1
        have mb := (mk_mi mk him hb).2.1
        have prl : PRn h H lo f R s p i (FRn H m f i) ≤ 7182810 := pr_le2 hf bz_le mb
        have a5 := a5 _ prl (-1) (fun _ => false) (Or.inl ⟨rfl, fun _ => rfl⟩)
        have a3 := a3 (FRn H m f i) (Nat.min_le_left _ _)
        have isB : E L scr (d + 39) 110 [vR 900010 0, vI (nI i)] h1 = some (some (vI (zb true)), h1) := by rw [c_isBackH (cc h1 v1).1 him, hb]
        have isM : E L scr (d + 39) 247 [vR 900012 0, vI (nI i)] g1 = some (some (vI (zb true)), g1) := by rw [c_M_isBackH mk hi, decide_eq_true him, hb]; rfl
        have preC : dn L scr (E L scr (d + 39)) B_P_bill C_P_bill 0 [some (vR 900011 0), some (vI (nI i)), some (vI (nI t)), some (vI z), none] [] h = clI (E L scr (d + 39) 8 [vR 900000 0, vI z] h3) (fun x12 h11 => some (.inr (some (vI x12), h11))) := by
          rw [t_P_bill_0, eH, clI_ok, decide_eq_true him, if_neg (show ¬ zb true = 0 by decide), isB, clI_ok, if_neg (show ¬ zb true = 0 by decide), c_dayOfH (cc h1 v1).1 him, clI_ok, eW, clV_ok, (ld0 h2 v2.1).1, clR_ok, eB, clV_ok]
        have preM : dn L scr (E L scr (d + 39)) B_M_bill C_M_bill 0 [some (vR 900012 0), some (vI (nI i)), some (vI (nI t)), some (vI z)] [] h3 = _ := t_M_bill_0 ..
        rw [c_M_isHire (n := n) (by omega) (by rw [v3.1.2 _ _ (by decide)]; exact mh), clI_ok, hx, itT, c_M_isTelling (n := T) (by rw [v3.1.2 _ _ (by decide)]; exact ml), clI_ok, hy, itT, eK, clV_ok, isM, clI_ok, if_neg (show ¬ zb true = 0 by decide)] at preM
        obtain ⟨B0, B1, B3, B4, B5, B6, B7, B8⟩ := id B
        have go : ∀ (rv : Int32) (gg : MH), Upd Scr h gg → dn L scr (E L scr (d + 38)) B_Bill_look C_Bill_look 0 [some (vR 900000 0), some (vI z)] [] h3 = some (.inr (some (vI rv), h3)) → dn L scr (E L scr (d + 39)) B_M_bill C_M_bill 0 [some (vR 900012 0), some (vI (nI i)), some (vI (nI t)), some (vI z)] [] h3 = some (.inr (some (vI rv), gg)) → Both L scr (d + 40) Scr (fun _ => True) 141 274 [vR 900011 0, vI (nI i), vI (nI t), vI z] [vR 900012 0, vI (nI i), vI (nI t), vI z] h := fun rv gg ug e1 e2 => ⟨vI rv, h3, gg, r_P_bill _ _ _ _ _ (Sm.ret (by rw [preC, r_Bill_look _ _ _ (Sm.ret e1), clI_ok])), r_M_bill _ _ _ _ _ (Sm.ret e2), ug, trivial⟩
        have u1 := vM1.1
        by_cases c0 : z = 0
        · exact go _ g1 u1 (by rw [t_Bill_look_0, if_pos c0, B0]) (by rw [preM, if_pos c0, a1, clI_ok])
        by_cases c1 : z = 1
        · exact go _ g1 u1 (by rw [t_Bill_look_0, if_neg c0, if_pos c1, B1]) (by rw [preM, if_neg c0, if_pos c1, a2, clI_ok])
        by_cases c2 : z = 2
        · exact go _ g1 u1 (by rw [t_Bill_look_0, if_neg c0, if_neg c1, if_pos c2, B3]) (by rw [preM, if_neg c0, if_neg c1, if_pos c2, a2, clI_ok, a3, clI_ok])
        by_cases c3 : z = 3
        · exact go _ g1 u1 (by rw [t_Bill_look_0, if_neg c0, if_neg c1, if_neg c2, if_pos c3, B4]) (by rw [preM, if_neg c0, if_neg c1, if_neg c2, if_pos c3, a4, clI_ok])
        by_cases c4 : z = 4
        · exact go _ g1 u1 (by rw [t_Bill_look_0, if_neg c0, if_neg c1, if_neg c2, if_neg c3, if_pos c4, B5]) (by rw [preM, if_neg c0, if_neg c1, if_neg c2, if_neg c3, if_pos c4, a2, clI_ok, a3, clI_ok, a5, clI_ok])
        by_cases c5 : z = 5
        · exact go _ g2 vM2.1 (by rw [t_Bill_look_0, if_neg c0, if_neg c1, if_neg c2, if_neg c3, if_neg c4, if_pos c5, B6]) (by rw [preM, if_neg c0, if_neg c1, if_neg c2, if_neg c3, if_neg c4, if_pos c5, a6, clI_ok])
        by_cases c6 : z = 6
        · exact go _ g3 (vM1.up w3 (by decide) (by decide)).1 (by rw [t_Bill_look_0, if_neg c0, if_neg c1, if_neg c2, if_neg c3, if_neg c4, if_neg c5, if_pos c6, c_owed B, clI_ok]) (by rw [preM, if_neg c0, if_neg c1, if_neg c2, if_neg c3, if_neg c4, if_neg c5, if_pos c6, e3, clI_ok])
        by_cases c7 : z = 7
        · exact go _ g2 vM2.1 (by rw [t_Bill_look_0, if_neg c0, if_neg c1, if_neg c2, if_neg c3, if_neg c4, if_neg c5, if_neg c6, if_pos c7, B8, B4, B6, B7, c_max, clI_ok]) (by rw [preM, if_neg c0, if_neg c1, if_neg c2, if_neg c3, if_neg c4, if_neg c5, if_neg c6, if_pos c7, a8, clI_ok, a9, clI_ok, show (8 : Int32) = nI 8 from rfl, nI_add, a0, clI_ok, a4, clI_ok, a6, clI_ok, b7, clI_ok, c_max, clI_ok])
        by_cases c8 : z = 8
        · exact go _ g1 u1 (by rw [t_Bill_look_0, if_neg c0, if_neg c1, if_neg c2, if_neg c3, if_neg c4, if_neg c5, if_neg c6, if_neg c7, if_pos c8, B7]) (by rw [preM, if_neg c0, if_neg c1, if_neg c2, if_neg c3, if_neg c4, if_neg c5, if_neg c6, if_neg c7, if_pos c8, a7, clI_ok])
        · exact go (-1000000) g1 u1 (by rw [t_Bill_look_0, if_neg c0, if_neg c1, if_neg c2, if_neg c3, if_neg c4, if_neg c5, if_neg c6, if_neg c7, if_neg c8]) (by rw [preM, if_neg c0, if_neg c1, if_neg c2, if_neg c3, if_neg c4, if_neg c5, if_neg c6, if_neg c7, if_neg c8])
      · obtain ⟨g1, eK, vM1, cm⟩ := kM h1 v1.1
        have mk := (cm g1 vM1).1
        have isM : E L scr (d + 39) 247 [vR 900012 0, vI (nI i)] g1 = some (some (vI (zb false)), g1) := by
          rw [c_M_isBackH mk hi]
          by_cases c : i < m
          · cases e : H.bk i with
            | true => exact absurd ⟨c, e⟩ hb
            | false => rw [Bool.and_false]
          · rw [decide_eq_false c, Bool.false_and]
        refine ⟨vI (-1000000), h1, g1, r_P_bill _ _ _ _ _ (Sm.ret ?_), r_M_bill _ _ _ _ _ (Sm.ret ?_), vM1.1, trivial⟩
        · rw [t_P_bill_0, eH, clI_ok]
          by_cases c : i < m
          · rw [decide_eq_true c, if_neg (show ¬ zb true = 0 by decide), c_isBackH (cc h1 v1).1 c, clI_ok]
            cases e : H.bk i with
            | true => exact absurd ⟨c, e⟩ hb
            | false => rw [if_pos (show zb false = 0 from rfl)]
          · rw [decide_eq_false c, if_pos (show zb false = 0 from rfl)]
        · rw [t_M_bill_0, c_M_isHire (n := n) (by omega) (by rw [v1.1.2 _ _ (by decide)]; exact mh), clI_ok, hx, itT, c_M_isTelling (n := T) (by rw [v1.1.2 _ _ (by decide)]; exact ml), clI_ok, hy, itT, eK, clV_ok, isM, clI_ok, if_pos (show zb false = 0 from rfl)]
end Bills

/-! CALLS over what is known: back, mend, hire, pass, pole, known, outs, worn -/
theorem told_dec {bo wo oa bk tb dd : Nat → Int32} {n t T nb i : Nat} (hT : T ≤ 400) (ht : t ≤ T) (hh : HiresOk bo wo oa bk tb dd n T nb) (hi : i < n) : decide (tb i ≤ nI t) = decide (i < cntW dd t) := by
  obtain ⟨k, h1, h2, h3⟩ := told_iff hT hh hi
  apply decide_eq_decide.mpr
  rw [h1, nI_leI (by omega) (by omega)]
  exact h3 t ht
theorem out_eq {oa bo B B2 tb : Nat → Int32} {x : Int32} {m n t : Nat} (hm : m ≤ n) (ht : ∀ i, i < n → decide (tb i ≤ nI t) = decide (i < m)) (hB : ∀ i, i < m → B i = B2 i) : fold (outF (fun i => decide (tb i ≤ nI t) && awayB oa B2 x i) bo) 0 n = fold (outF (awayB oa B x) bo) 0 m := by
  rw [fold_trunc hm (fun k h1 h2 y => outF_f (by show (decide (tb k ≤ nI t) && _) = false; rw [ht k h2, decide_eq_false (by omega)]; rfl))]
  refine fold_congr (fun k hk y => ?_)
  have e : (decide (tb k ≤ nI t) && awayB oa B2 x k) = awayB oa B x k := by
    rw [ht k (by omega), decide_eq_true hk, Bool.true_and]
    unfold awayB
    rw [hB k hk]
  cases hb : awayB oa B x k with
  | true => rw [outF_t hb, outF_t (by show (decide (tb k ≤ nI t) && awayB oa B2 x k) = true; rw [e]; exact hb)]
  | false => rw [outF_f hb, outF_f (by show (decide (tb k ≤ nI t) && awayB oa B2 x k) = false; rw [e]; exact hb)]
theorem nI_ne1 {k : Nat} (h : k < 2 ^ 31) : nI k ≠ -1 := by
  intro z
  have : (nI k).toInt = (-1 : Int32).toInt := by rw [z]
  rw [nI_toInt h] at this
  exact absurd this (by show ¬ ((k : Int) = -1); omega)
section Seen
variable {L : Nat} {scr : Nat → Int32} {d : Nat}
/-- the reference's reading of what is known, at a heap whose rows of tellings are h's -/
theorem kn_g {h g : MH} (q : RHire h) {t T n : Nat} (hT : T ≤ 400) (cl : hI h 210 0 0 = nI T) (ht : t ≤ T) (hn : n ≤ 120) (ch : hI h 202 0 0 = nI n) (a : ∀ r ∈ SHire, hI g r.1 r.2 = hI h r.1 r.2) : ∃ B S C D : Nat → Int32, E L scr (d + 1) 245 [vR 900012 0, vI (nI t)] g = some (none, withR g (knL g B S C D (nI t))) ∧ ∀ i, i < n → B i = bkS h t i ∧ S i = swS h t i ∧ C i = tkS h t i ∧ D i = brS h t i := by
  obtain ⟨q1, q2, q3, q4, q5, n', t', nb', hn', ht', hnb', ch', mh, cl', ml, bn, tk, hk, hsep⟩ := q
  have et : t' = T := (nI_eq (by omega) (by omega)).mp (by rw [← cl', cl])
  have en2 : n' = n := (nI_eq (by omega) (by omega)).mp (by rw [← ch', ch])
  subst et; subst en2
  exact knows_at hT ht hn (by rw [a (1336, 0) (by decide)]; exact mh) (a (1346000401, 0) (by decide)) (a (1347000401, 0) (by decide)) (a (1348000401, 0) (by decide)) (a (1349000401, 0) (by decide)) tk
theorem kn_gM {h g : MH} (q : RHire h) {t T n : Nat} (hT : T ≤ 400) (cl : hI h 210 0 0 = nI T) (ht : t ≤ T) (hn : n ≤ 120) (ch : hI h 202 0 0 = nI n) (a1 : hI g 1336 0 = hI h 1336 0) (a2 : hI g 1346000401 0 = hI h 1346000401 0) (a3 : hI g 1347000401 0 = hI h 1347000401 0) (a4 : hI g 1348000401 0 = hI h 1348000401 0) (a5 : hI g 1349000401 0 = hI h 1349000401 0) : ∃ B S C D : Nat → Int32, E L scr (d + 1) 245 [vR 900012 0, vI (nI t)] g = some (none, withR g (knL g B S C D (nI t))) ∧ ∀ i, i < n → B i = bkS h t i ∧ S i = swS h t i ∧ C i = tkS h t i ∧ D i = brS h t i := by
  obtain ⟨q1, q2, q3, q4, q5, n', t', nb', hn', ht', hnb', ch', mh, cl', ml, bn, tk, hk, hsep⟩ := q
  have et : t' = T := (nI_eq (by omega) (by omega)).mp (by rw [← cl', cl])
  have en2 : n' = n := (nI_eq (by omega) (by omega)).mp (by rw [← ch', ch])
  subst et; subst en2
  exact knows_at hT ht hn (by rw [a1]; exact mh) a2 a3 a4 a5 tk
/-- the class's reading of what is known -/
theorem see_g {h : MH} (q : RHire h) (o : Nat) {t T n : Nat} (hT : T ≤ 400) (cl : hI h 210 0 0 = nI T) (ht : t ≤ T) (hn : n ≤ 120) (ch : hI h 202 0 0 = nI n) : cnS h t ≤ n ∧ ∃ B S C : Nat → Int32, E L scr (d + 2) 108 [vR 900010 o, vI (nI t)] h = some (none, withR h (vwL h o B S C (cnS h t))) ∧ ∀ i, i < cnS h t → B i = bkS h t i ∧ S i = swS h t i ∧ C i = cuS h t i := by
  obtain ⟨q1, q2, q3, q4, q5, n', t', nb', hn', ht', hnb', ch', mh, cl', ml, bn, tk, hk, hsep⟩ := q
  have et : t' = T := (nI_eq (by omega) (by omega)).mp (by rw [← cl', cl])
  have en2 : n' = n := (nI_eq (by omega) (by omega)).mp (by rw [← ch', ch])
  subst et; subst en2
  exact see_ok hT cl ht hn tk
theorem cn_all {h : MH} (q : RHire h) {T n : Nat} (hT : T ≤ 400) (cl : hI h 210 0 0 = nI T) (hn : n ≤ 120) (ch : hI h 202 0 0 = nI n) : cnS h T = n := by
  obtain ⟨q1, q2, q3, q4, q5, n', t', nb', hn', ht', hnb', ch', mh, cl', ml, bn, tk, hk, hsep⟩ := q
  have et : t' = T := (nI_eq (by omega) (by omega)).mp (by rw [← cl', cl])
  have en2 : n' = n := (nI_eq (by omega) (by omega)).mp (by rw [← ch', ch])
  subst et; subst en2
  exact tk.2
theorem ScrH : ∀ r ∈ SHire, r ∉ Scr := by decide
abbrev WT : List (Nat × Nat) := WHr ++ Scr
theorem WT_S : ∀ q ∈ Scr, q ∈ WT := fun _ h => List.mem_append_right _ h
theorem WT_H : ∀ q ∈ WHr, q ∈ WT := fun _ h => List.mem_append_left _ h
/-- a telling on both sides with scratch rows changed between -/
theorem tell_both {h h1 g2 : MH} {t n nb i : Nat} {w v v1 v2 : Int32} (q : RHire h) (u1 : Upd Scr h h1) (u2 : Upd Scr (tlL h1 t w (nI i) v) g2) (eT : hI h 210 0 0 = nI t) (ht : t < 400) (en : hI h 202 0 0 = nI n) (hn : n ≤ 120) (hi : i < n) (hw : (w = 1 ∧ v = v1 ∧ ∃ a b, hI h 205000120 0 i = nI a ∧ v = nI b ∧ a ≤ b ∧ b / 720 = a / 720 ∧ b < 72000) ∨ (w = 2 ∧ v = v1 ∧ ∃ c, c ≤ 9999 ∧ v = nI c) ∨ (w = 3 ∧ ∃ a b, a ≤ 9 ∧ b ≤ 9 ∧ v1 = nI a ∧ v2 = nI b ∧ v = nI (10 * a + b))) (hsv : w = 1 → ∀ j, i < j → j < n → hI h 203000120 0 i = hI h 203000120 0 j → ∃ a b, v = nI b ∧ hI h 205000120 0 j = nI a ∧ b ≤ a ∧ a < 72000) : RHire (tmL g2 t w (nI i) v1 v2) ∧ Upd WT h (tmL g2 t w (nI i) v1 v2) := by
  have r1 := hire_tell (nb := nb) q eT ht en hn hi hw hsv
  have a1 : Ag SHire h h1 := Ag.of u1 ScrH
  have a2 : Ag SHire (tlL h t w (nI i) v) (tlL h1 t w (nI i) v) := (((a1.sI _ _ _ _).sI _ _ _ _).sI _ _ _ _).sI _ _ _ _
  have a3 : Ag SHire (tlL h t w (nI i) v) g2 := a2.tr (Ag.of u2 ScrH)
  refine ⟨r1.ag (((((a3.sI _ _ _ _).sI _ _ _ _).sI _ _ _ _).sI _ _ _ _).sI _ _ _ _), ?_⟩
  have v1 : Upd WT h h1 := u1.mono WT_S
  have v2 : Upd WT h (tlL h1 t w (nI i) v) := (((v1.sI (by decide)).sI (by decide)).sI (by decide)).sI (by decide)
  have v3 : Upd WT h g2 := v2.tr (u2.mono WT_S)
  exact ((((v3.sI (by decide)).sI (by decide)).sI (by decide)).sI (by decide)).sI (by decide)
theorem call_back (x y : Int32) (h : MH) (q : RHire h) : Both L scr (d + 40) WT RHire 133 258 [vR 900011 0, vI x, vI y] [vR 900012 0, vI x, vI y] h := by
  obtain ⟨q1, q2, q3, q4, q5, n, T, nb, hn, hT, hnb, ch, mh, cl, ml, bn, tk, hk, hsep⟩ := id q
  by_cases hb : ixB x n = false ∨ ixB y 72000 = false
  · refine both0 (vI (-1)) (r_P_back _ _ _ _ (Sm.ret ?_)) (r_M_back _ _ _ _ (Sm.ret ?_)) q
    · rw [t_P_back_0, c_canEnd_no ch hb, clI_ok, if_pos rfl]
    · rw [t_M_back_0, c_mayBe_no hn mh hb, clI_ok, if_pos rfl]
  · have hx : ixB x n = true := by
      cases e : ixB x n with
      | true => rfl
      | false => exact absurd (Or.inl e) hb
    have hy : ixB y 72000 = true := by
      cases e : ixB y 72000 with
      | true => rfl
      | false => exact absurd (Or.inr e) hb
    obtain ⟨i, hi, hi2, rfl⟩ := ixB_t hx
    obtain ⟨z, hz, hz2, rfl⟩ := ixB_t hy
    obtain ⟨⟨b, w, m, qq, g1, g2, g3, g4, g5, g6, g7, g8, g9⟩, -, -⟩ := hk i hi
    have mo : hI h 1341000120 0 i = nI m := by rw [← show hI h 205000120 0 = hI h 1341000120 0 from q3]; exact g5
    cases he : endB m z with
    | false =>
      refine both0 (vI (-1)) (r_P_back _ _ _ _ (Sm.ret ?_)) (r_M_back _ _ _ _ (Sm.ret ?_)) q
      · rw [t_P_back_0, c_canEnd hn hi ch hz g6 g5, clI_ok, he, itF]
      · rw [t_M_back_0, c_mayBe hn hi mh ml hT hz g6 mo, clI_ok, he, Bool.false_and, itF]
    | true =>
      obtain ⟨hm, B, S, C, eS, fS⟩ := see_g (L := L) (scr := scr) (d := d + 37) q 0 hT cl (Nat.le_refl T) hn ch
      have hcn := cn_all q hT cl hn ch
      have hB : B i = bkS h T i := (fS i (by rw [hcn]; exact hi)).1
      have u1 := vwx_Scr (h := h) (B := B) (S := S) (C := C) (n := cnS h T)
      have hP : E L scr (d + 39) 110 [vR 900010 0, vI (nI i)] (withR h (vwL h 0 B S C (cnS h T))) = some (some (vI (zb (!decide (bkS h T i = -1)))), withR h (vwL h 0 B S C (cnS h T))) := by
        rw [c_isBack (by omega), vwx_B, hB]
      rcases Nat.lt_or_ge T 400 with hl | hl
      · by_cases hbk : bkS h T i = -1
        · -- the telling
          have e1 : hI (withR h (vwL h 0 B S C (cnS h T))) 210 0 0 = nI T := by rw [u1.2 _ _ (by decide)]; exact cl
          have mr : ∀ a : Nat, (a, 0) ∉ Scr → a ≠ 211000400 → a ≠ 212000400 → a ≠ 213000400 → a ≠ 210 → hI (tlL (withR h (vwL h 0 B S C (cnS h T))) T 1 (nI i) (nI z)) a 0 = hI h a 0 := by
            intro a ha h1 h2 h3 h4
            rw [hI_rn (fun c => h4 c.1), hI_rn (fun c => h3 c.1), hI_rn (fun c => h2 c.1), hI_rn (fun c => h1 c.1), u1.2 _ _ ha]
          obtain ⟨B2, S2, C2, D2, eK, fK⟩ := kn_gM (L := L) (scr := scr) (d := d + 38) (g := tlL (withR h (vwL h 0 B S C (cnS h T))) T 1 (nI i) (nI z)) q hT cl (Nat.le_refl T) hn ch (mr _ (by decide) (by decide) (by decide) (by decide) (by decide)) (mr _ (by decide) (by decide) (by decide) (by decide) (by decide)) (mr _ (by decide) (by decide) (by decide) (by decide) (by decide)) (mr _ (by decide) (by decide) (by decide) (by decide) (by decide)) (mr _ (by decide) (by decide) (by decide) (by decide) (by decide))
          have hw := of_decide_eq_true (show decide (m ≤ z ∧ z / 720 = m / 720) = true from he)
          obtain ⟨r1, r2⟩ := tell_both (v2 := 0) (nb := nb) q u1 (kn_Scr (h := tlL (withR h (vwL h 0 B S C (cnS h T))) T 1 (nI i) (nI z)) (B := B2) (S := S2) (C := C2) (D := D2) (t := nI T)) cl hl ch hn hi (Or.inl ⟨rfl, rfl, m, z, g5, rfl, hw.1, hw.2, hz⟩) (fun _ j hij hj hbo => by
            obtain ⟨a, b, p1, p2, p3, p4⟩ := hsep i j hij hj hbo
            exact absurd (p1.symm.trans hbk) (nI_ne1 (by omega)))
          refine ⟨vI (nI (T + 1)), tlL (withR h (vwL h 0 B S C (cnS h T))) T 1 (nI i) (nI z), _, r_P_back _ _ _ _ (Sm.ret ?_), r_M_back _ _ _ _ (Sm.ret ?_), r2, r1⟩
          · rw [t_P_back_0, c_canEnd hn hi ch hz g6 g5, clI_ok, he, itT, cl, eS, clV_ok, hP, clI_ok, decide_eq_true hbk, show zb (!true) = 0 from rfl, if_pos rfl, c_tell hl _ _ _ e1, clI_ok]
          · have n1 : hI (tlL (withR h (vwL h 0 B S C (cnS h T))) T 1 (nI i) (nI z)) 1336 0 0 = nI n := by rw [mr _ (by decide) (by decide) (by decide) (by decide) (by decide)]; exact mh
            have n2 : hI (tlL (withR h (vwL h 0 B S C (cnS h T))) T 1 (nI i) (nI z)) 1337 0 0 = nI T := by rw [mr _ (by decide) (by decide) (by decide) (by decide) (by decide)]; exact ml
            have n3 : hI (tlL (withR h (vwL h 0 B S C (cnS h T))) T 1 (nI i) (nI z)) 1341000120 0 i = nI m := by rw [mr _ (by decide) (by decide) (by decide) (by decide) (by decide)]; exact mo
            rw [t_M_back_0, c_mayBe hn hi n1 n2 hT hz g6 n3, clI_ok, he, decide_eq_true hl, Bool.and_self, itT, n2, eK, clV_ok, rd_M_backAt (oob_nI (by omega) (by decide)), ix_nI (by omega), kn_B, (fK i hi).1, if_pos hbk, c_tells hl _ _ _ _ (by rw [kn_miss (by decide) (by decide) (by decide) (by decide) (by decide)]; exact n2), clI_ok]
        · -- it is back
          have a1 : ∀ r ∈ SHire, hI (withR h (vwL h 0 B S C (cnS h T))) r.1 r.2 = hI h r.1 r.2 := fun r hr => u1.2 _ _ (ScrH r hr)
          obtain ⟨B2, S2, C2, D2, eK, fK⟩ := kn_g (L := L) (scr := scr) (d := d + 38) q hT cl (Nat.le_refl T) hn ch a1
          have u2 : Upd Scr h (withR (withR h (vwL h 0 B S C (cnS h T))) (knL (withR h (vwL h 0 B S C (cnS h T))) B2 S2 C2 D2 (nI T))) := u1.tr kn_Scr
          refine ⟨vI (-1), withR h (vwL h 0 B S C (cnS h T)), _, r_P_back _ _ _ _ (Sm.ret ?_), r_M_back _ _ _ _ (Sm.ret ?_), u2.mono WT_S, q.ag (Ag.of u2 ScrH)⟩
          · rw [t_P_back_0, c_canEnd hn hi ch hz g6 g5, clI_ok, he, itT, cl, eS, clV_ok, hP, clI_ok, decide_eq_false hbk, show zb (!false) = 1 from rfl, if_neg i0n1]
          · have n1 : hI (withR h (vwL h 0 B S C (cnS h T))) 1336 0 0 = nI n := by rw [u1.2 _ _ (by decide)]; exact mh
            have n2 : hI (withR h (vwL h 0 B S C (cnS h T))) 1337 0 0 = nI T := by rw [u1.2 _ _ (by decide)]; exact ml
            have n3 : hI (withR h (vwL h 0 B S C (cnS h T))) 1341000120 0 i = nI m := by rw [u1.2 _ _ (by decide)]; exact mo
            rw [t_M_back_0, c_mayBe hn hi n1 n2 hT hz g6 n3, clI_ok, he, decide_eq_true hl, Bool.and_self, itT, n2, eK, clV_ok, rd_M_backAt (oob_nI (by omega) (by decide)), ix_nI (by omega), kn_B, (fK i hi).1, if_neg hbk]
      · have eT : T = 400 := by omega
        subst eT
        have e1 : hI (withR h (vwL h 0 B S C (cnS h 400))) 210 0 0 = nI 400 := by rw [u1.2 _ _ (by decide)]; exact cl
        have n1 : hI (withR h (vwL h 0 B S C (cnS h 400))) 1336 0 0 = nI n := by rw [u1.2 _ _ (by decide)]; exact mh
        have n2 : hI (withR h (vwL h 0 B S C (cnS h 400))) 1337 0 0 = nI 400 := by rw [u1.2 _ _ (by decide)]; exact ml
        have n3 : hI (withR h (vwL h 0 B S C (cnS h 400))) 1341000120 0 i = nI m := by rw [u1.2 _ _ (by decide)]; exact mo
        refine ⟨vI (-1), withR h (vwL h 0 B S C (cnS h 400)), withR h (vwL h 0 B S C (cnS h 400)), r_P_back _ _ _ _ (Sm.ret ?_), r_M_back _ _ _ _ (Sm.ret ?_), u1.mono WT_S, q.ag (Ag.of u1 ScrH)⟩
        · rw [t_P_back_0, c_canEnd hn hi ch hz g6 g5, clI_ok, he, itT, cl, eS, clV_ok, hP, clI_ok]
          by_cases hbk : bkS h 400 i = -1
          · rw [decide_eq_true hbk, show zb (!true) = 0 from rfl, if_pos rfl, c_tell_full _ _ _ e1, clI_ok]
          · rw [decide_eq_false hbk, show zb (!false) = 1 from rfl, if_neg i0n1]
        · rw [t_M_back_0, c_mayBe hn hi n1 n2 hT hz g6 n3, clI_ok, he, decide_eq_false (by decide), Bool.and_false, itF]
end Seen

/-! CALL: free -/
/-- the reference's sites that may-go reads -/
abbrev SGo : List Nat := [1300, 1309000006, 1326, 1327, 1330000100, 1331000100, 1332000040, 1333000040, 1334000040, 1336, 1337, 1338000020, 1339000120, 1341000120, 1343000120, 1346000401, 1347000401, 1348000401, 1349000401] ++ SRs
section Free
variable {L : Nat} {scr : Nat → Int32} {d : Nat}
theorem go_both {h : MH} (q : RHire h) (qb : RBoat h) (qw : RWater h) (qs : RSpell h) (qd : RWeed h) (qr : RRule h) (ql : RLaw h) {n T b x : Nat} (hT : T ≤ 400) (cl : hI h 210 0 0 = nI T) (hn : n ≤ 120) (ch : hI h 202 0 0 = nI n) (hb : b < 20) (hx : x < 72000) : ∃ r h1, E L scr (d + 7) 189 [vR 900011 0, vI (nI b), vI (nI x)] h = some (some (vI (zb r)), h1) ∧ Upd Scr h h1 ∧ (r = true → ∀ i, i < n → hI h 203000120 0 i = nI b → ∃ c, bkS h T i = nI c ∧ c ≤ x ∧ c < 72000) ∧ ∀ g, (∀ a b, a ∈ SGo → hI g a b = hI h a b) → ∃ g2, E L scr (d + 7) 253 [vR 900012 0, vI (nI b), vI (nI x)] g = some (some (vI (zb r)), g2) ∧ Upd Scr g g2 := by
  obtain ⟨q1, q2, q3, q4, q5, n', T', nb, hn', hT', hnb, ch', mh, cl', ml, bn, tk, hk, hsep⟩ := id q
  have et : T' = T := (nI_eq (by omega) (by omega)).mp (by rw [← cl', cl])
  have en2 : n' = n := (nI_eq (by omega) (by omega)).mp (by rw [← ch', ch])
  subst et; subst en2
  obtain ⟨hm, B, S, C, eS, fS⟩ := see_g (L := L) (scr := scr) (d := d + 4) q 0 hT cl (Nat.le_refl T') hn ch
  have cn : cnS h T' = n' := cn_all q hT cl hn ch
  rw [cn] at eS fS
  obtain ⟨h1, hh1⟩ : ∃ h1, h1 = withR h (vwL h 0 B S C n') := ⟨_, rfl⟩
  have u1 : Upd Scr h h1 := by rw [hh1]; exact vwx_Scr
  have eB : hI h1 1102000120 0 = B := by rw [hh1]; exact vwx_B
  have eN : hI h1 1101 0 0 = nI n' := by rw [hh1]; exact vwx_n
  rw [← hh1] at eS
  obtain ⟨bp, hbp⟩ : ∃ bp, bp = backB (hI h 205000120 0) B (hI h 203000120 0) (nI b) (nI x) := ⟨_, rfl⟩
  have eA : E L scr (d + 6) 114 [vR 900010 0, vI (nI b), vI (nI x)] h1 = some (some (vI (zb (!anyB bp n'))), h1) := by
    rw [c_allBackBy hn _ _ eN, eB, u1.2 _ _ (by decide), u1.2 _ _ (by decide), hbp]
  -- the reference's reading of what is known
  have KN : ∀ g, (∀ a b, a ∈ SGo → hI g a b = hI h a b) → ∃ B2 g1, E L scr (d + 6) 245 [vR 900012 0, vI (nI T')] g = some (none, g1) ∧ Upd Scr g g1 ∧ hI g1 1350000120 0 = B2 ∧ (∀ i, i < n' → B2 i = B i) ∧ hI g1 1354 0 0 = nI T' := fun g ag => by
    obtain ⟨B2, S2, C2, D2, eK, fK⟩ := kn_gM (L := L) (scr := scr) (d := d + 5) (g := g) q hT cl (Nat.le_refl T') hn ch (ag _ _ (by decide)) (ag _ _ (by decide)) (ag _ _ (by decide)) (ag _ _ (by decide)) (ag _ _ (by decide))
    exact ⟨B2, _, eK, kn_Scr, kn_B, fun i hi => by rw [(fK i hi).1, (fS i hi).1], kn_t⟩
  have lo : ∀ (g1 : MH) (B2 : Nat → Int32), hI g1 1336 0 0 = nI n' → hI g1 1339000120 0 = hI h 203000120 0 → hI g1 1350000120 0 = B2 → (∀ i, i < n' → B2 i = B i) → ∀ i, i < n' → dn L scr (E L scr (d + 6)) B_M_mayGo C_M_mayGo 1 [some (vR 900012 0), some (vI (nI b)), some (vI (nI x)), some (vI (nI i))] [] g1 = (if bp i = true then rtZ 0 g1 else some (.inl (1, [some (vR 900012 0), some (vI (nI b)), some (vI (nI x)), some (vI (nI (i + 1)))], [], g1))) := fun g1 B2 f1 f2 f3 f4 i hi => by
    rw [t_M_mayGo_1, f1, if_neg (nI_ge hi (by omega)), rd_M_boatOf (oob_nI (by omega) (by decide)), ix_nI (by omega), f2, rd_M_backAt (oob_nI (by omega) (by decide)), ix_nI (by omega), f3, f4 i hi, hbp, nI_1]
    unfold backB
    by_cases c1 : hI h 203000120 0 i = nI b
    · rw [if_pos c1]
      by_cases c2 : B i = -1
      · rw [if_pos c2, decide_eq_true ⟨c1, Or.inl c2⟩, if_pos rfl]
      · rw [if_neg c2, rd_M_backAt (oob_nI (by omega) (by decide)), ix_nI (by omega), f3, f4 i hi]
        by_cases c3 : B i ≤ nI x
        · rw [if_pos c3, decide_eq_false (fun z => z.2.elim c2 (fun y => nlt_i.mpr c3 y)), if_neg (by decide)]
        · rw [if_neg c3, decide_eq_true ⟨c1, Or.inr (nle_i.mp c3)⟩, if_pos rfl]
    · rw [if_neg c1, decide_eq_false (fun z => c1 z.1), if_neg (by decide)]
  cases ea : anyB bp n' with
  | true =>
    refine ⟨false, h1, r_P_canGo _ _ _ _ (Sm.ret ?_), u1, fun z => absurd z (by decide), fun g ag => ?_⟩
    · rw [t_P_canGo_0, cl, eS, clV_ok, eA, clI_ok, ea, if_pos (show zb (!true) = 0 from rfl), rtZ0]; rfl
    · obtain ⟨B2, g1, eK, uK, f3, f4, -⟩ := KN g ag
      refine ⟨g1, r_M_mayGo _ _ _ _ (Sm.step (t' := 1) (lo' := [some (vR 900012 0), some (vI (nI b)), some (vI (nI x)), some (vI (nI 0))]) (st' := []) (h' := g1) ?_ ?_), uK⟩
      · rw [t_M_mayGo_0, ag 1337 0 (by decide), ml, eK, clV_ok]; rfl
      · obtain ⟨j, hj, hpj⟩ := anyB_iff.mp ea
        have L1 := lo g1 B2 (by rw [uK.2 _ _ (by decide), ag 1336 0 (by decide)]; exact mh) (by rw [uK.2 _ _ (by decide), ag 1339000120 0 (by decide), ← q1]) f3 f4
        refine Sm.find (lo := fun k => [some (vR 900012 0), some (vI (nI b)), some (vI (nI x)), some (vI (nI k))]) (hh := fun _ => g1) (r := fun _ => (some (vI (zb false)), g1)) bp n' (fun i hi hp => ?_) (fun i hi hp _ => Sm.ret ?_) (fun z => ?_)
        · rw [L1 i hi, hp, if_neg (by decide)]
        · rw [L1 i hi, hp, if_pos rfl, rtZ0]; rfl
        · have := ffst_none z j hj
          rw [hpj] at this; cases this
  | false =>
    have nb1 : ∀ i, i < n' → bp i = false := fun i hi => by
      cases e : bp i with
      | false => rfl
      | true => have := anyB_iff.mpr ⟨i, hi, e⟩; rw [ea] at this; cases this
    obtain ⟨qw1⟩ : True := trivial
    obtain ⟨s1, s2, s3, ns, hns, cs, ms, -⟩ := qs
    obtain ⟨d1, ⟨rt, hrt, cr, mr⟩, -⟩ := qd
    obtain ⟨b1, -⟩ := qb
    obtain ⟨n5, hn5, cL, mL, ⟨dy, hdy⟩, -, -⟩ := qr
    obtain ⟨⟨n6, hn6, mL2, hRL⟩, hR0⟩ := ql
    have e56 : n6 = n5 := (nI_eq (by omega) (by omega)).mp (by rw [← mL2, mL])
    subst e56
    obtain ⟨u, hu, eu⟩ := out_u (p := awayB (hI h 205000120 0) B (nI x)) (bo := hI h 203000120 0) (m := n') (fun i hi => by
      obtain ⟨⟨b', w, m, q, e1, e2, -⟩, -⟩ := hk i hi
      exact ⟨b', by omega, e1⟩)
    obtain ⟨h2, eK, uA, vA⟩ := c_P_ask (L := L) (scr := scr) (d := d + 2) (h := h1) (b := b) (x := x) (n := ns) (m := n') (u := u) hb hx hns (by rw [u1.2 _ _ (by decide)]; exact cs) hn eN hu (by rw [eB, u1.2 _ _ (by decide), u1.2 _ _ (by decide)]; exact eu)
    have u2 : Upd Scr h h2 := u1.tr (uA.mono (by decide))
    rw [u1.2 _ _ (by decide), u1.2 _ _ (by decide), u1.2 _ _ (by decide), u1.2 _ _ (by decide), u1.2 _ _ (by decide), u1.2 _ _ (by decide), u1.2 _ _ (by decide)] at vA
    obtain ⟨v, hv⟩ : ∃ v, v = askF (hI h 800000100 0 (x / 720)) (zb (anyB (rainP (hI h 802000040 0) (hI h 803000040 0) (hI h 804000040 0) (nI (x / 720)) (nI (x % 720))) ns)) (nI (x / 720)) (nI (x / 720 % 7)) (nI (x % 720)) (nI (pcN 20 u)) (hI h 201000020 0 b) (weedF (hI h 805 0 0) (wkF (hI h 806000100 0) (x / 720))) := ⟨_, rfl⟩
    rw [← hv] at vA
    have e1 : nI x / 720 = nI (x / 720) := nI_div (b := 720) (by omega) (by decide)
    have eL := c_P_lawOf (L := L) (scr := scr) (d := d + 4) (h := h2) (n := n6) (x := x / 720) (dy := dy) hn5 (by omega) (by rw [u2.2 _ _ (by decide)]; exact cL) (fun k hk => by
      obtain ⟨a1, a2, a3, -⟩ := hdy k hk
      exact ⟨a1, by rw [u2.R]; exact a2, by rw [u2.2 _ _ (fun z => (by decide : ∀ q ∈ Scr, q.1 ≠ 600) _ z rfl)]; exact a3⟩)
    have rdC : ∀ (sh : Bool) (h3 : MH), E L scr (d + 6) 60 [vR 900005 (lmO (lawF dy (x / 720) n6)), vR 1211000008 0] h2 = some (some (vI (zb sh)), h3) → E L scr (d + 7) 189 [vR 900011 0, vI (nI b), vI (nI x)] h = some (some (vI (zb (!sh))), h3) := fun sh h3 eq => by
      refine r_P_canGo _ _ _ _ (Sm.ret ?_)
      rw [t_P_canGo_0, cl, eS, clV_ok, eA, clI_ok, ea, if_neg (show ¬ zb (!false) = 0 by decide), eK, clV_ok, dvI_ok (by decide), e1, eL, clR_ok, eq, clI_ok]
      cases sh with
      | false => rw [if_pos (show zb false = 0 from rfl), rtZ1]; rfl
      | true => rw [if_neg (show ¬ zb true = 0 by decide), rtZ0]; rfl
    have rdM : ∀ (sh : Bool) (g g1 g2 : MH) (B2 : Nat → Int32), hI g 1337 0 0 = nI T' → E L scr (d + 6) 245 [vR 900012 0, vI (nI T')] g = some (none, g1) → hI g1 1336 0 0 = nI n' → hI g1 1339000120 0 = hI h 203000120 0 → hI g1 1350000120 0 = B2 → (∀ i, i < n' → B2 i = B i) → E L scr (d + 6) 252 [vR 900012 0, vI (nI b), vI (nI x)] g1 = some (some (vI (zb sh)), g2) → E L scr (d + 7) 253 [vR 900012 0, vI (nI b), vI (nI x)] g = some (some (vI (zb (!sh))), g2) := fun sh g g1 g2 B2 eT eK f1 f2 f3 f4 eq => by
      refine r_M_mayGo _ _ _ _ (Sm.step (t' := 1) (lo' := [some (vR 900012 0), some (vI (nI b)), some (vI (nI x)), some (vI (nI 0))]) (st' := []) (h' := g1) ?_ ?_)
      · rw [t_M_mayGo_0, eT, eK, clV_ok]; rfl
      · refine Sm.for (lo := fun k => [some (vR 900012 0), some (vI (nI b)), some (vI (nI x)), some (vI (nI k))]) (hh := fun _ => g1) n' (fun i hi => ?_) (Sm.ret ?_)
        · rw [lo g1 B2 f1 f2 f3 f4 i hi, nb1 i hi, if_neg (by decide)]
        · rw [t_M_mayGo_1, f1, if_pos (nI_le (Nat.le_refl _) (by omega)), eq, clI_ok]
          cases sh with
          | false => rw [if_pos (show zb false = 0 from rfl), rtZ1]; rfl
          | true => rw [if_neg (show ¬ zb true = 0 by decide), rtZ0]; rfl
    have bk : ∀ i, i < n' → hI h 203000120 0 i = nI b → ∃ c, bkS h T' i = nI c ∧ c ≤ x ∧ c < 72000 := fun i hi ei => by
      have p0 := nb1 i hi
      rw [hbp] at p0
      have p1 := of_decide_eq_false p0
      rw [(fS i hi).1] at p1
      rcases bk_ok tk (Nat.le_refl T') (show i < 120 by omega) with z | ⟨a, c, -, z, -, -, c2⟩
      · exact absurd ⟨ei, Or.inl z⟩ p1
      · refine ⟨c, z, ?_, c2⟩
        rcases Nat.lt_or_ge x c with y | y
        · exact absurd ⟨ei, Or.inr (by rw [show bkS h T' i = nI c from z]; exact nI_lt y (by omega))⟩ p1
        · exact y
    -- the reference's side at the law
    have SM : ∀ g, (∀ a b, a ∈ SGo → hI g a b = hI h a b) → ∃ B2 g1, E L scr (d + 6) 245 [vR 900012 0, vI (nI T')] g = some (none, g1) ∧ Upd Scr g g1 ∧ hI g1 1336 0 0 = nI n' ∧ hI g1 1339000120 0 = hI h 203000120 0 ∧ hI g1 1350000120 0 = B2 ∧ (∀ i, i < n' → B2 i = B i) ∧ E L scr (d + 5) 232 [vR 900012 0, vI (nI (x / 720))] g1 = some (some (vI (oI (lawF dy (x / 720) n6))), g1) ∧ E L scr (d + 5) 249 [vR 900012 0, vI (nI x)] g1 = some (some (vI (nI u)), g1) := fun g ag => by
      obtain ⟨B2, g1, eK, uK, f3, f4, f5⟩ := KN g ag
      have hd1 := c_M_lawOf (L := L) (scr := scr) (d := d + 4) (h := g1) (n := n6) (x := x / 720) (dy := dy) hn5 (by omega) (by rw [uK.2 _ _ (by decide), ag 1300 0 (by decide)]; exact mL) (fun k hk => by
        obtain ⟨a1, -, -, a4⟩ := hdy k hk
        exact ⟨a1, by rw [uK.2 _ _ (by decide), ag 1309000006 0 (by decide)]; exact a4⟩)
      have hh : hI g1 1336 0 0 = nI n' := by rw [uK.2 _ _ (by decide), ag 1336 0 (by decide)]; exact mh
      have hbo : hI g1 1339000120 0 = hI h 203000120 0 := by rw [uK.2 _ _ (by decide), ag 1339000120 0 (by decide), ← q1]
      refine ⟨B2, g1, eK, uK, hh, hbo, f3, f4, hd1, ?_⟩
      have oe := out_eq (oa := hI h 205000120 0) (bo := hI h 203000120 0) (B := B) (B2 := B2) (tb := hI h 207000120 0) (x := nI x) (t := T') (m := n') (n := n') (Nat.le_refl n') (fun i hi => by rw [told_dec hT (Nat.le_refl T') hk hi, tk.2]) (fun i hi => (f4 i hi).symm)
      rw [c_M_outSet (d := d + 2) hn (nI x) hh, f5, f3, hbo, uK.2 1341000120 0 (by decide), uK.2 1343000120 0 (by decide), ag 1341000120 0 (by decide), ag 1343000120 0 (by decide), ← q3, ← q5, oe, eu]
    cases eo : lawF dy (x / 720) n6 with
    | none =>
      rw [eo] at rdC SM
      refine ⟨true, h2, rdC false h2 ?_, u2, fun _ => bk, fun g ag => ?_⟩
      · exact c_isShut0 (by rw [u2.2 _ _ (by decide)]; exact hR0)
      · obtain ⟨B2, g1, eK, uK, f1, f2, f3, f4, f5, f6⟩ := SM g ag
        exact ⟨g1, rdM false g g1 g1 B2 (by rw [ag 1337 0 (by decide)]; exact ml) eK f1 f2 f3 f4 (c_M_isShut0 hx f5), uK⟩
    | some l =>
      have hl5 := lawF_lt eo
      rw [eo] at rdC SM
      obtain ⟨R, s, p, φ, RE⟩ := hRL l hl5
      refine ⟨!anyB (fitB s φ 2 v) R, h2, rdC _ h2 ?_, u2, fun _ => bk, fun g ag => ?_⟩
      · exact c_isShut vA (RE.up (u2.sites (by decide)))
      · obtain ⟨B2, g1, eK, uK, f1, f2, f3, f4, f5, f6⟩ := SM g ag
        have ag1 : ∀ a b, a ∈ SGo → hI g1 a b = hI h a b := fun a b ha => by rw [uK.sites (S := SGo) (by decide) a b ha, ag a b ha]
        obtain ⟨g2, e2, w2⟩ := c_M_isShut (L := L) (scr := scr) (d := d) (h := g1) (b := b) (x := x) (n := ns) (u := u) (l := l) (R := R) (kd := hI h 201000020 0 b) (s := s) (p := p) (φ := φ) (v := v) hb hx hns (by rw [ag1 1326 0 (by decide)]; exact ms) (by omega) f5 f6 hu (by rw [ag1 1338000020 0 (by decide), ← b1]) (by
          rw [ag1 1330000100 0 (by decide), ag1 1332000040 0 (by decide), ag1 1333000040 0 (by decide), ag1 1334000040 0 (by decide), ag1 1327 0 (by decide), ag1 1331000100 0 (by decide), ← s1, ← s2, ← s3, mr, ← d1, hv, cr, show hI h 1330000100 0 = hI h 800000100 0 from Eq.symm qw]) (RE.up (fun a b ha => ag1 a b (List.mem_append_right _ ha)))
        exact ⟨g2, rdM _ g g1 g2 B2 (by rw [ag 1337 0 (by decide)]; exact ml) eK f1 f2 f3 f4 e2, uK.tr (w2.mono (by decide))⟩
end Free

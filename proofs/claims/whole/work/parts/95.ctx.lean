/-! BILLS: what both sides know of hires by a telling -/
theorem sw_dec {dd sj vl md ms m1 m2 oa : Nat → Int32} {T n : Nat} (h : TellOk dd sj vl md ms m1 m2 oa T n) : ∀ {t i : Nat}, t ≤ T → ∃ c, c ≤ 9999 ∧ lastF 2 0 dd sj vl t i = nI c
  | 0, _, _ => ⟨0, by decide, rfl⟩
  | t + 1, i, ht => by
    obtain ⟨-, -, j, ej, hj, k⟩ := h.1 t (by omega)
    show ∃ c, c ≤ 9999 ∧ (if dd t = 2 ∧ sj t = nI i then vl t else lastF 2 0 dd sj vl t i) = nI c
    by_cases c : dd t = 2 ∧ sj t = nI i
    · rw [if_pos c]
      rcases k with ⟨k1, -⟩ | ⟨-, (⟨k1, -⟩ | ⟨-, -, e, he, ee⟩ | ⟨k1, -⟩)⟩
      · rw [k1] at c; exact absurd c.1 (by decide)
      · rw [k1] at c; exact absurd c.1 (by decide)
      · exact ⟨e, he, ee⟩
      · rw [k1] at c; exact absurd c.1 (by decide)
    · rw [if_neg c]; exact sw_dec h (by omega)
/-- the view's rows, the rest but for scratch -/
def VC (h h1 g : MH) : Prop := Upd Scr h g ∧ ∀ a, a ∈ [1101, 1102000120, 1103000120, 1104000120] → hI g a 0 = hI h1 a 0
def VM (h g1 g : MH) : Prop := Upd Scr h g ∧ ∀ a, a ∈ [1350000120, 1351000120, 1352000120, 1353000120, 1354] → hI g a 0 = hI g1 a 0
theorem VC.up {W : List (Nat × Nat)} {h h1 g g2 : MH} (v : VC h h1 g) (u : Upd W g g2) (w1 : ∀ q ∈ W, q ∈ Scr) (w2 : ∀ q ∈ W, q.1 ∉ [1101, 1102000120, 1103000120, 1104000120]) : VC h h1 g2 := ⟨v.1.tr (u.mono w1), fun a ha => by rw [u.sites w2 a 0 ha]; exact v.2 a ha⟩
theorem VM.up {W : List (Nat × Nat)} {h g1 g g2 : MH} (v : VM h g1 g) (u : Upd W g g2) (w1 : ∀ q ∈ W, q ∈ Scr) (w2 : ∀ q ∈ W, q.1 ∉ [1350000120, 1351000120, 1352000120, 1353000120, 1354]) : VM h g1 g2 := ⟨v.1.tr (u.mono w1), fun a ha => by rw [u.sites w2 a 0 ha]; exact v.2 a ha⟩
def bareN (j : Nat) : Nat := if j < 4 then 0 else if j < 8 then 60 else if j = 13 then 60 else 0
theorem bareN_F (j : Nat) : bareF j = nI (bareN j) := by
  unfold bareF bareN
  split
  · rfl
  · split
    · rfl
    · split <;> rfl
theorem bareN_LB : LB bareN := by
  refine ⟨fun j => ?_, fun j hj => ?_, by decide, by decide⟩
  · unfold bareN; split; · omega
    split; · omega
    split <;> omega
  · unfold bareN
    rw [if_neg (by omega), if_pos (by omega)]; omega
/-- what laws say, as numbers -/
def RNum (h : MH) : Prop := ∃ n, n ≤ 5 ∧ hI h 1300 0 0 = nI n ∧ ∀ l, l < n → ∃ f : Nat → Nat, LB f ∧ ∀ j, j < 64 → hI h 1308000384 0 (64 * l + j) = nI (f j)
section Ctx
variable {L : Nat} {scr : Nat → Int32} {d : Nat}
/-- the law of a day, on both sides -/
theorem law_at {h : MH} (qr : RRule h) (qn : RNum h) (ql : RLaw h) {D : Nat} (hD : D < 100) : ∃ (lo : Option Nat) (f : Nat → Nat) (R : Nat) (s p : Nat → Nat) (φ : Nat → (Nat → Int32) → Bool), LB f ∧ ∀ g, Upd Scr h g → (∀ d, E L scr (d + 2) 188 [vR 900011 0, vI (nI D)] g = some (some (vR 900005 (lmO lo)), g)) ∧ LawAt L scr g D lo f ∧ LawEq g (lmO lo) (fun j => nI (f j)) ∧ CR g (lmO lo) R s p ∧ LawRs g (lmO lo) R s p φ lo ∧ (lo = none → hI g 610 0 0 = 0) := by
  obtain ⟨n5, hn5, cL, mL, ⟨dy, hdy⟩, hl, hb⟩ := qr
  obtain ⟨n6, hn6, mL2, hN⟩ := qn
  obtain ⟨⟨n7, hn7, mL3, hRL⟩, hR0⟩ := ql
  have e6 : n6 = n5 := (nI_eq (by omega) (by omega)).mp (by rw [← mL2, mL])
  have e7 : n7 = n5 := (nI_eq (by omega) (by omega)).mp (by rw [← mL3, mL])
  subst e6; subst e7
  have P : ∀ g, Upd Scr h g → ∀ d, E L scr (d + 2) 188 [vR 900011 0, vI (nI D)] g = some (some (vR 900005 (lmO (lawF dy D n7))), g) := fun g u d => c_P_lawOf (n := n7) (dy := dy) hn5 hD (by rw [u.2 _ _ (by decide)]; exact cL) (fun k hk => by
    obtain ⟨a1, a2, a3, -⟩ := hdy k hk
    exact ⟨a1, by rw [u.R]; exact a2, by rw [u.sites (S := [600]) (by decide) 600 (k + 1) (by decide)]; exact a3⟩)
  have M : ∀ g, Upd Scr h g → ∀ d, E L scr (d + 1) 232 [vR 900012 0, vI (nI D)] g = some (some (vI (oI (lawF dy D n7))), g) := fun g u d => c_M_lawOf (n := n7) (dy := dy) hn5 hD (by rw [u.2 _ _ (by decide)]; exact mL) (fun k hk => by
    obtain ⟨a1, -, -, a4⟩ := hdy k hk
    exact ⟨a1, by rw [u.2 _ _ (by decide)]; exact a4⟩)
  have LE := fun (m : Nat) (f : Nat → Int32) (q : LawEq h m f) (g : MH) (u : Upd Scr h g) => show LawEq g m f from by
    have r := u.sites (S := [601000004, 602000004, 603000004, 605, 606, 607, 608, 609, 604000040]) (by decide)
    unfold LawEq at q ⊢
    simp only [r 601000004 m (by decide), r 602000004 m (by decide), r 603000004 m (by decide), r 605 m (by decide), r 606 m (by decide), r 607 m (by decide), r 608 m (by decide), r 609 m (by decide), r 604000040 m (by decide)]
    exact q
  cases eo : lawF dy D n7 with
  | none =>
    rw [eo] at P M
    refine ⟨none, bareN, 0, fun _ => 0, fun _ => 0, fun _ _ => false, bareN_LB, fun g u => ⟨P g u, ⟨M g u, ⟨fun k z => (by cases z), fun j _ => bareN_F j⟩⟩, LE 0 _ (by rw [show (fun j => nI (bareN j)) = bareF from funext (fun j => (bareN_F j).symm)]; exact hb) g u, ⟨Nat.zero_le _, ?_, fun i hi => absurd hi (Nat.not_lt_zero i)⟩, ⟨rfl, rfl⟩, fun _ => ?_⟩⟩
    · show hI g 610 0 0 = nI 0
      rw [u.2 _ _ (by decide)]; exact hR0
    · rw [u.2 _ _ (by decide)]; exact hR0
  | some l =>
    have hl5 := lawF_lt eo
    rw [eo] at P M
    obtain ⟨f, hf, ef⟩ := hN l hl5
    obtain ⟨R, s, p, φ, RE⟩ := hRL l hl5
    refine ⟨some l, f, R, s, p, φ, hf, fun g u => ?_⟩
    have RE2 : RsEq g (l + 1) l R s p φ := RE.up (u.sites (by decide))
    have em : hI g 1308000384 0 = hI h 1308000384 0 := u.2 _ _ (by decide)
    have LL : LawEq h (l + 1) (fun j => nI (f j)) := by
      obtain ⟨a1, a2, a3⟩ := hl l hl5
      obtain ⟨b1, b2, b3, b4, b5⟩ := a2
      refine ⟨fun j hj => ?_, ⟨b1.trans (ef 12 (by decide)), b2.trans (ef 13 (by decide)), b3.trans (ef 14 (by decide)), b4.trans (ef 15 (by decide)), b5.trans (ef 16 (by decide))⟩, fun i hi => (a3 i hi).trans (ef _ (by omega))⟩
      obtain ⟨c1, c2, c3⟩ := a1 j hj
      exact ⟨c1.trans (ef _ (by omega)), c2.trans (ef _ (by omega)), c3.trans (ef _ (by omega))⟩
    refine ⟨P g u, ⟨M g u, ⟨fun k z => (by injection z with z; omega), fun j hj => ?_⟩⟩, LE _ _ LL g u, ?_, ⟨rfl, by omega, RE2⟩, fun z => by cases z⟩
    · show hI g 1308000384 0 (64 * l + j) = _
      rw [em]; exact ef j hj
    · obtain ⟨r1, r2, -, r4⟩ := RE2
      exact ⟨r1, r2, fun i hi => by
        obtain ⟨c1, c2, c3, -, c5, -⟩ := r4 i hi
        exact ⟨c1, c2, c3, c5⟩⟩
theorem bill_ctx {e : Nat} {h : MH} (q : RHire h) (qb : RBoat h) {t T n : Nat} (hT : T ≤ 400) (cl : hI h 210 0 0 = nI T) (ht : t ≤ T) (hn : n ≤ 120) (ch : hI h 202 0 0 = nI n) : ∃ (H : HN) (m : Nat) (h1 : MH) (sw ca cb qq u : Nat → Nat), E L scr (d + 4) 108 [vR 900010 0, vI (nI t)] h = some (none, h1) ∧ VC h h1 h1 ∧ m ≤ n ∧ m = cnS h t ∧ (∀ i, i < n → H.o i < 72000 ∧ H.w i < 10 ∧ hI h 204000120 0 i = nI (H.w i)) ∧ (∀ i, i < m → sw i ≤ 9999 ∧ ca i ≤ 9 ∧ cb i ≤ 9 ∧ qq i ≤ 720 ∧ u i < 2 ^ 20) ∧ (∀ g, VC h h1 g → CK H m g ∧ ∀ i, i < m → hI g 1103000120 0 i = nI (sw i) ∧ hI g 1104000120 0 i = nI (10 * ca i + cb i) ∧ hI g 206000120 0 i = nI (qq i) ∧ fold (outF (awayB (hI g 205000120 0) (hI g 1102000120 0) (nI (H.o i))) (hI g 203000120 0)) 0 m = nI (u i)) ∧ ∀ g, Upd Scr h g → ∃ g1, E L scr (e + 4) 245 [vR 900012 0, vI (nI t)] g = some (none, g1) ∧ VM h g1 g1 ∧ ∀ g2, VM h g1 g2 → MK H m n g2 ∧ ∀ i, i < m → hI g2 1351000120 0 i = nI (sw i) ∧ hI g2 1352000120 0 i = nI (ca i) ∧ hI g2 1353000120 0 i = nI (cb i) ∧ hI g2 1342000120 0 i = nI (qq i) ∧ ∀ d, E L scr (d + 3) 249 [vR 900012 0, vI (nI (H.o i))] g2 = some (some (vI (nI (u i))), g2) := by
  obtain ⟨q1, q2, q3, q4, q5, n', T', nb, hn', hT', hnb, ch', mh, cl', ml, bn, tk, hk, hsep⟩ := id q
  have et : T' = T := (nI_eq (by omega) (by omega)).mp (by rw [← cl', cl])
  have en2 : n' = n := (nI_eq (by omega) (by omega)).mp (by rw [← ch', ch])
  subst et; subst en2
  obtain ⟨b1, nb', hnb', cb0, mb0, kdv⟩ := qb
  have hT := hT'
  obtain ⟨hm, B, S, C, eS, fS⟩ := see_g (L := L) (scr := scr) (d := d + 2) q 0 hT cl ht hn ch
  obtain ⟨m, hmd⟩ : ∃ m, m = cnS h t := ⟨_, rfl⟩
  rw [← hmd] at hm eS fS
  obtain ⟨h1, hh1⟩ : ∃ h1, h1 = withR h (vwL h 0 B S C m) := ⟨_, rfl⟩
  have u1 : Upd Scr h h1 := by rw [hh1]; exact vwx_Scr
  have eB : hI h1 1102000120 0 = B := by rw [hh1]; exact vwx_B
  have eSw : hI h1 1103000120 0 = S := by rw [hh1]; exact vwx_S
  have eCu : hI h1 1104000120 0 = C := by rw [hh1]; exact vwx_C
  have eN : hI h1 1101 0 0 = nI m := by rw [hh1]; exact vwx_n
  rw [← hh1] at eS
  obtain ⟨H, hH⟩ : ∃ H : HN, H = (fun i => nn (hI h 205000120 0 i), fun i => nn (bkS h t i), fun i => nn (hI h 204000120 0 i), fun i => nn (hI h 203000120 0 i), fun i => nn (hI h 201000020 0 (nn (hI h 203000120 0 i))), fun i => !decide (bkS h t i = -1)) := ⟨_, rfl⟩
  have Ho : ∀ i, H.o i = nn (hI h 205000120 0 i) := fun i => by rw [hH]; rfl
  have Hb : ∀ i, H.b i = nn (bkS h t i) := fun i => by rw [hH]; rfl
  have Hw : ∀ i, H.w i = nn (hI h 204000120 0 i) := fun i => by rw [hH]; rfl
  have Ht : ∀ i, H.bt i = nn (hI h 203000120 0 i) := fun i => by rw [hH]; rfl
  have Hk : ∀ i, H.kd i = nn (hI h 201000020 0 (nn (hI h 203000120 0 i))) := fun i => by rw [hH]; rfl
  have Hbk : ∀ i, H.bk i = !decide (bkS h t i = -1) := fun i => by rw [hH]; rfl
  have A : ∀ i, i < n' → (hI h 205000120 0 i = nI (H.o i) ∧ H.o i < 72000) ∧ (hI h 203000120 0 i = nI (H.bt i) ∧ H.bt i < 20 ∧ hI h 201000020 0 (H.bt i) = nI (H.kd i) ∧ H.kd i < 4) ∧ (hI h 204000120 0 i = nI (H.w i) ∧ H.w i < 10) ∧ (H.bk i = true → bkS h t i = nI (H.b i) ∧ H.o i ≤ H.b i ∧ H.b i / 720 = H.o i / 720 ∧ H.b i < 72000) ∧ (H.bk i = false → bkS h t i = -1) ∧ ∃ qv, qv ≤ 720 ∧ hI h 206000120 0 i = nI qv := fun i hi => by
    obtain ⟨⟨b, w, o, qv, e1, e2, e3, e4, e5, e6, e7, e8, e9⟩, -⟩ := hk i hi
    have ho : H.o i = o := by rw [Ho, e5, nn_nI (by omega)]
    have hb : H.bt i = b := by rw [Ht, e1, nn_nI (by omega)]
    have hw : H.w i = w := by rw [Hw, e3, nn_nI (by omega)]
    obtain ⟨kv, kv1, kv2⟩ := kdv b
    have hkd : H.kd i = kv := by rw [Hk, e1, nn_nI (by omega), kv2, nn_nI (by omega)]
    refine ⟨⟨by rw [e5, ho], by omega⟩, ⟨by rw [e1, hb], by omega, by rw [hb, kv2, hkd], by omega⟩, ⟨by rw [e3, hw], by omega⟩, fun z => ?_, fun z => ?_, qv, by omega, e7⟩
    · rcases bk_ok tk ht (show i < 120 by omega) with y | ⟨a, c, ea, ec, h1, h2, h3⟩
      · rw [Hbk, show bkS h t i = -1 from y, decide_eq_true rfl] at z; cases z
      · have ha : a = o := (nI_eq (by omega) (by omega)).mp (by rw [← ea, e5])
        have hc : H.b i = c := by rw [Hb, show bkS h t i = nI c from ec, nn_nI (by omega)]
        exact ⟨by rw [hc]; exact ec, by omega, by rw [hc, ho, ← ha]; exact h2, by omega⟩
    · rw [Hbk] at z
      cases y : decide (bkS h t i = -1) with
      | true => exact of_decide_eq_true y
      | false => rw [y] at z; cases z
  obtain ⟨sw, hsw⟩ : ∃ sw : Nat → Nat, sw = fun i => nn (swS h t i) := ⟨_, rfl⟩
  have SW : ∀ i, swS h t i = nI (sw i) ∧ sw i ≤ 9999 := fun i => by rw [hsw]; exact nn_ex (by decide) (sw_dec tk ht)
  obtain ⟨ca, hca⟩ : ∃ ca : Nat → Nat, ca = fun i => nn (tkS h t i) := ⟨_, rfl⟩
  obtain ⟨cb, hcb⟩ : ∃ cb : Nat → Nat, cb = fun i => nn (brS h t i) := ⟨_, rfl⟩
  have CU : ∀ i, tkS h t i = nI (ca i) ∧ ca i ≤ 9 ∧ brS h t i = nI (cb i) ∧ cb i ≤ 9 ∧ cuS h t i = nI (10 * ca i + cb i) := fun i => by
    obtain ⟨a, b, ha, hb, e1, e2, e3⟩ := cu_dec tk (t := t) (i := i) ht
    have f1 : ca i = a := by rw [hca]; show nn (tkS h t i) = a; rw [show tkS h t i = nI a from e1, nn_nI (by omega)]
    have f2 : cb i = b := by rw [hcb]; show nn (brS h t i) = b; rw [show brS h t i = nI b from e2, nn_nI (by omega)]
    rw [f1, f2]
    exact ⟨e1, ha, e2, hb, e3⟩
  obtain ⟨qq, hqq⟩ : ∃ qq : Nat → Nat, qq = fun i => nn (hI h 206000120 0 i) := ⟨_, rfl⟩
  have QQ : ∀ i, i < n' → hI h 206000120 0 i = nI (qq i) ∧ qq i ≤ 720 := fun i hi => by
    rw [hqq]
    obtain ⟨-, -, -, -, -, qv, h1, h2⟩ := A i hi
    exact nn_ex (by decide) ⟨qv, h1, h2⟩
  obtain ⟨u, hu⟩ : ∃ u : Nat → Nat, u = fun i => nn (fold (outF (awayB (hI h 205000120 0) B (nI (H.o i))) (hI h 203000120 0)) 0 m) := ⟨_, rfl⟩
  have UU : ∀ i, fold (outF (awayB (hI h 205000120 0) B (nI (H.o i))) (hI h 203000120 0)) 0 m = nI (u i) ∧ u i < 2 ^ 20 := fun i => by
    obtain ⟨x, hx, ex⟩ := out_u (p := awayB (hI h 205000120 0) B (nI (H.o i))) (bo := hI h 203000120 0) (m := m) (fun j hj => ⟨H.bt j, (A j (by omega)).2.1.2.1, (A j (by omega)).2.1.1⟩)
    have : u i = x := by rw [hu]; show nn _ = x; rw [ex, nn_nI (by omega)]
    rw [this]; exact ⟨ex, hx⟩
  refine ⟨H, m, h1, sw, ca, cb, qq, u, eS, ⟨u1, fun _ _ => rfl⟩, hm, hmd, fun i hi => ?_, fun i hi => ⟨(SW i).2, (CU i).2.1, (CU i).2.2.2.1, (QQ i (by omega)).2, (UU i).2⟩, fun g v => ?_, fun g ug => ?_⟩
  · obtain ⟨⟨-, a1⟩, -, ⟨a2, a3⟩, -⟩ := A i hi
    exact ⟨a1, a3, a2⟩
  · obtain ⟨vu, vr⟩ := v
    have r1 := vr 1102000120 (by decide)
    have r2 := vr 1103000120 (by decide)
    have r3 := vr 1104000120 (by decide)
    have r4 := vr 1101 (by decide)
    rw [eB] at r1
    rw [eSw] at r2
    rw [eCu] at r3
    refine ⟨⟨by rw [r4]; exact eN, by omega, fun i hi => ?_⟩, fun i hi => ⟨?_, ?_, ?_, ?_⟩⟩
    · obtain ⟨a1, a2, a3, a4, a5, -⟩ := A i (by omega)
      rw [vu.2 205000120 0 (by decide), vu.2 203000120 0 (by decide), vu.2 201000020 0 (by decide), vu.2 204000120 0 (by decide), r1, (fS i hi).1]
      exact ⟨a1, a2, a3, a4, a5⟩
    · rw [r2, (fS i hi).2.1]; exact (SW i).1
    · rw [r3, (fS i hi).2.2]; exact (CU i).2.2.2.2
    · rw [vu.2 _ _ (by decide)]; exact (QQ i (by omega)).1
    · rw [r1, vu.2 205000120 0 (by decide), vu.2 203000120 0 (by decide)]; exact (UU i).1
  · obtain ⟨B2, S2, C2, D2, eK, fK⟩ := kn_g (L := L) (scr := scr) (d := e + 3) (g := g) q hT cl ht hn ch (fun r hr => ug.2 _ _ (ScrH r hr))
    obtain ⟨g1, hg1⟩ : ∃ g1, g1 = withR g (knL g B2 S2 C2 D2 (nI t)) := ⟨_, rfl⟩
    have w1 : Upd Scr g g1 := by rw [hg1]; exact kn_Scr
    have f1 : hI g1 1350000120 0 = B2 := by rw [hg1]; exact kn_B
    have f2 : hI g1 1351000120 0 = S2 := by rw [hg1]; exact kn_S
    have f3 : hI g1 1352000120 0 = C2 := by rw [hg1]; exact kn_C
    have f4 : hI g1 1353000120 0 = D2 := by rw [hg1]; exact kn_D
    have f5 : hI g1 1354 0 0 = nI t := by rw [hg1]; exact kn_t
    rw [← hg1] at eK
    refine ⟨g1, eK, ⟨ug.tr w1, fun _ _ => rfl⟩, fun g2 v => ?_⟩
    obtain ⟨vu, vr⟩ := v
    have r1 := vr 1350000120 (by decide)
    have r2 := vr 1351000120 (by decide)
    have r3 := vr 1352000120 (by decide)
    have r4 := vr 1353000120 (by decide)
    have r5 := vr 1354 (by decide)
    rw [f1] at r1
    rw [f2] at r2
    rw [f3] at r3
    rw [f4] at r4
    have t5 : hI g2 1354 0 0 = nI t := by rw [r5]; exact f5
    have td : ∀ i, i < n' → decide (hI h 207000120 0 i ≤ nI t) = decide (i < m) := fun i hi => by rw [hmd]; exact told_dec hT ht hk hi
    have m3 : hI g2 1336 0 0 = nI n' := by rw [vu.2 _ _ (by decide)]; exact mh
    refine ⟨⟨m3, hn, hm, fun i hi => ?_⟩, fun i hi => ⟨?_, ?_, ?_, ?_, fun d => ?_⟩⟩
    · obtain ⟨a1, a2, a3, a4, a5, -⟩ := A i hi
      rw [vu.2 1341000120 0 (by decide), vu.2 1339000120 0 (by decide), vu.2 1338000020 0 (by decide), vu.2 1340000120 0 (by decide), vu.2 1343000120 0 (by decide), r1, t5, ← q1, ← q2, ← q3, ← q5, ← b1, (fK i hi).1]
      exact ⟨a1, a2, a3, td i hi, fun _ => a4, fun _ => a5⟩
    · rw [r2, (fK i (by omega)).2.1]; exact (SW i).1
    · rw [r3, (fK i (by omega)).2.2.1]; exact (CU i).1
    · rw [r4, (fK i (by omega)).2.2.2]; exact (CU i).2.2.1
    · rw [vu.2 1342000120 0 (by decide), ← q4]; exact (QQ i (by omega)).1
    · have oe := out_eq (oa := hI h 205000120 0) (bo := hI h 203000120 0) (B := B) (B2 := B2) (tb := hI h 207000120 0) (x := nI (H.o i)) (t := t) (m := m) (n := n') hm td (fun j hj => by rw [(fS j hj).1, (fK j (by omega)).1])
      rw [c_M_outSet (d := d) hn (nI (H.o i)) m3, t5, r1, vu.2 1341000120 0 (by decide), vu.2 1339000120 0 (by decide), vu.2 1343000120 0 (by decide), ← q1, ← q3, ← q5, oe, (UU i).1]
end Ctx

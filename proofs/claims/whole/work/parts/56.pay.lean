/-! CALL: pay -/
/-- the purses after the first k parties have paid -/
def prP (ch : Nat → Option Nat) (pv : Nat → Int32) (x : Int32) (pu : Nat → Int32) : Nat → Nat → Int32
  | 0 => pu
  | k + 1 => match ch k with
    | none => prP ch pv x pu k
    | some g => up (prP ch pv x pu k) g (prP ch pv x pu k g + (pv k * x) / 100)
section Pay
variable {L : Nat} {scr : Nat → Int32} {d : Nat}
abbrev WG : List (Nat × Nat) := SGuide ++ SParty ++ Scr
theorem c_payOut {f : MH} {P n : Nat} {ch : Nat → Option Nat} {pv pu : Nat → Int32} (x : Int32) (hP : P ≤ 8) (hn : n ≤ 8) (hch : ∀ k g, ch k = some g → g < n) (eP : hI f 503 0 0 = nI P) (eG : ∀ k, k < P → hI f 506000008 0 k = oI (ch k)) (ep : hI f 505000008 0 = pv) (eu : hI f 502000008 0 = pu) : E L scr (d + 1) 50 [vR 900004 0, vI x] f = some (none, sI (withR f [(502000008, 0, prP ch pv x pu P)]) 503 0 0 0) := by
  have fm : ∀ (r : Nat → Int32) s, s ≠ 502000008 → hI (withR f [(502000008, 0, r)]) s 0 = hI f s 0 := fun r s hs => by rw [withR_miss (fun z => hs z.1)]; rfl
  have f0 : withR f [(502000008, 0, prP ch pv x pu 0)] = f := by
    show withR f [(502000008, 0, pu)] = f
    rw [← eu]; exact withR_id1 (r := []) rfl
  refine r_Guides_payOut _ _ _ (Sm.step (t' := 1) (lo' := [some (vR 900004 0), some (vI x), some (vI 0)]) (st' := []) (h' := withR f [(502000008, 0, prP ch pv x pu 0)]) (by rw [t_Guides_payOut_0, f0]) ?_)
  refine Sm.for (lo := fun k => [some (vR 900004 0), some (vI x), some (vI (nI k))]) (hh := fun k => withR f [(502000008, 0, prP ch pv x pu k)]) P (fun k hk => ?_) (Sm.ret ?_)
  · have ok : ¬ oob (nI k) 8 := oob_nI (by omega) (by decide)
    rw [t_Guides_payOut_1, fm _ _ (by decide), eP, if_neg (nI_ge hk (by omega)), rd_Guides_guideOf ok, ix_nI (by omega), fm _ _ (by decide), eG k hk, nI_1]
    cases e : ch k with
    | none =>
      have e2 : prP ch pv x pu (k + 1) = prP ch pv x pu k := by show (match ch k with | none => _ | some g => _) = _; rw [e]
      rw [if_pos (show oI none < 0 by decide), e2]
    | some g =>
      have hg := hch k g e
      have og : ¬ oob (oI (some g)) 8 := show ¬ oob (nI g) 8 from oob_nI (by omega) (by decide)
      have e2 : prP ch pv x pu (k + 1) = up (prP ch pv x pu k) g (prP ch pv x pu k g + (pv k * x) / 100) := by show (match ch k with | none => _ | some g => _) = _; rw [e]
      rw [if_neg (show ¬ oI (some g) < 0 from nI_nlt (b := 0) (by omega) (by omega)), rd_Guides_guideOf ok, ix_nI (by omega), fm _ _ (by decide), eG k hk, e, rd_Guides_purse og, show ix (oI (some g)) = g from ix_nI (by omega), withR_hit, rd_Guides_pays ok, ix_nI (by omega), fm _ _ (by decide), ep, dvI_ok (by decide), wr_Guides_purse og, show ix (oI (some g)) = g from ix_nI (by omega), withR_set, e2]
  · rw [t_Guides_payOut_1, fm _ _ (by decide), eP, if_pos (nI_le (Nat.le_refl _) (by omega))]
theorem call_pay (x : Int32) (h : MH) (qg : RGuide h) (qp : RParty h) : Both L scr (d + 40) WG (fun h => RGuide h ∧ RParty h) 161 310 [vR 900011 0, vI x] [vR 900012 0, vI x] h := by
  obtain ⟨g1, g2, n, hn, en, em⟩ := id qg
  obtain ⟨p1, p2, P, hP, eP, emP, p3⟩ := id qp
  cases hx : inB x 0 100 with
  | false =>
    refine both0 (vI (-1)) (r_P_pay _ _ _ (Sm.ret ?_)) (r_M_pay _ _ _ (Sm.ret ?_)) ⟨qg, qp⟩
    · rw [t_P_pay_0, c_P_within, clI_ok, hx, itF]
    · rw [t_M_pay_0, c_M_isIn, clI_ok, hx, itF]
  | true =>
    obtain ⟨pay, hpay⟩ : ∃ pay : Nat → Nat, pay = fun k => nn (hI h 505000008 0 k) := ⟨_, rfl⟩
    have hp : ∀ k, hI h 505000008 0 k = nI (pay k) ∧ pay k ≤ 999 := fun k => by rw [hpay]; exact nn_ex (by decide) (p3 k)
    obtain ⟨W, hW⟩ : ∃ W, W = hI h 504000008 0 := ⟨_, rfl⟩
    obtain ⟨K, hK⟩ : ∃ K, K = hI h 501000008 0 := ⟨_, rfl⟩
    obtain ⟨pu, hpu⟩ : ∃ pu, pu = hI h 502000008 0 := ⟨_, rfl⟩
    obtain ⟨pv, hpv⟩ : ∃ pv, pv = hI h 505000008 0 := ⟨_, rfl⟩
    obtain ⟨ch, hch⟩ : ∃ ch : Nat → Option Nat, ch = fun k => chP n P pay W K pu k (mkP n P pay W K pu k) := ⟨_, rfl⟩
    have chl : ∀ k g, ch k = some g → g < n := fun k g e => by rw [hch] at e; exact (chG_some e).1
    obtain ⟨f, eF, uF, fG, fS, fC⟩ := c_solve (L := L) (scr := scr) (d := d + 35) (h := h) (n := n) (P := P) (pay := pay) (W := W) (K := K) (pu := pu) hn hP en eP (fun k _ => (hp k).1) (fun k => (hp k).2) hW.symm hK.symm hpu.symm
    have ePay := c_payOut (L := L) (scr := scr) (d := d + 38) (f := f) (P := P) (n := n) (ch := ch) (pv := pv) (pu := pu) x hP hn chl (by rw [uF.2 _ _ (by decide)]; exact eP) (fun k hk => by rw [fG k hk, hch]) (by rw [uF.2 _ _ (by decide), hpv]) (by rw [uF.2 _ _ (by decide), hpu])
    obtain ⟨f2, hf2⟩ : ∃ f2, f2 = sI (withR f [(502000008, 0, prP ch pv x pu P)]) 503 0 0 0 := ⟨_, rfl⟩
    rw [← hf2] at ePay
    have uf : Upd WG h f := uF.mono (fun q hq => List.mem_append_right _ hq)
    have uf2 : Upd WG h f2 := uf.tr (by
      rw [hf2]
      refine Upd.sI (withR_Upd (fun q hq => ?_)) (by decide)
      rw [List.mem_singleton] at hq
      subst hq
      dsimp only
      decide)
    have fm : ∀ s, s ≠ 502000008 → s ≠ 503 → hI f2 s 0 = hI f s 0 := fun s h1 h2 => by
      rw [hf2, hI_rn (fun z => h2 z.1), withR_miss (fun z => h1 z.1)]; rfl
    have fh : ∀ s, s ≠ 502000008 → s ≠ 503 → (s, 0) ∉ Scr → hI f2 s 0 = hI h s 0 := fun s h1 h2 h3 => by rw [fm s h1 h2, uF.2 _ _ h3]
    obtain ⟨t, eT, uT, tG, tB⟩ := c_M_guides (L := L) (scr := scr) (d := d + 36) (h := f2) (n := n) (P := P) (pay := pay) (W := W) (K := K) (pu := pu) hn hP (by rw [fh _ (by decide) (by decide) (by decide)]; exact em) (by rw [fh _ (by decide) (by decide) (by decide)]; exact emP) (fun k _ => by rw [fh _ (by decide) (by decide) (by decide), show hI h 1371000008 0 = hI h 505000008 0 from p2.symm]; exact (hp k).1) (fun k => (hp k).2) (by rw [fh _ (by decide) (by decide) (by decide), hW]; exact p1.symm) (by rw [fh _ (by decide) (by decide) (by decide), hK]; exact g1.symm) (by rw [fh _ (by decide) (by decide) (by decide), hpu]; exact g2.symm)
    have tP : hI t 1367 0 0 = nI P := by rw [uT.2 _ _ (by decide), fh _ (by decide) (by decide) (by decide)]; exact emP
    have tu : hI t 1369000008 0 = pu := by rw [uT.2 _ _ (by decide), fh _ (by decide) (by decide) (by decide), hpu]; exact g2.symm
    have tv : hI t 1371000008 0 = pv := by rw [uT.2 _ _ (by decide), fh _ (by decide) (by decide) (by decide), hpv]; exact p2.symm
    have tm : ∀ (r : Nat → Int32) s, s ≠ 1369000008 → hI (withR t [(1369000008, 0, r)]) s 0 = hI t s 0 := fun r s hs => by rw [withR_miss (fun z => hs z.1)]; rfl
    have t0 : withR t [(1369000008, 0, prP ch pv x pu 0)] = t := by
      show withR t [(1369000008, 0, pu)] = t
      rw [← tu]; exact withR_id1 (r := []) rfl
    obtain ⟨t2, ht2⟩ : ∃ t2, t2 = sI (withR t [(1369000008, 0, prP ch pv x pu P)]) 1367 0 0 0 := ⟨_, rfl⟩
    have ut2 : Upd WG h t2 := (uf2.tr (uT.mono (fun q hq => List.mem_append_right _ hq))).tr (by
      rw [ht2]
      refine Upd.sI (withR_Upd (fun q hq => ?_)) (by decide)
      rw [List.mem_singleton] at hq
      subst hq
      dsimp only
      decide)
    have th : ∀ s, s ≠ 1369000008 → s ≠ 1367 → (s, 0) ∉ Scr → hI t2 s 0 = hI f2 s 0 := fun s h1 h2 h3 => by
      rw [ht2, hI_rn (fun z => h2 z.1), tm _ s h1, uT.2 _ _ h3]
    refine ⟨vI (nI (svP n P pay W K pu P)), f2, t2, r_P_pay _ _ _ (Sm.ret ?_), r_M_pay _ _ _ (Sm.step (t' := 2) (lo' := [some (vR 900012 0), some (vI x), some (vI (nI (svP n P pay W K pu 0))), some (vI 0)]) (st' := []) (h' := withR t [(1369000008, 0, prP ch pv x pu 0)]) ?_ ?_), ut2, ?_, ?_⟩
    · rw [t_P_pay_0, c_P_within, clI_ok, hx, itT, eF, clV_ok, ePay, clV_ok, fm _ (by decide) (by decide), fS]
    · rw [t_M_pay_0, c_M_isIn, clI_ok, hx, itT, eT, clV_ok, t0]; rfl
    · refine Sm.for (lo := fun k => [some (vR 900012 0), some (vI x), some (vI (nI (svP n P pay W K pu k))), some (vI (nI k))]) (hh := fun k => withR t [(1369000008, 0, prP ch pv x pu k)]) P (fun k hk => ?_) (Sm.ret ?_)
      · have ok : ¬ oob (nI k) 8 := oob_nI (by omega) (by decide)
        rw [t_M_pay_2, tm _ _ (by decide), tP, if_neg (nI_ge hk (by omega)), rd_M_guideOf ok, ix_nI (by omega), tm _ _ (by decide), tG k hk, nI_1]
        have ek : ch k = chP n P pay W K pu k (mkP n P pay W K pu k) := by rw [hch]
        rw [← ek]
        cases e : ch k with
        | none =>
          have e2 : prP ch pv x pu (k + 1) = prP ch pv x pu k := by show (match ch k with | none => _ | some g => _) = _; rw [e]
          have s1 : svP n P pay W K pu (k + 1) = svP n P pay W K pu k := by show (match chP n P pay W K pu k (mkP n P pay W K pu k) with | none => _ | some g => _) = _; rw [← ek, e]
          rw [if_pos (show oI none = -1 from rfl), e2, s1]
        | some g =>
          have hg := chl k g e
          have og : ¬ oob (oI (some g)) 8 := show ¬ oob (nI g) 8 from oob_nI (by omega) (by decide)
          have e2 : prP ch pv x pu (k + 1) = up (prP ch pv x pu k) g (prP ch pv x pu k g + (pv k * x) / 100) := by show (match ch k with | none => _ | some g => _) = _; rw [e]
          have s1 : svP n P pay W K pu (k + 1) = svP n P pay W K pu k + 1 := by show (match chP n P pay W K pu k (mkP n P pay W K pu k) with | none => _ | some g => _) = _; rw [← ek, e]
          rw [if_neg (show ¬ oI (some g) = -1 from nI_ne1 (by omega)), rd_M_guideOf ok, ix_nI (by omega), tm _ _ (by decide), tG k hk, ← ek, e, rd_M_guideEarned og, show ix (oI (some g)) = g from ix_nI (by omega), withR_hit, rd_M_partyCoin ok, ix_nI (by omega), tm _ _ (by decide), tv, dvI_ok (by decide), wr_M_guideEarned og, show ix (oI (some g)) = g from ix_nI (by omega), withR_set, e2, s1, nI_1]
      · rw [t_M_pay_2, tm _ _ (by decide), tP, if_pos (nI_le (Nat.le_refl _) (by omega)), ht2]
    · -- the guides' rows
      have c1 : hI t2 501000008 0 = hI h 501000008 0 := by rw [th _ (by decide) (by decide) (by decide), fh _ (by decide) (by decide) (by decide)]
      have c2 : hI t2 500 0 = hI h 500 0 := by rw [th _ (by decide) (by decide) (by decide), fh _ (by decide) (by decide) (by decide)]
      have c3 : hI t2 1368000008 0 = hI h 1368000008 0 := by rw [th _ (by decide) (by decide) (by decide), fh _ (by decide) (by decide) (by decide)]
      have c4 : hI t2 1366 0 = hI h 1366 0 := by rw [th _ (by decide) (by decide) (by decide), fh _ (by decide) (by decide) (by decide)]
      have c5 : hI t2 502000008 0 = prP ch pv x pu P := by rw [th _ (by decide) (by decide) (by decide), hf2, hI_rn (by decide), withR_hit]
      have c6 : hI t2 1369000008 0 = prP ch pv x pu P := by rw [ht2, hI_rn (by decide), withR_hit]
      unfold RGuide PGuide
      rw [c1, c2, c3, c4, c5, c6]
      exact ⟨g1, rfl, n, hn, en, em⟩
    · have c1 : hI t2 504000008 0 = hI h 504000008 0 := by rw [th _ (by decide) (by decide) (by decide), fh _ (by decide) (by decide) (by decide)]
      have c2 : hI t2 505000008 0 = hI h 505000008 0 := by rw [th _ (by decide) (by decide) (by decide), fh _ (by decide) (by decide) (by decide)]
      have c3 : hI t2 1370000008 0 = hI h 1370000008 0 := by rw [th _ (by decide) (by decide) (by decide), fh _ (by decide) (by decide) (by decide)]
      have c4 : hI t2 1371000008 0 = hI h 1371000008 0 := by rw [th _ (by decide) (by decide) (by decide), fh _ (by decide) (by decide) (by decide)]
      have c5 : hI t2 503 0 0 = nI 0 := by rw [th _ (by decide) (by decide) (by decide), hf2, hI_rs, up_s]; rfl
      have c6 : hI t2 1367 0 0 = nI 0 := by rw [ht2, hI_rs, up_s]; rfl
      unfold RParty PParty
      rw [c1, c2, c3, c4]
      exact ⟨p1, p2, 0, by omega, c5, c6, p3⟩
end Pay

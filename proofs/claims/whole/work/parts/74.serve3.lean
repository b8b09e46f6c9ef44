/-! CALLS: keep, least -/
section Serve2
variable {L : Nat} {scr : Nat → Int32} {d : Nat}
/-- where the reference's weights lie -/
def rcB (n k s : Nat) : Prop := s < 36 ∧ (if 2 ≤ n then s / 6 else 0) + (if 3 ≤ n then s % 6 else 0) ≤ k
theorem rc_ad {P : Nat → Prop} {f : Nat → Nat} {i v : Nat} (hf : ∀ t, f t ≠ 0 → P t) (hv : v ≠ 0 → P i) : ∀ t, adT f i v t ≠ 0 → P t := by
  intro t
  unfold adT
  by_cases c : t = i
  · rw [if_pos c]
    intro z
    by_cases e : v = 0
    · rw [e, Nat.add_zero] at z; exact hf t z
    · rw [c]; exact hv e
  · rw [if_neg c]; exact hf t
theorem rc_ro {P : Nat → Prop} {c : Nat → Nat} {b w : Nat} {nx f : Nat → Nat} (hf : ∀ t, f t ≠ 0 → P t) : ∀ {m}, (∀ p, p < m → w ≠ 0 → P (nx p)) → ∀ t, roP c b nx w f m t ≠ 0 → P t
  | 0, _ => hf
  | m + 1, h => rc_ad (rc_ro hf (fun p hp => h p (by omega))) (fun z => h m (by omega) (fun e => z (by rw [e, Nat.zero_mul])))
theorem rc_st {P : Nat → Prop} {c : Nat → Nat} {b : Nat} {nx : Nat → Nat → Nat} {V : Nat → Nat} (hV : ∀ t, V t ≠ 0 → P t) (hn : ∀ s, P s → ∀ p, p < 6 → P (nx s p)) : ∀ j t, stP c b nx V j t ≠ 0 → P t
  | 0, _, h => absurd rfl h
  | j + 1, t, h => rc_ro (rc_st hV hn j) (fun p hp z => hn j (hV j z) p hp) t h
theorem rc_wt {c : Nat → Nat} {n k : Nat} (hn : 1 ≤ n) (hn3 : n ≤ 3) : ∀ h t, wtP c (nxM n k) h t ≠ 0 → rcB n k t
  | 0, t, h => by
    have : t = 0 := by
      by_cases c : t = 0
      · exact c
      · exact absurd (if_neg c) h
    subst this
    unfold rcB
    refine ⟨by decide, ?_⟩
    split <;> split <;> omega
  | h + 1, t, z => by
    refine rc_st (P := rcB n k) (rc_wt hn hn3 h) ?_ 36 t z
    intro s hs p hp
    have lt := nxM_ok n k s hs.1 p hp
    refine ⟨lt, ?_⟩
    have h2 := hs.2
    have h1 := hs.1
    unfold nxM thM
    rcases (show n = 1 ∨ n = 2 ∨ n = 3 by omega) with rfl | rfl | rfl
    · rw [if_neg (by decide), if_neg (by decide)]; omega
    · simp at h2 ⊢; omega
    · simp at h2 ⊢; omega
theorem roS_le10 {c : Nat → Nat} (hw : Wh c) {i t : Nat} (hi : i < 12) : goS c (6 * i) t 6 ≤ 50 := by
  have := roS_le (c := c) (b := 6 * i) (g := fun p => min p t) (m := 5) (n := 6) (fun p hp => by show min p t ≤ 5; omega)
  rw [hw i hi] at this
  exact this
theorem c_M_served {h : MH} {c : Nat → Nat} (hc : ∀ k, hI h 1357000072 0 k = nI (c k) ∧ c k ≤ 10) (hw : Wh c) {k n : Nat} (hk : k ≤ 12) (hn : 1 ≤ n) (hn3 : n ≤ 3) : ∃ h', E L scr (d + 2) 292 [vR 900012 0, vI (nI k), vI (nI n)] h = some (some (vL (lN (vaP c (nxC n k) (thC k) 12 0))), h') ∧ UpdJ h h' := by
  obtain ⟨g1, hg1⟩ : ∃ g1, g1 = hJ h 1358300036 0 := ⟨_, rfl⟩
  obtain ⟨g2, hg2⟩ : ∃ g2, g2 = hJ h 1359300036 0 := ⟨_, rfl⟩
  have ok : NxOk (nxM n k) := nxM_ok n k
  have bd : ∀ {h t}, h ≤ 12 → t < 36 → wtP c (nxM n k) h t < 2 ^ 63 := fun hh ht => wt_le hw ok hh ht
  have rc := rc_wt (c := c) (k := k) hn hn3
  rw [va_CM hn hn3]
  obtain ⟨nx, hnx⟩ : ∃ nx, nx = nxM n k := ⟨_, rfl⟩
  obtain ⟨th, hth⟩ : ∃ th, th = thM n k := ⟨_, rfl⟩
  rw [← hnx] at ok bd rc
  rw [← hnx, ← hth]
  obtain ⟨H, hH⟩ : ∃ H : (Nat → Int64) → (Nat → Int64) → MH, H = fun W G => rowJ (rowJ h 1359300036 G) 1358300036 W := ⟨_, rfl⟩
  have HW : ∀ W G, hJ (H W G) 1358300036 0 = W := fun W G => by rw [hH]; exact rowJ_at
  have HG : ∀ W G, hJ (H W G) 1359300036 0 = G := fun W G => by rw [hH]; exact (rowJ_ne (by decide)).trans rowJ_at
  have HsW : ∀ W G i v, sJ (H W G) 1358300036 0 i v = H (upJ W i v) G := fun W G i v => by rw [rowJ_sJ, HW, hH]; exact rowJ_rr
  have HsG : ∀ W G i v, sJ (H W G) 1359300036 0 i v = H W (upJ G i v) := fun W G i v => by
    rw [rowJ_sJ, HG, hH]
    show rowJ (rowJ (rowJ h 1359300036 G) 1358300036 W) 1359300036 (upJ G i v) = _
    rw [rowJ_sw (by decide), rowJ_rr]
  have Hc : ∀ W G k, hI (H W G) 1357000072 0 k = nI (c k) ∧ c k ≤ 10 := fun W G => by rw [hH]; exact hc
  have H0 : H g1 g2 = h := by rw [hH, hg1, hg2]; show rowJ (rowJ h 1359300036 (hJ h 1359300036 0)) 1358300036 _ = h; rw [rowJ_id, rowJ_id]
  have HU : ∀ W G, UpdJ h (H W G) := fun W G => by rw [hH]; exact ((UpdJ.rf h).row _ _).row _ _
  refine ⟨H (lr (wtP c nx 12) g1) (lr (wtP c nx 12) g2), r_M_served _ _ _ _ (Sm.step (t' := 1) (lo' := [some (vR 900012 0), some (vI (nI k)), some (vI (nI n)), some (vI (nI 0)), none, none, none, none, none, none, none, none, none, none, none]) (st' := []) (h' := H (cpR g1 (fun t => lN (wtP c nx 0 t)) 0) g2) ?_ ?_), HU _ _⟩
  · rw [t_M_served_0, cpR_0, H0]; rfl
  refine Sm.for (lo := fun j => [some (vR 900012 0), some (vI (nI k)), some (vI (nI n)), some (vI (nI j)), none, none, none, none, none, none, none, none, none, none, none]) (hh := fun j => H (cpR g1 (fun t => lN (wtP c nx 0 t)) j) g2) 36 (fun j hj => ?_) (Sm.step (t' := 5) (lo' := [some (vR 900012 0), some (vI (nI k)), some (vI (nI n)), some (vL (lN (toP c nx th 0))), none, some (vL (lN (10 ^ (12 - 0)))), none, some (vI (nI 0)), none, none, none, none, none, none, none]) (st' := []) (h' := H (lr (wtP c nx 0) g1) g2) ?_ ?_)
  · rw [t_M_served_1, if_neg (show ¬ (36 : Int32) ≤ nI j from nI_ge (b := 36) hj (by decide)), ← cpR_s, ← HsW]
    by_cases z : j = 0
    · subst z
      rw [if_pos (show nI 0 = 0 from rfl), wr_M_weigh (oob_nI (by decide) (by decide)), ix_nI (by decide), nI_1]; rfl
    · rw [if_neg (show ¬ nI j = 0 from fun e => z ((nI_eq (b := 0) (by omega) (by decide)).mp e)), wr_M_weigh (oob_nI hj (by decide)), ix_nI (by omega), nI_1, show wtP c nx 0 j = 0 from if_neg z]; rfl
  · rw [t_M_served_1, if_pos (by decide)]; rfl
  refine Sm.inv0 (P := fun i lo h' => ∃ z8 z9 z10 z11 z12 z13 z14 G, lo = [some (vR 900012 0), some (vI (nI k)), some (vI (nI n)), some (vL (lN (toP c nx th i))), none, some (vL (lN (10 ^ (12 - i)))), none, some (vI (nI i)), z8, z9, z10, z11, z12, z13, z14] ∧ h' = H (lr (wtP c nx i) g1) G ∧ (0 < i → G = lr (wtP c nx i) g2) ∧ cpR G (fun _ => 0) 36 = lr (fun _ => 0) g2) 12 ⟨_, _, _, _, _, _, _, _, rfl, rfl, fun z => absurd z (Nat.lt_irrefl 0), lr_0⟩ ?_ ?_
  · rintro i hi _ _ ⟨z8, z9, z10, z11, z12, z13, z14, G, rfl, rfl, -, hG⟩ kk
    obtain ⟨T, hT⟩ : ∃ T, T = toP c nx th i := ⟨_, rfl⟩
    obtain ⟨R, hR⟩ : ∃ R, R = 10 ^ (11 - i) := ⟨_, rfl⟩
    have ht1 : toP c nx th (i + 1) = T + R * hoP c nx th i 36 := by rw [hT, hR]; rfl
    have e12 : (10 : Nat) ^ (12 - i) < 2 ^ 63 := Nat.lt_of_le_of_lt (Nat.pow_le_pow_right (by decide) (show 12 - i ≤ 12 by omega)) (by decide)
    have hd : 10 ^ (12 - i) / 10 = R := by rw [hR, show 12 - i = (11 - i) + 1 by omega, Nat.pow_succ, Nat.mul_div_cancel _ (by decide)]
    obtain ⟨gs, hgs⟩ : ∃ gs, gs = fun s => goS c (6 * i) (th s) 6 := ⟨_, rfl⟩
    obtain ⟨V, hV⟩ : ∃ V, V = wtP c nx i := ⟨_, rfl⟩
    have hho : hoP c nx th i 36 = phi gs V 36 := by rw [hgs, hV]; rfl
    have hst : wtP c nx (i + 1) = stP c (6 * i) nx V 36 := by rw [hV]; rfl
    have bV : ∀ t, t < 36 → V t < 2 ^ 63 := fun t ht => by rw [hV]; exact bd (by omega) ht
    have rV : ∀ t, V t ≠ 0 → rcB n k t := fun t ht => by rw [hV] at ht; exact rc i t ht
    rw [← hV, ← hT]
    refine Sm.step (t' := 6) (lo' := [some (vR 900012 0), some (vI (nI k)), some (vI (nI n)), some (vL (lN T)), none, some (vL (lN R)), none, some (vI (nI i)), some (vI (nI 0)), z9, z10, z11, z12, z13, z14]) (st' := []) (h' := H (lr V g1) (cpR G (fun _ => 0) 0)) ?_ ?_
    · rw [t_M_served_5, if_neg (show ¬ (12 : Int32) ≤ nI i from nI_ge (b := 12) hi (by decide)), dvJ_ok (by decide), show (10 : Int64) = lN 10 from rfl, lNdiv e12 (by decide), hd, cpR_0]; rfl
    refine Sm.for (lo := fun j => [some (vR 900012 0), some (vI (nI k)), some (vI (nI n)), some (vL (lN T)), none, some (vL (lN R)), none, some (vI (nI i)), some (vI (nI j)), z9, z10, z11, z12, z13, z14]) (hh := fun j => H (lr V g1) (cpR G (fun _ => 0) j)) 36 (fun j hj => ?_) (Sm.step (t' := 8) (lo' := [some (vR 900012 0), some (vI (nI k)), some (vI (nI n)), some (vL (lN (T + R * phi gs V 0))), none, some (vL (lN R)), none, some (vI (nI i)), some (vI (nI 0)), z9, z10, z11, z12, z13, z14]) (st' := []) (h' := H (lr V g1) (lr (stP c (6 * i) nx V 0) g2)) ?_ ?_)
    · rw [t_M_served_6, if_neg (show ¬ (36 : Int32) ≤ nI j from nI_ge (b := 36) hj (by decide)), wr_M_next (oob_nI hj (by decide)), ix_nI (by omega), HsG, ← cpR_s, nI_1]
    · rw [t_M_served_6, if_pos (by decide), hG]; rfl
    refine Sm.inv0 (P := fun l lo h' => ∃ z9 z10 z11 z12 z13 z14, lo = [some (vR 900012 0), some (vI (nI k)), some (vI (nI n)), some (vL (lN (T + R * phi gs V (6 * l)))), none, some (vL (lN R)), none, some (vI (nI i)), some (vI (nI l)), z9, z10, z11, z12, z13, z14] ∧ h' = H (lr V g1) (lr (stP c (6 * i) nx V (6 * l)) g2)) 6 ⟨_, _, _, _, _, _, rfl, rfl⟩ ?_ ?_
    · rintro l hl _ _ ⟨z9, z10, z11, z12, z13, z14, rfl, rfl⟩ kk2
      refine Sm.step (t' := 9) (lo' := [some (vR 900012 0), some (vI (nI k)), some (vI (nI n)), some (vL (lN (T + R * phi gs V (6 * l + 0)))), none, some (vL (lN R)), none, some (vI (nI i)), some (vI (nI l)), some (vI (nI 0)), z10, z11, z12, z13, z14]) (st' := []) (h' := H (lr V g1) (lr (stP c (6 * i) nx V (6 * l + 0)) g2)) ?_ ?_
      · rw [t_M_served_8, if_neg (show ¬ (6 : Int32) ≤ nI l from nI_ge (b := 6) hl (by decide))]; rfl
      refine Sm.inv0 (P := fun a lo h' => ∃ z10 z11 z12 z13 z14, lo = [some (vR 900012 0), some (vI (nI k)), some (vI (nI n)), some (vL (lN (T + R * phi gs V (6 * l + a)))), none, some (vL (lN R)), none, some (vI (nI i)), some (vI (nI l)), some (vI (nI a)), z10, z11, z12, z13, z14] ∧ h' = H (lr V g1) (lr (stP c (6 * i) nx V (6 * l + a)) g2)) 6 ⟨_, _, _, _, _, rfl, rfl⟩ ?_ ?_
      · rintro a ha _ _ ⟨z10, z11, z12, z13, z14, rfl, rfl⟩ kk3
        obtain ⟨s, hs⟩ : ∃ s, s = 6 * l + a := ⟨_, rfl⟩
        have hs36 : s < 36 := by omega
        have e1 : s / 6 = l := by omega
        have e2 : s % 6 = a := by omega
        obtain ⟨w, hw'⟩ : ∃ w, w = V s := ⟨_, rfl⟩
        have bw : w < 2 ^ 63 := by rw [hw']; exact bV s hs36
        obtain ⟨B, hB⟩ : ∃ B, B = (if 2 ≤ n then l else 0) + (if 3 ≤ n then a else 0) := ⟨_, rfl⟩
        have hB12 : B ≤ 12 := by rw [hB]; split <;> split <;> omega
        have kk3' := kk3
        simp only [← Nat.add_assoc, ← hs] at kk3'
        rw [← hs]
        obtain ⟨ph, hph⟩ : ∃ ph, ph = T + R * phi gs V s := ⟨_, rfl⟩
        have hph1 : T + R * phi gs V (s + 1) = ph + R * (w * gs s) := by
          rw [hph, hw']
          show T + R * (phi gs V s + V s * gs s) = _
          rw [Nat.mul_add, Nat.add_assoc]
        obtain ⟨N0, hN0⟩ : ∃ N0, N0 = stP c (6 * i) nx V s := ⟨_, rfl⟩
        have hN1 : stP c (6 * i) nx V (s + 1) = roP c (6 * i) (nx s) w N0 6 := by rw [hw', hN0]; rfl
        rw [← hph, ← hN0]
        simp only [hph1, hN1] at kk3'
        refine Sm.step (t' := 14) (lo' := [some (vR 900012 0), some (vI (nI k)), some (vI (nI n)), some (vL (lN ph)), none, some (vL (lN R)), none, some (vI (nI i)), some (vI (nI l)), some (vI (nI a)), some (vL (lN w)), none, some (vI (nI k - nI B)), some (vI (nI 0)), z14]) (st' := []) (h' := H (lr V g1) (lr N0 g2)) ?_ ?_
        · rw [t_M_served_9, if_neg (show ¬ (6 : Int32) ≤ nI a from nI_ge (b := 6) ha (by decide)), show (6 : Int32) = nI 6 from rfl, nI_mul, nI_add, ← hs, rd_M_weigh (oob_nI hs36 (by decide)), ix_nI (by omega), HW, lr_at hs36, ← hw', hB]
          rcases (show n = 1 ∨ n = 2 ∨ n = 3 by omega) with rfl | rfl | rfl
          · rw [if_pos (by decide), if_pos (by decide), if_neg (by decide), if_neg (by decide), show (0 : Int32) = nI 0 from rfl, sub_sub_nI]
          · rw [if_neg (by decide), if_pos (by decide), if_pos (by decide), if_neg (by decide), show (0 : Int32) = nI 0 from rfl, sub_sub_nI]
          · rw [if_neg (by decide), if_neg (by decide), if_pos (by decide), if_pos (by decide), sub_sub_nI]; rfl
        by_cases z : w = 0
        · refine Sm.step (t' := 9) (lo' := [some (vR 900012 0), some (vI (nI k)), some (vI (nI n)), some (vL (lN (ph + R * (w * gs s)))), none, some (vL (lN R)), none, some (vI (nI i)), some (vI (nI l)), some (vI (nI (a + 1))), some (vL (lN w)), none, some (vI (nI k - nI B)), some (vI (nI 0)), z14]) (st' := []) (h' := H (lr V g1) (lr (roP c (6 * i) (nx s) w N0 6) g2)) ?_ (kk3' _ _ ⟨_, _, _, _, _, rfl, rfl⟩)
          rw [t_M_served_14, if_neg (show ¬ (6 : Int32) ≤ nI 0 by decide), lNsg bw, if_pos z, if_pos (by decide), z, Nat.zero_mul, Nat.mul_zero, Nat.add_zero, roP_0, nI_1]
        · have hrc := (rV s (by rw [← hw']; exact z)).2
          rw [e1, e2, ← hB] at hrc
          have hth2 : th s = k - B := by rw [hth, hB]; unfold thM; rw [e1, e2]
          obtain ⟨Y, hY⟩ : ∃ Y, Y = th s := ⟨_, rfl⟩
          have hY12 : Y ≤ 12 := by omega
          have hgY : gs s = goS c (6 * i) Y 6 := by rw [hgs, hY]
          have hnY : ∀ p, p < 6 → nx s p = 6 * min p Y + l ∧ nx s p < 36 := fun p hp => by
            refine ⟨?_, ok s hs36 p hp⟩
            rw [hnx, hY, hth]
            unfold nxM
            rw [e1]
          rw [nI_sub hrc, ← hth2, ← hY]
          refine Sm.inv0 (P := fun p lo h' => ∃ z14, lo = [some (vR 900012 0), some (vI (nI k)), some (vI (nI n)), some (vL (lN (ph + R * (w * goS c (6 * i) Y p)))), none, some (vL (lN R)), none, some (vI (nI i)), some (vI (nI l)), some (vI (nI a)), some (vL (lN w)), none, some (vI (nI Y)), some (vI (nI p)), z14] ∧ h' = H (lr V g1) (lr (roP c (6 * i) (nx s) w N0 p) g2)) 6 ⟨_, rfl, rfl⟩ ?_ ?_
          · rintro p hp _ _ ⟨z14, rfl, rfl⟩ kk4
            refine Sm.step (t' := 14) (lo' := [some (vR 900012 0), some (vI (nI k)), some (vI (nI n)), some (vL (lN (ph + R * (w * goS c (6 * i) Y (p + 1))))), none, some (vL (lN R)), none, some (vI (nI i)), some (vI (nI l)), some (vI (nI a)), some (vL (lN w)), none, some (vI (nI Y)), some (vI (nI (p + 1))), some (vI (nI (min p Y)))]) (st' := []) (h' := H (lr V g1) (lr (roP c (6 * i) (nx s) w N0 (p + 1)) g2)) ?_ (kk4 _ _ ⟨_, rfl, rfl⟩)
            have cv := Hc (lr V g1) (lr (roP c (6 * i) (nx s) w N0 p) g2) (6 * i + p)
            have hx := hnY p hp
            have hmn : min p Y ≤ 5 := by omega
            rw [t_M_served_14, if_neg (show ¬ (6 : Int32) ≤ nI p from nI_ge (b := 6) hp (by decide)), lNsg bw, if_neg z, if_neg (by decide), c_min, clI_ok, min_nI (by omega) (by omega), show (6 : Int32) = nI 6 from rfl, nI_mul, nI_add, rd_M_chances (oob_nI (by omega) (by decide)), ix_nI (by omega), cv.1, nI_mul, nI_add, ← hx.1, rd_M_next (oob_nI hx.2 (by decide)), ix_nI (by omega), HG, lr_at hx.2, rd_M_chances (oob_nI (by omega) (by decide)), ix_nI (by omega), cv.1, wr_M_next (oob_nI hx.2 (by decide)), ix_nI (by omega), HsG, i2l_nI (by omega), i2l_nI (by omega), lr_ad hx.2, nI_1]
            show some (Sum.inl (14, [_, _, _, some (vL (lN (ph + R * (w * goS c (6 * i) Y p)) + lN w * lN (c (6 * i + p)) * lN (min p Y) * lN R)), _, _, _, _, _, _, _, _, _, _, _], [], _)) = some (Sum.inl (14, [_, _, _, some (vL (lN (ph + R * (w * (goS c (6 * i) Y p + c (6 * i + p) * min p Y))))), _, _, _, _, _, _, _, _, _, _, _], [], _))
            have er : ph + R * (w * (goS c (6 * i) Y p + c (6 * i + p) * min p Y)) = ph + R * (w * goS c (6 * i) Y p) + w * c (6 * i + p) * min p Y * R := by
              rw [Nat.mul_add, Nat.mul_add, Nat.add_assoc, Nat.mul_assoc w, Nat.mul_comm (w * _) R]
            rw [er, lNaddR (ph + R * (w * goS c (6 * i) Y p)), lNmulR (w * c (6 * i + p) * min p Y), lNmulR (w * c (6 * i + p)), lNmulR w]; rfl
          · rintro _ _ ⟨z14, rfl, rfl⟩
            refine Sm.step (t' := 9) (lo' := [some (vR 900012 0), some (vI (nI k)), some (vI (nI n)), some (vL (lN (ph + R * (w * gs s)))), none, some (vL (lN R)), none, some (vI (nI i)), some (vI (nI l)), some (vI (nI (a + 1))), some (vL (lN w)), none, some (vI (nI Y)), some (vI (nI 6)), z14]) (st' := []) (h' := H (lr V g1) (lr (roP c (6 * i) (nx s) w N0 6) g2)) ?_ (kk3' _ _ ⟨_, _, _, _, _, rfl, rfl⟩)
            rw [t_M_served_14, if_pos (by decide), hgY, nI_1]
      · rintro _ _ ⟨z10, z11, z12, z13, z14, rfl, rfl⟩
        refine Sm.step (t' := 8) (lo' := [some (vR 900012 0), some (vI (nI k)), some (vI (nI n)), some (vL (lN (T + R * phi gs V (6 * (l + 1))))), none, some (vL (lN R)), none, some (vI (nI i)), some (vI (nI (l + 1))), some (vI (nI 6)), z10, z11, z12, z13, z14]) (st' := []) (h' := H (lr V g1) (lr (stP c (6 * i) nx V (6 * (l + 1))) g2)) ?_ (kk2 _ _ ⟨_, _, _, _, _, _, rfl, rfl⟩)
        rw [t_M_served_9, if_pos (by decide), nI_1, show 6 * (l + 1) = 6 * l + 6 by omega]
    · rintro _ _ ⟨z9, z10, z11, z12, z13, z14, rfl, rfl⟩
      refine Sm.step (t' := 18) (lo' := [some (vR 900012 0), some (vI (nI k)), some (vI (nI n)), some (vL (lN (toP c nx th (i + 1)))), none, some (vL (lN R)), none, some (vI (nI i)), some (vI (nI 0)), z9, z10, z11, z12, z13, z14]) (st' := []) (h' := H (cpR (lr V g1) (lr (wtP c nx (i + 1)) g2) 0) (lr (wtP c nx (i + 1)) g2)) ?_ ?_
      · rw [t_M_served_8, if_pos (by decide), cpR_0, ht1, hho, hst]; rfl
      refine Sm.for (lo := fun j => [some (vR 900012 0), some (vI (nI k)), some (vI (nI n)), some (vL (lN (toP c nx th (i + 1)))), none, some (vL (lN R)), none, some (vI (nI i)), some (vI (nI j)), z9, z10, z11, z12, z13, z14]) (hh := fun j => H (cpR (lr V g1) (lr (wtP c nx (i + 1)) g2) j) (lr (wtP c nx (i + 1)) g2)) 36 (fun j hj => ?_) (Sm.step (t' := 5) (lo' := [some (vR 900012 0), some (vI (nI k)), some (vI (nI n)), some (vL (lN (toP c nx th (i + 1)))), none, some (vL (lN (10 ^ (12 - (i + 1))))), none, some (vI (nI (i + 1))), some (vI (nI 36)), z9, z10, z11, z12, z13, z14]) (st' := []) (h' := H (lr (wtP c nx (i + 1)) g1) (lr (wtP c nx (i + 1)) g2)) ?_ (kk _ _ ⟨_, _, _, _, _, _, _, _, rfl, rfl, fun _ => rfl, gz_0⟩))
      · rw [t_M_served_18, if_neg (show ¬ (36 : Int32) ≤ nI j from nI_ge (b := 36) hj (by decide)), rd_M_next (oob_nI hj (by decide)), ix_nI (by omega), HG, wr_M_weigh (oob_nI hj (by decide)), ix_nI (by omega), HsW, ← cpR_s, nI_1]
      · rw [t_M_served_18, if_pos (by decide), lr_cp, hR, show 12 - (i + 1) = 11 - i by omega, nI_1]; rfl
  · rintro _ _ ⟨z8, z9, z10, z11, z12, z13, z14, G, rfl, rfl, hG, -⟩
    refine Sm.ret ?_
    rw [t_M_served_5, if_pos (by decide), hG (by decide), to_12 ok]
end Serve2

/-! CALL: painted, its second part -/
section Painted2
variable {L : Nat} {scr : Nat → Int32} {d : Nat}
/-- what a choice loses -/
def lvV (N : Nat) (O : Nat → Nat) (wv cv : Nat → Nat) (m : Nat) : Nat := (lsN (fun k => bitB (nI m) (nI (O k))) wv cv N).2.2
theorem c_coinLost {g : MH} {N m : Nat} {b O : Nat → Nat} {wv cv : Nat → Nat} (hd : DockC g N b) (ho : ∀ k, k < N → hI g 405000010 0 k = nI (O k) ∧ O k < N) (hw : ∀ k, k < N → hI g 400000020 0 (b (O k)) = nI (wv k)) (hc : ∀ k, k < N → hI g 401000020 0 (b (O k)) = nI (cv k)) : E L scr (d + 1) 38 [vR 900003 0, vI (nI m)] g = some (some (vI (nI (lvV N O wv cv m))), g) := by
  obtain ⟨e1, e2, e3⟩ := hd
  obtain ⟨T, hT⟩ : ∃ T, T = lsN (fun k => bitB (nI m) (nI (O k))) wv cv := ⟨_, rfl⟩
  unfold lvV
  rw [← hT]
  have T0 : T 0 = (0, 0, 0) := by rw [hT]; rfl
  refine r_Dock_coinLost _ _ _ (Sm.step (t' := 1) (lo' := [some (vR 900003 0), some (vI (nI m)), some (vI (nI (T 0).1)), some (vI (nI (T 0).2.1)), some (vI (nI (T 0).2.2)), some (vI 0), none]) (st' := []) (h' := g) (by rw [t_Dock_coinLost_0, T0]; rfl) ?_)
  refine Sm.for (lo := fun k => [some (vR 900003 0), some (vI (nI m)), some (vI (nI (T k).1)), some (vI (nI (T k).2.1)), some (vI (nI (T k).2.2)), some (vI (nI k)), match k with | 0 => none | j + 1 => some (vI (nI (b (O j))))]) (hh := fun _ => g) N (fun k hk => ?_) (Sm.ret ?_)
  · have ob : ¬ oob (nI k) 10 := oob_nI (by omega) (by decide)
    have oN := (ho k hk).2
    have ob1 : ¬ oob (nI (O k)) 10 := oob_nI (by omega) (by decide)
    have bO := (e3 (O k) oN).2
    have ob2 : ¬ oob (nI (b (O k))) 20 := oob_nI bO (by decide)
    rw [t_Dock_coinLost_1, e1, if_neg (nI_ge hk (by omega)), rd_Dock_order ob, ix_nI (by omega), (ho k hk).1, rd_Dock_dry ob1, ix_nI (by omega), (e3 (O k) oN).1, rd_Dock_order ob, ix_nI (by omega), (ho k hk).1, bit_zb, nI_1]
    cases e : bitB (nI m) (nI (O k)) with
    | false =>
      rw [itF, rd_Dock_dryWeeks ob2, rd_Dock_dryCoin ob2, ix_nI (by omega), hw k hk, hc k hk]
      have eT : T (k + 1) = ((T k).1 + wv k, (T k).2.1, (T k).2.2 + ((T k).1 + wv k) * cv k) := by rw [hT]; exact lsN_f e
      rw [eT, nI_add, nI_mul, nI_add]
    | true =>
      rw [itT, rd_Dock_dryWeeks ob2, rd_Dock_dryCoin ob2, ix_nI (by omega), hw k hk, hc k hk]
      have eT : T (k + 1) = ((T k).1, (T k).2.1 + wv k, (T k).2.2 + ((T k).2.1 + wv k) * cv k) := by rw [hT]; exact lsN_t e
      rw [eT, nI_add, nI_mul, nI_add]
  · rw [t_Dock_coinLost_1, e1, if_pos (nI_le (Nat.le_refl _) (by omega))]
theorem c_M_lost {g : MH} {N m : Nat} {b O : Nat → Nat} {wv cv : Nat → Nat} (hd : DockM g N b) (ho : ∀ k, k < N → hI g 1379000020 0 k = nI (O k) ∧ O k < N) (hw : ∀ k, k < N → hI g 1374000020 0 (b (O k)) = nI (wv k)) (hc : ∀ k, k < N → hI g 1375000020 0 (b (O k)) = nI (cv k)) : E L scr (d + 2) 317 [vR 900012 0, vI (nI m)] g = some (some (vI (nI (lvV N O wv cv m))), g) := by
  obtain ⟨e1, e2, e3⟩ := hd
  obtain ⟨T, hT⟩ : ∃ T, T = lsN (fun k => bitB (nI m) (nI (O k))) wv cv := ⟨_, rfl⟩
  unfold lvV
  rw [← hT]
  have T0 : T 0 = (0, 0, 0) := by rw [hT]; rfl
  refine r_M_lost _ _ _ (Sm.step (t' := 1) (lo' := [some (vR 900012 0), some (vI (nI m)), some (vI (nI (T 0).1)), some (vI (nI (T 0).2.1)), some (vI (nI (T 0).2.2)), some (vI 0), none]) (st' := []) (h' := g) (by rw [t_M_lost_0, T0]; rfl) ?_)
  refine Sm.for (lo := fun k => [some (vR 900012 0), some (vI (nI m)), some (vI (nI (T k).1)), some (vI (nI (T k).2.1)), some (vI (nI (T k).2.2)), some (vI (nI k)), match k with | 0 => none | j + 1 => some (vI (nI (O j)))]) (hh := fun _ => g) N (fun k hk => ?_) (Sm.ret ?_)
  · have ob : ¬ oob (nI k) 20 := oob_nI (by omega) (by decide)
    have oN := (ho k hk).2
    have ob1 : ¬ oob (nI (O k)) 20 := oob_nI (by omega) (by decide)
    have bO := (e3 (O k) oN).2
    have ob2 : ¬ oob (nI (b (O k))) 20 := oob_nI bO (by decide)
    rw [t_M_lost_1, e1, if_neg (nI_ge hk (by omega)), rd_M_inOrder ob, ix_nI (by omega), (ho k hk).1, c_M_has, clI_ok, nI_1]
    cases e : bitB (nI m) (nI (O k)) with
    | false =>
      rw [itF, rd_M_dry ob1, ix_nI (by omega), (e3 (O k) oN).1, rd_M_weeks ob2, ix_nI (by omega), hw k hk, rd_M_dry ob1, ix_nI (by omega), (e3 (O k) oN).1, rd_M_weekCoin ob2, ix_nI (by omega), hc k hk, c_M_has, clI_ok, e, itF]
      have eT : T (k + 1) = ((T k).1 + wv k, (T k).2.1, (T k).2.2 + ((T k).1 + wv k) * cv k) := by rw [hT]; exact lsN_f e
      rw [eT, nI_add, nI_mul, nI_add, Nat.mul_comm]
    | true =>
      rw [itT, rd_M_dry ob1, ix_nI (by omega), (e3 (O k) oN).1, rd_M_weeks ob2, ix_nI (by omega), hw k hk, rd_M_dry ob1, ix_nI (by omega), (e3 (O k) oN).1, rd_M_weekCoin ob2, ix_nI (by omega), hc k hk, c_M_has, clI_ok, e, itT]
      have eT : T (k + 1) = ((T k).1, (T k).2.1 + wv k, (T k).2.2 + ((T k).2.1 + wv k) * cv k) := by rw [hT]; exact lsN_t e
      rw [eT, nI_add, nI_mul, nI_add, Nat.mul_comm]
  · rw [t_M_lost_1, e1, if_pos (nI_le (Nat.le_refl _) (by omega))]
/-- the choice that loses least among the first k, the first of such -/
def lF (lv : Nat → Nat) : Nat → Nat × Nat
  | 0 => (1000000, 0)
  | k + 1 => if (lF lv k).1 ≤ lv k then lF lv k else (lv k, k)
theorem lF_at {lv : Nat → Nat} (h0 : lv 0 < 1000000) : ∀ k, (lF lv (k + 1)).1 = lv (lF lv (k + 1)).2 ∧ (lF lv (k + 1)).2 ≤ k
  | 0 => by
    have e : lF lv 1 = (lv 0, 0) := if_neg (by show ¬ (1000000 ≤ lv 0); omega)
    rw [e]; exact ⟨rfl, Nat.le_refl _⟩
  | k + 1 => by
    have ih := lF_at h0 k
    show (if (lF lv (k + 1)).1 ≤ lv (k + 1) then lF lv (k + 1) else (lv (k + 1), k + 1)).1 = lv (if (lF lv (k + 1)).1 ≤ lv (k + 1) then lF lv (k + 1) else (lv (k + 1), k + 1)).2 ∧ (if (lF lv (k + 1)).1 ≤ lv (k + 1) then lF lv (k + 1) else (lv (k + 1), k + 1)).2 ≤ k + 1
    by_cases c : (lF lv (k + 1)).1 ≤ lv (k + 1)
    · rw [if_pos c]; exact ⟨ih.1, by omega⟩
    · rw [if_neg c]; exact ⟨rfl, Nat.le_refl _⟩
theorem lF_le {lv : Nat → Nat} : ∀ k, (lF lv k).1 ≤ 1000000
  | 0 => Nat.le_refl _
  | k + 1 => by
    have ih := lF_le (lv := lv) k
    show (if (lF lv k).1 ≤ lv k then lF lv k else (lv k, k)).1 ≤ _
    by_cases c : (lF lv k).1 ≤ lv k
    · rw [if_pos c]; exact ih
    · rw [if_neg c]; show lv k ≤ _; omega
theorem call_painted (x y : Int32) (h : MH) (q : RDry h) (qb : RBoat h) : Both L scr (d + 40) Scr (fun _ => True) 166 319 [vR 900011 0, vI x, vI y] [vR 900012 0, vI x, vI y] h := by
  obtain ⟨b1, nB, hnB, eb, mb, b2⟩ := qb
  obtain ⟨q1, q2, ⟨n, hn, bn, q3⟩, q4, q5⟩ := id q
  have en : n = nB := (nI_eq (by omega) (by omega)).mp (by rw [← bn, ← eb])
  subst en
  cases hx : inB x 1 2 with
  | false =>
    refine both0 (vI (-1)) (r_P_painted _ _ _ _ (Sm.ret ?_)) (r_M_painted _ _ _ _ (Sm.ret ?_)) trivial
    · rw [t_P_painted_0, c_P_within, clI_ok, hx, itF]
    · rw [t_M_painted_0, c_M_isIn, clI_ok, hx, itF]
  | true =>
    cases hy : inB y 0 1 with
    | false =>
      refine both0 (vI (-1)) (r_P_painted _ _ _ _ (Sm.ret ?_)) (r_M_painted _ _ _ _ (Sm.ret ?_)) trivial
      · rw [t_P_painted_0, c_P_within, clI_ok, hx, itT, c_P_within, clI_ok, hy, itF]
      · rw [t_M_painted_0, c_M_isIn, clI_ok, hx, itT, c_M_isIn, clI_ok, hy, itF]
    | true =>
      have hx12 : x = 1 ∨ x = 2 := by
        have hh := of_decide_eq_true (show decide (1 ≤ x ∧ x ≤ 2) = true from hx)
        rw [Int32.le_iff_toInt_le, Int32.le_iff_toInt_le] at hh
        have t1 : (1 : Int32).toInt = 1 := rfl
        have t2 : (2 : Int32).toInt = 2 := rfl
        by_cases c : x.toInt < 2
        · exact Or.inl (Int32.toInt_inj.mp (by omega))
        · exact Or.inr (Int32.toInt_inj.mp (by omega))
      obtain ⟨w, ew⟩ : ∃ w, w = hI h 400000020 0 := ⟨_, rfl⟩
      obtain ⟨c0, ec⟩ : ∃ c0, c0 = hI h 401000020 0 := ⟨_, rfl⟩
      have eL := c_listDry (L := L) (scr := scr) (d := d + 37) (h := h) (fun k => (q4 k).1) q5
      obtain ⟨g, hg⟩ : ∃ g, g = withR h (dryC h 20) := ⟨_, rfl⟩
      rw [← hg] at eL
      have ug : Upd Scr h g := by rw [hg]; exact dryC_Scr
      have dz : dryN w 20 = dryN w n := dryN_zero hn (by rw [ew]; exact q3)
      obtain ⟨N, hN⟩ : ∃ N, N = dryN w n := ⟨_, rfl⟩
      have hN10 : N ≤ 10 := by rw [hN, ← dz, ew]; exact q5
      obtain ⟨b, hb⟩ : ∃ b, b = dryB w n := ⟨_, rfl⟩
      have dC : DockC g N b := by
        refine ⟨by rw [hg, withR_miss (by decide), withR_hit, up_s, ← ew, dz, hN], hN10, fun k hk => ?_⟩
        have e := dryL_at (w := w) (r := hI h 404000010 0) (n := n) (k := k) (by omega)
        refine ⟨?_, by rw [hb]; omega⟩
        rw [hg, withR_hit, ← ew, dry_eq hn dz, e.1, hb]
      have gw : hI g 400000020 0 = w := by rw [ug.2 _ _ (by decide), ew]
      have gco : hI g 401000020 0 = c0 := by rw [ug.2 _ _ (by decide), ec]
      obtain ⟨ro, eO, hro⟩ := c_orderDry (L := L) (scr := scr) (d := d + 36) dC
      rw [gw, gco] at hro
      obtain ⟨O, hO⟩ : ∃ O, O = srtR (gtB w c0 b) N := ⟨_, rfl⟩
      rw [← hO] at hro
      have hOl : ∀ k, k < N → O k < N := fun k hk => by rw [hO]; exact srtR_lt (Nat.le_refl _) k hk
      obtain ⟨a, ha⟩ : ∃ a, a = withR g [(405000010, 0, ro)] := ⟨_, rfl⟩
      rw [← ha] at eO
      have ua : Upd Scr g a := by
        rw [ha]
        exact withR_Upd (fun q hq => by
          rw [List.mem_singleton] at hq
          subst hq
          dsimp only
          decide)
      have am : ∀ s, s ≠ 405000010 → hI a s 0 = hI g s 0 := fun s hs => by rw [ha, withR_miss (fun z => hs z.1)]; rfl
      have dA : DockC a N b := by
        unfold DockC; rw [am _ (by decide), am _ (by decide)]; exact dC
      have aO : hI a 405000010 0 = ro := by rw [ha, withR_hit]
      have wN : ∀ k, w k = nI (nn (w k)) ∧ nn (w k) ≤ 9 := fun k => nn_ex (by decide) (by rw [ew]; exact (q4 k).1)
      have cN : ∀ k, c0 k = nI (nn (c0 k)) ∧ nn (c0 k) ≤ 99 := fun k => nn_ex (by decide) (by rw [ec]; exact (q4 k).2)
      obtain ⟨wv, hwv⟩ : ∃ wv : Nat → Nat, wv = fun k => nn (w (b (O k))) := ⟨_, rfl⟩
      obtain ⟨cv, hcv⟩ : ∃ cv : Nat → Nat, cv = fun k => nn (c0 (b (O k))) := ⟨_, rfl⟩
      have w9 : ∀ k, wv k ≤ 9 := fun k => by rw [hwv]; exact (wN _).2
      have c9 : ∀ k, cv k ≤ 99 := fun k => by rw [hcv]; exact (cN _).2
      have we : ∀ k, w (b (O k)) = nI (wv k) := fun k => by rw [hwv]; exact (wN _).1
      have ce : ∀ k, c0 (b (O k)) = nI (cv k) := fun k => by rw [hcv]; exact (cN _).1
      obtain ⟨lv, hlv⟩ : ∃ lv, lv = lvV N O wv cv := ⟨_, rfl⟩
      have lvl : ∀ m, lv m ≤ 89100 := fun m => by
        rw [hlv]; unfold lvV
        have h1 := (lsN_le (p := fun k => bitB (nI m) (nI (O k))) w9 c9 N).2.2
        have h2 : N * (N * 891) ≤ 10 * (10 * 891) := Nat.mul_le_mul hN10 (by omega)
        omega
      have p2 : 0 < 2 ^ N := Nat.two_pow_pos N
      have p3 : 2 ^ N ≤ 1024 := Nat.pow_le_pow_right (n := 2) (by decide) hN10
      -- how many choices
      obtain ⟨K, hK, hKx⟩ : ∃ K, K + 1 ≤ 2 ^ N ∧ ((x = 1 ∧ K = 0) ∨ (x = 2 ∧ K + 1 = 2 ^ N)) := by
        rcases hx12 with c | c
        · exact ⟨0, by omega, Or.inl ⟨c, rfl⟩⟩
        · exact ⟨2 ^ N - 1, by omega, Or.inr ⟨c, by omega⟩⟩
      have lf := lF_at (lv := lv) (by have := lvl 0; omega)
      obtain ⟨gk, hgk⟩ : ∃ gk : Nat → MH, gk = fun k => withR a (bstL a (nI (lF lv k).1, (lF lv k).2) k) := ⟨_, rfl⟩
      have uk : ∀ k, Upd Scr a (gk k) := fun k => by rw [hgk]; exact bst_Scr
      have gm : ∀ k s, s ≠ 407 → s ≠ 408 → hI (gk k) s 0 = hI a s 0 := fun k s h1 h2 => by
        rw [hgk]; show hI (withR a (bstL a (nI (lF lv k).1, (lF lv k).2) k)) s 0 = _
        rw [withR_miss (fun z => h1 z.1), withR_miss (fun z => h2 z.1)]; rfl
      have dCk : ∀ k, DockC (gk k) N b := fun k => by
        unfold DockC; rw [gm k _ (by decide) (by decide), gm k _ (by decide) (by decide)]; exact dA
      have gb : ∀ k, hI (gk k) 407 0 0 = nI (lF lv k).1 := fun k => by
        rw [hgk]; show hI (withR a (bstL a (nI (lF lv k).1, (lF lv k).2) k)) _ 0 0 = _
        rw [withR_hit, up_s]
      have gc : hI (gk (K + 1)) 408 0 0 = nI (lF lv (K + 1)).2 := by
        rw [hgk]; show hI (withR a (bstL a (nI (lF lv (K + 1)).1, (lF lv (K + 1)).2) (K + 1))) _ 0 0 = _
        rw [withR_miss (by decide), withR_hit, if_neg (Nat.succ_ne_zero K), up_s]
      have eS : E L scr (d + 39) 37 [vR 900003 0, vI x] h = some (none, gk (K + 1)) := by
        have g0 : sI a 407 0 0 1000000 = gk 0 := by rw [hgk]; exact bst_0
        have aN : hI a 406 0 0 = nI N := dA.1
        refine r_Dock_solvePaint _ _ _ (Sm.step (t' := 3) (lo' := [some (vR 900003 0), some (vI x), some (vI (nI (K + 1))), some (vI 0), none]) (st' := []) (h' := gk 0) ?_ ?_)
        · rw [t_Dock_solvePaint_0, eL, clV_ok, eO, clV_ok, g0, aN, shl_nI hN10]
          rcases hKx with ⟨c, e⟩ | ⟨c, e⟩
          · rw [if_pos c, e]; rfl
          · rw [if_neg (by rw [c]; decide), e]
        refine Sm.for (lo := fun k => [some (vR 900003 0), some (vI x), some (vI (nI (K + 1))), some (vI (nI k)), match k with | 0 => none | j + 1 => some (vI (nI (lv j)))]) (hh := gk) (K + 1) (fun k hk => ?_) (Sm.ret ?_)
        · have hle := lF_le (lv := lv) k
          have hlk := lvl k
          rw [t_Dock_solvePaint_3, if_neg (nI_ge hk (by omega)), c_coinLost (O := O) (wv := wv) (cv := cv) (dCk k) (fun j hj => ⟨by rw [gm k _ (by decide) (by decide), aO]; exact hro j hj, hOl j hj⟩) (fun j hj => by rw [gm k _ (by decide) (by decide), am _ (by decide), gw]; exact we j) (fun j hj => by rw [gm k _ (by decide) (by decide), am _ (by decide), gco]; exact ce j), clI_ok, ← hlv, gb, nI_1]
          by_cases c : (lF lv k).1 ≤ lv k
          · have k0 : k ≠ 0 := by
              intro z
              subst z
              have c' : 1000000 ≤ lv 0 := c
              omega
            have e1 : lF lv (k + 1) = lF lv k := if_pos c
            have e2 : gk (k + 1) = gk k := by
              rw [hgk]; show withR a (bstL a (nI (lF lv (k + 1)).1, (lF lv (k + 1)).2) (k + 1)) = withR a (bstL a (nI (lF lv k).1, (lF lv k).2) k)
              rw [e1]; exact (bst_s k0).symm
            rw [if_pos (nI_le c (by omega)), e2]
          · have e1 : lF lv (k + 1) = (lv k, k) := if_neg c
            have e2 : gk (k + 1) = sI (sI (gk k) 407 0 0 (nI (lv k))) 408 0 0 (nI k) := by
              rw [hgk]; show withR a (bstL a (nI (lF lv (k + 1)).1, (lF lv (k + 1)).2) (k + 1)) = sI (sI (withR a (bstL a (nI (lF lv k).1, (lF lv k).2) k)) 407 0 0 (nI (lv k))) 408 0 0 (nI k)
              rw [e1]; exact bst_1.symm
            rw [if_neg (nI_ge (by omega) (by omega)), e2]
        · rw [t_Dock_solvePaint_3, if_pos (nI_le (Nat.le_refl _) (by omega))]
      obtain ⟨ans, hans⟩ : ∃ ans : Int32, ans = if y = 0 then nI (lF lv (K + 1)).1 else fold (orF (fun _ => true) (pickV (nI (lF lv (K + 1)).2) b)) 0 N := ⟨_, rfl⟩
      have eC : E L scr (d + 40) 166 [vR 900011 0, vI x, vI y] h = some (some (vI ans), gk (K + 1)) := by
        refine r_P_painted _ _ _ _ (Sm.ret ?_)
        rw [t_P_painted_0, c_P_within, clI_ok, hx, itT, c_P_within, clI_ok, hy, itT, eS, clV_ok]
        by_cases c : y = 0
        · rw [if_pos c, gb, hans, if_pos c]
        · rw [if_neg c, c_bestSet (dCk _), clI_ok, gc, hans, if_neg c]
      obtain ⟨g2, hg2⟩ : ∃ g2, g2 = gk (K + 1) := ⟨_, rfl⟩
      rw [← hg2] at eC
      have u2 : Upd Scr h g2 := by rw [hg2]; exact (ug.tr ua).tr (uk _)
      have mg : hI g2 1335 0 0 = nI n := by rw [u2.2 _ _ (by decide)]; exact mb
      have mw : hI g2 1374000020 0 = w := by rw [u2.2 _ _ (by decide), ew]; exact Eq.symm q1
      have eD := c_M_dries (L := L) (scr := scr) (d := d + 38) hn mg
      obtain ⟨f, hf⟩ : ∃ f, f = withR g2 (dryM g2 n) := ⟨_, rfl⟩
      rw [← hf] at eD
      have uf : Upd Scr g2 f := by rw [hf]; exact dryM_Scr
      have uf2 : Upd Scr h f := u2.tr uf
      have dM : DockM f N b := by
        refine ⟨by rw [hf, withR_miss (by decide), withR_hit, up_s, mw, hN], hN10, fun k hk => ?_⟩
        have e := dryL_at (w := w) (r := hI g2 1378000020 0) (n := n) (k := k) (by omega)
        refine ⟨?_, by rw [hb]; omega⟩
        rw [hf, withR_hit, mw, e.1, hb]
      have fw : hI f 1374000020 0 = w := by rw [uf.2 _ _ (by decide), mw]
      have fc : hI f 1375000020 0 = c0 := by rw [uf2.2 _ _ (by decide), ec]; exact Eq.symm q2
      obtain ⟨rm, eOM, hrm⟩ := c_M_sorts (L := L) (scr := scr) (d := d + 37) dM
      rw [fw, fc, ← hO] at hrm
      obtain ⟨f2, hf2⟩ : ∃ f2, f2 = withR f [(1379000020, 0, rm)] := ⟨_, rfl⟩
      rw [← hf2] at eOM
      have uf3 : Upd Scr h f2 := uf2.tr (by
        rw [hf2]
        exact withR_Upd (fun q hq => by
          rw [List.mem_singleton] at hq
          subst hq
          dsimp only
          decide))
      have fm : ∀ s, s ≠ 1379000020 → hI f2 s 0 = hI f s 0 := fun s hs => by rw [hf2, withR_miss (fun z => hs z.1)]; rfl
      have dM2 : DockM f2 N b := by
        unfold DockM; rw [fm _ (by decide), fm _ (by decide)]; exact dM
      have fO : hI f2 1379000020 0 = rm := by rw [hf2, withR_hit]
      have eLo : ∀ (d m : Nat), E L scr (d + 2) 317 [vR 900012 0, vI (nI m)] f2 = some (some (vI (nI (lv m))), f2) := fun d m => by
        rw [c_M_lost (O := O) (wv := wv) (cv := cv) dM2 (fun j hj => ⟨by rw [fO]; exact hrm j hj, hOl j hj⟩) (fun j hj => by rw [fm _ (by decide), fw]; exact we j) (fun j hj => by rw [fm _ (by decide), fc]; exact ce j), hlv]
      have eM : E L scr (d + 40) 319 [vR 900012 0, vI x, vI y] g2 = some (some (vI ans), f2) := by
        have l1 : lF lv 1 = (lv 0, 0) := if_neg (by show ¬ (1000000 ≤ lv 0); have := lvl 0; omega)
        refine r_M_painted _ _ _ _ (Sm.step (t' := 3) (lo' := [some (vR 900012 0), some (vI x), some (vI y), some (vI (nI (lF lv (0 + 1)).2)), some (vI 1)]) (st' := []) (h' := f2) ?_ ?_)
        · rw [t_M_painted_0, c_M_isIn, clI_ok, hx, itT, c_M_isIn, clI_ok, hy, itT, eD, clV_ok, eOM, clV_ok, l1]; rfl
        refine Sm.for (lo := fun k => [some (vR 900012 0), some (vI x), some (vI y), some (vI (nI (lF lv (k + 1)).2)), some (vI (nI (k + 1)))]) (hh := fun _ => f2) K (fun k hk => ?_) (Sm.ret ?_)
        · have x2 : x = 2 := by
            rcases hKx with ⟨c, e⟩ | ⟨c, e⟩
            · omega
            · exact c
          have hlk := lvl (k + 1)
          rw [t_M_painted_3, dM2.1, shl_nI hN10, if_neg (nI_ge (by omega) (by omega)), if_pos x2, eLo, clI_ok, eLo, clI_ok, nI_1, ← (lf k).1]
          have hle : (lF lv (k + 1)).1 ≤ 89100 := by rw [(lf k).1]; exact lvl _
          by_cases c : (lF lv (k + 1)).1 ≤ lv (k + 1)
          · have e1 : lF lv (k + 1 + 1) = lF lv (k + 1) := if_pos c
            rw [if_pos (nI_le c (by omega)), e1]
          · have e1 : lF lv (k + 1 + 1) = (lv (k + 1), k + 1) := if_neg c
            rw [if_neg (nI_ge (by omega) (by omega)), e1]
        · rw [t_M_painted_3, dM2.1, shl_nI hN10]
          have fin : (if y = 0 then clI (E L scr (d + 39) 317 [vR 900012 0, vI (nI (lF lv (K + 1)).2)] f2) (fun x4 h3 => (some (.inr (some (vI x4), h3)) : Option (_ ⊕ RT))) else clI (E L scr (d + 39) 318 [vR 900012 0, vI (nI (lF lv (K + 1)).2)] f2) (fun x2 h1 => some (.inr (some (vI x2), h1)))) = (some (.inr (some (vI ans), f2)) : Option ((Nat × List (Option MV) × List MV × MH) ⊕ RT)) := by
            by_cases c : y = 0
            · rw [if_pos c, eLo, clI_ok, hans, if_pos c, (lf K).1]
            · rw [if_neg c, c_M_byBoats dM2, clI_ok, hans, if_neg c]
          by_cases c2 : 2 ^ N ≤ K + 1
          · rw [if_pos (nI_le c2 (by omega))]; exact fin
          · have x1 : x = 1 := by
              rcases hKx with ⟨c, e⟩ | ⟨c, e⟩
              · exact c
              · omega
            rw [if_neg (nI_ge (by omega) (by omega)), if_neg (show ¬ x = 2 by rw [x1]; decide)]; exact fin
      exact ⟨_, g2, f2, eC, eM, uf3, trivial⟩
end Painted2

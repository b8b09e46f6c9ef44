/-! CALL: worst -/
section Worst2
variable {L : Nat} {scr : Nat → Int32} {d : Nat}
theorem sumN_v {p : Nat → Bool} {v w : Nat → Nat} : ∀ {n}, (∀ j, j < n → p j = true → v j = w j) → sumN p v n = sumN p w n
  | 0, _ => rfl
  | n + 1, h => by
    have ih := sumN_v (n := n) (fun j hj => h j (by omega))
    cases e : p n with
    | true => rw [sumN_t e, sumN_t e, ih, h n (by omega) e]
    | false => rw [sumN_f e, sumN_f e, ih]
theorem sumN_pl {p : Nat → Bool} {v w : Nat → Nat} : ∀ n, sumN p (fun j => v j + w j) n = sumN p v n + sumN p w n
  | 0 => rfl
  | n + 1 => by
    have ih := sumN_pl (p := p) (v := v) (w := w) n
    cases e : p n with
    | true => rw [sumN_t e, sumN_t e, sumN_t e, ih]; omega
    | false => rw [sumN_f e, sumN_f e, sumN_f e, ih]
theorem call_worst (x y z : Int32) (h : MH) (q : RHire h) (qb : RBoat h) (qw : RWater h) (qs : RSpell h) (qd : RWeed h) (qr : RRule h) (qn : RNum h) (ql : RLaw h) : Both L scr (d + 40) Scr (fun _ => True) 146 281 [vR 900011 0, vI x, vI y, vI z] [vR 900012 0, vI x, vI y, vI z] h := by
  obtain ⟨q1, q2, q3, q4, q5, n, T, nb, hn, hT, hnb, ch, mh, cl, ml, bn, tk, hk, hsep⟩ := id q
  cases hx : ixB x 100 with
  | false =>
    refine both0 (vI (-1)) (r_P_worst _ _ _ _ _ (Sm.ret ?_)) (r_M_worst _ _ _ _ _ (Sm.ret ?_)) trivial
    · rw [t_P_worst_0, c_P_isDay, clI_ok, hx, itF]
    · rw [t_M_worst_0, c_M_isDay, clI_ok, hx, itF]
  | true =>
    cases hy : inB y 0 (nI T) with
    | false =>
      refine both0 (vI (-1)) (r_P_worst _ _ _ _ _ (Sm.ret ?_)) (r_M_worst _ _ _ _ _ (Sm.ret ?_)) trivial
      · rw [t_P_worst_0, c_P_isDay, clI_ok, hx, itT, c_P_isTelling cl, clI_ok, hy, itF]
      · rw [t_M_worst_0, c_M_isDay, clI_ok, hx, itT, c_M_isTelling ml, clI_ok, hy, itF]
    | true =>
      cases hz : inB z 0 1 with
      | false =>
        refine both0 (vI (-1)) (r_P_worst _ _ _ _ _ (Sm.ret ?_)) (r_M_worst _ _ _ _ _ (Sm.ret ?_)) trivial
        · rw [t_P_worst_0, c_P_isDay, clI_ok, hx, itT, c_P_isTelling cl, clI_ok, hy, itT, c_P_within, clI_ok, hz, itF]
        · rw [t_M_worst_0, c_M_isDay, clI_ok, hx, itT, c_M_isTelling ml, clI_ok, hy, itT, c_M_isIn, clI_ok, hz, itF]
      | true =>
        obtain ⟨t, ht, rfl⟩ := inB_T (by omega) hy
        obtain ⟨D, hD, -, rfl⟩ := ixB_t hx
        obtain ⟨H, m, h1, sw, ca, cb, qq, u, eS, v1, hmn, -, hH, no, cc, kM⟩ := bill_ctx (L := L) (scr := scr) (d := d + 35) (e := d + 35) q qb hT cl ht hn ch
        obtain ⟨lo, f, R, s, p, φ, hf, ld0⟩ := law_at (L := L) (scr := scr) qr qn ql (D := D) hD
        have ld : LawD L scr h D lo f R s p φ := ⟨hf, ld0⟩
        obtain ⟨-, -, -, ns, hns, cs, -⟩ := id qs
        obtain ⟨h2, eW, uW, wW⟩ := c_countWet (L := L) (scr := scr) (d := d + 37) (sp_ok qs cs hns v1.1) hD
        have v2 : VC h h1 h2 := v1.up uW (by decide) (by decide)
        rw [rainY_scr v1.1] at wW
        obtain ⟨h3, hh3⟩ : ∃ h3, h3 = withR h2 [(1213002304, 0, filF (hI h2 1213002304 0) 0 2304)] := ⟨_, rfl⟩
        have uF : Upd [(1213002304, 0)] h2 h3 := by rw [hh3]; exact withR_Upd (fun q hq => by rw [List.mem_singleton] at hq; subst hq; exact List.mem_singleton.mpr rfl)
        have v3 : VC h h1 h3 := v2.up uF (by decide) (by decide)
        have w3 : ∀ x, x < 721 → hI h3 1212000721 0 x = nI (wetN h D ns x) := fun x hx => by rw [uF.2 _ _ (by decide)]; exact wW x hx
        have k3 : ∀ m, m ≤ 660 → hI h3 1213002304 0 m = nI 0 := fun m hm => by
          rw [hh3, withR_hit]
          show (if m < 2304 then (0 : Int32) else _) = nI 0
          rw [if_pos (by omega)]; rfl
        obtain ⟨on, hon⟩ : ∃ on : Nat → Bool, on = fun i => decide (i < m) && (decide (H.o i / 720 = D) && H.bk i) := ⟨_, rfl⟩
        have on0 : ∀ i, on i = (decide (i < m) && (decide (H.o i / 720 = D) && H.bk i)) := fun i => by rw [hon]
        have ont : ∀ i, on i = true → i < m ∧ H.o i / 720 = D ∧ H.bk i = true := fun i z => by
          rw [on0, Bool.and_eq_true, Bool.and_eq_true] at z
          exact ⟨of_decide_eq_true z.1, of_decide_eq_true z.2.1, z.2.2⟩
        obtain ⟨PR, hPR⟩ : ∃ PR : Nat → Nat, PR = fun i => PRn h H lo f R s p i (FRn H m f i) := ⟨_, rfl⟩
        obtain ⟨w0, hw0⟩ : ∃ w0 : Nat → Nat, w0 = fun i => wtN f (PR i) (H.mi i) (WCn h H ns i (fun _ => false)) := ⟨_, rfl⟩
        obtain ⟨WM, hWM⟩ : ∃ WM : Nat → Nat → Nat, WM = fun mm i => wtN f (PR i) (H.mi i) (WCn h H ns i (hrB mm)) := ⟨_, rfl⟩
        obtain ⟨AD, hAD⟩ : ∃ AD : Nat → Nat → Nat, AD = fun mm => sumN on (fun i => WM mm i - w0 i) := ⟨_, rfl⟩
        have mb : ∀ i, on i = true → H.mi i ≤ 719 ∧ H.o i % 720 + H.mi i ≤ 719 := fun i z => by
          obtain ⟨him, -, hb⟩ := ont i z
          exact ck_mi (cc h1 v1).1 him hb
        have prl : ∀ i, on i = true → PR i ≤ 7182810 := fun i z => by rw [hPR]; exact pr_le2 hf bz_le (mb i z).1
        have wcl : ∀ i (my : Nat → Bool), WCn h H ns i my ≤ H.mi i := fun i my => by
          have := sumN_le (p := fun y => rainY h (H.o i / 720) ns (H.o i % 720 + y) || my (H.o i % 720 + y)) (v := fun _ => 1) (m := 1) (n := H.mi i) (fun _ _ => Nat.le_refl 1)
          show sumN _ _ _ ≤ _
          omega
        have h15 := hf.2.2.2
        have WMl : ∀ mm i, on i = true → WM mm i ≤ 7182810 := fun mm i z => by rw [hWM]; exact Nat.le_trans (wtn_le h15 (wcl i _)) (prl i z)
        have w0l : ∀ i, on i = true → w0 i ≤ 7182810 := fun i z => by rw [hw0]; exact Nat.le_trans (wtn_le h15 (wcl i _)) (prl i z)
        have wle : ∀ mm i, w0 i ≤ WM mm i := fun mm i => by
          rw [hw0, hWM]
          refine wt_mono ?_
          have e1 := sum_or (r := fun y => rainY h (H.o i / 720) ns (H.o i % 720 + y)) (q := fun y => hrB mm (H.o i % 720 + y)) (H.mi i)
          show sumN _ _ _ ≤ sumN _ _ _
          rw [e1, show sumN (fun y => rainY h (H.o i / 720) ns (H.o i % 720 + y) || false) (fun _ => 1) (H.mi i) = sumN (fun y => rainY h (H.o i / 720) ns (H.o i % 720 + y)) (fun _ => 1) (H.mi i) from sumN_cg (fun y _ => Bool.or_false _)]
          omega
        have S0l : ∀ k, k ≤ 120 → sumN on w0 k ≤ 861937200 := fun k hk => by
          have := sumN_leP (p := on) (v := w0) (q := 7182810) (n := k) (fun j _ z => w0l j z)
          have : k * 7182810 ≤ 120 * 7182810 := Nat.mul_le_mul_right _ hk
          omega
        have SMl : ∀ mm k, k ≤ 120 → sumN on (WM mm) k ≤ 861937200 := fun mm k hk => by
          have := sumN_leP (p := on) (v := WM mm) (q := 7182810) (n := k) (fun j _ z => WMl mm j z)
          have : k * 7182810 ≤ 120 * 7182810 := Nat.mul_le_mul_right _ hk
          omega
        have SP : ∀ mm k, sumN on (WM mm) k = sumN on w0 k + AD mm k := fun mm k => by
          rw [hAD]
          show _ = sumN on w0 k + sumN on (fun i => WM mm i - w0 i) k
          rw [← sumN_pl]
          exact sumN_v (fun j _ _ => by have := wle mm j; omega)
        have mle : m ≤ 120 := by omega
        obtain ⟨bst, hbst⟩ : ∃ bst, bst = gtN (fun mm => AD mm m) 660 := ⟨_, rfl⟩
        have bl : ∀ {f : Nat → Nat} k, k ≤ 660 → gtN f k ≤ 660 := fun k hk => Nat.le_trans (gtN_le k) hk
        have gM : ∀ k, gtN (fun mm => sumN on (WM mm) n) k = gtN (fun mm => AD mm m) k := fun k => by
          have tr : ∀ mm, sumN on (WM mm) n = sumN on w0 m + AD mm m := fun mm => by
            rw [← SP]
            exact sumN_trunc hmn (fun _ _ => rfl) (fun j a b => by rw [on0, decide_eq_false (by omega)]; rfl)
          exact gtN_add tr k
        obtain ⟨res, hres⟩ : ∃ res : Int32, res = if z = 0 then nI bst else nI (sumN on (WM bst) n) := ⟨_, rfl⟩
        have tr : ∀ mm, sumN on (WM mm) n = sumN on w0 m + AD mm m := fun mm => by
          rw [← SP]
          exact sumN_trunc hmn (fun _ _ => rfl) (fun j a b => by rw [on0, decide_eq_false (by omega)]; rfl)
        have A : Sx L scr (d + 39) B_P_worst C_P_worst 0 [some (vR 900011 0), some (vI (nI D)), some (vI (nI t)), some (vI z), none, none, none, none] h (fun rr => ∃ g, rr = (some (vI res), g) ∧ VC h h1 g) := by
          refine Sx.step (t' := 3) (lo' := [some (vR 900011 0), some (vI (nI D)), some (vI (nI t)), some (vI z), some (vR 900005 (lmO lo)), some (vI (nI (sumN on w0 0))), some (vI (nI 0)), none]) (h' := h3) ?_ (Sx.inv0 (P := fun i lo' g => lo' = [some (vR 900011 0), some (vI (nI D)), some (vI (nI t)), some (vI z), some (vR 900005 (lmO lo)), some (vI (nI (sumN on w0 i))), some (vI (nI i)), none] ∧ VC h h1 g ∧ (∀ x, x < 721 → hI g 1212000721 0 x = nI (wetN h D ns x)) ∧ ∀ mm, mm ≤ 660 → hI g 1213002304 0 mm = nI (AD mm i)) m ⟨rfl, v3, w3, fun mm hm => by rw [k3 mm hm, hAD]; rfl⟩ ?_ ?_)
          · rw [t_P_worst_0, c_P_isDay, clI_ok, hx, itT, c_P_isTelling cl, clI_ok, hy, itT, c_P_within, clI_ok, hz, itT, eS, clV_ok, eW, clV_ok, c_fill (N := 2304) rfl rfl (by decide), clV_ok, ← hh3, (ld0 h3 v3.1).1, clR_ok]; rfl
          · rintro i hi _ g ⟨rfl, v, w, k⟩ kk
            have ck := (cc g v).1
            have oi : on i = (decide (H.o i / 720 = D) && H.bk i) := by rw [on0, decide_eq_true hi, Bool.true_and]
            have pre : dn L scr (E L scr (d + 39)) B_P_worst C_P_worst 3 [some (vR 900011 0), some (vI (nI D)), some (vI (nI t)), some (vI z), some (vR 900005 (lmO lo)), some (vI (nI (sumN on w0 i))), some (vI (nI i)), none] [] g = _ := t_P_worst_3 ..
            rw [ck.1, if_neg (nI_ge hi (by omega)), c_isBackOn ck hi hD, clI_ok, ← oi, nI_1] at pre
            cases e : on i with
            | false =>
              rw [e, if_pos (show zb false = 0 from rfl)] at pre
              exact Sx.step pre (kk _ _ ⟨by rw [sumN_f e], v, w, fun mm hm => by rw [k mm hm, hAD]; show nI (sumN on _ i) = nI (sumN on _ (i + 1)); rw [sumN_f e]⟩)
            | true =>
              obtain ⟨-, eD, hb⟩ := ont i e
              obtain ⟨mb1, mb2⟩ := mb i e
              obtain ⟨g2, eB, uB, ⟨B0, -, B3, -, B5, -⟩, B9⟩ := hire_draw (L := L) (scr := scr) (d := d + 32) cc no hi hb (by rw [eD]; exact ld) v (by rw [eD]; exact w)
              have v4 : VC h h1 g2 := v.up uB (by decide) (by decide)
              obtain ⟨-, -, LE, -⟩ := ld0 g2 v4.1
              obtain ⟨g3, eA, uA, kA⟩ := c_addRain (L := L) (scr := scr) (d := d + 37) (g := g2) (mm := lmO lo) (f0 := H.o i % 720) (mi := H.mi i) (pr := PR i) (w0 := w0 i) (f := f) (r := rainY h D ns) (A := fun mm => AD mm i) hf (prl i e) mb2 B9 B0 (by rw [hPR]; exact B3) (by rw [hw0, hPR]; exact B5) (by rw [hw0]; show wtN f (PR i) (H.mi i) (sumN (fun y => rainY h (H.o i / 720) ns (H.o i % 720 + y) || false) (fun _ => 1) (H.mi i)) = _; rw [eD]) LE.2.1.2.2.2.1 (fun x hx => by rw [uB.2 _ _ (by decide)]; exact w x hx) (fun mm hm => by rw [uB.2 _ _ (by decide)]; exact k mm hm)
              rw [e, if_neg (show ¬ zb true = 0 by decide), eB, clV_ok, eA, clV_ok, B5] at pre
              refine Sx.step pre (kk _ _ ⟨by rw [sumN_t e, ← nI_add (sumN on w0 i) (w0 i), hw0, hPR], v4.up uA (by decide) (by decide), fun x hx => by rw [uA.2 _ _ (by decide), uB.2 _ _ (by decide)]; exact w x hx, fun mm hm => ?_⟩)
              rw [kA mm hm]
              have ewm : wtN f (PR i) (H.mi i) (sumN (fun y => rainY h D ns (H.o i % 720 + y) || hrB mm (H.o i % 720 + y)) (fun _ => 1) (H.mi i)) = WM mm i := by
                rw [hWM]
                show _ = wtN f (PR i) (H.mi i) (sumN (fun y => rainY h (H.o i / 720) ns (H.o i % 720 + y) || hrB mm (H.o i % 720 + y)) (fun _ => 1) (H.mi i))
                rw [eD]
              rw [ewm, hAD]
              show nI (sumN on (fun i => WM mm i - w0 i) i + (WM mm i - w0 i)) = nI (sumN on (fun i => WM mm i - w0 i) (i + 1))
              rw [sumN_t e]
          · rintro _ g ⟨rfl, v, w, k⟩
            have ck := (cc g v).1
            refine Sx.step (t' := 6) (lo' := [some (vR 900011 0), some (vI (nI D)), some (vI (nI t)), some (vI z), some (vR 900005 (lmO lo)), some (vI (nI (sumN on w0 m))), some (vI (nI (gtN (fun mm => AD mm m) 0))), some (vI (nI (0 + 1)))]) (h' := g) ?_ (Sx.inv0 (P := fun j lo' g' => lo' = [some (vR 900011 0), some (vI (nI D)), some (vI (nI t)), some (vI z), some (vR 900005 (lmO lo)), some (vI (nI (sumN on w0 m))), some (vI (nI (gtN (fun mm => AD mm m) j))), some (vI (nI (j + 1)))] ∧ g' = g) 660 ⟨rfl, rfl⟩ ?_ ?_)
            · rw [t_P_worst_3, ck.1, if_pos (nI_le (Nat.le_refl _) (by omega))]; rfl
            · rintro j hj _ g' ⟨rfl, rfl⟩ kk
              have g1 := gtN_le (f := fun mm => AD mm m) j
              have a1 := SP (j + 1) m
              have a2 := SP (gtN (fun mm => AD mm m) j) m
              have a3 := SMl (j + 1) m mle
              have a4 := SMl (gtN (fun mm => AD mm m) j) m mle
              refine Sx.step (t' := 6) (lo' := [some (vR 900011 0), some (vI (nI D)), some (vI (nI t)), some (vI z), some (vR 900005 (lmO lo)), some (vI (nI (sumN on w0 m))), some (vI (nI (gtN (fun mm => AD mm m) (j + 1)))), some (vI (nI (j + 1 + 1)))]) (h' := g') ?_ (kk _ _ ⟨rfl, rfl⟩)
              rw [t_P_worst_6, if_neg (show ¬ 660 < nI (j + 1) from nI_nlt (a := 660) (by omega) (by decide)), rd_P_work (oob_nI (by omega) (by decide)), ix_nI (by omega), k (j + 1) (by omega), rd_P_work (oob_nI (by omega) (by decide)), ix_nI (by omega), k _ (by omega), nI_1]
              by_cases c1 : AD (j + 1) m ≤ AD (gtN (fun mm => AD mm m) j) m
              · rw [if_pos (nI_le c1 (by omega)), show gtN (fun mm => AD mm m) (j + 1) = gtN (fun mm => AD mm m) j from if_pos c1]
              · rw [if_neg (nI_ge (by omega) (by omega)), show gtN (fun mm => AD mm m) (j + 1) = j + 1 from if_neg c1]
            · rintro _ g' ⟨rfl, rfl⟩
              have b1 : gtN (fun mm => AD mm m) 660 ≤ 660 := gtN_le 660
              refine Sx.ret (r := (some (vI res), g')) ?_ ⟨g', rfl, v⟩
              rw [t_P_worst_6, if_pos (by decide), hres]
              by_cases c : z = 0
              · rw [if_pos c, if_pos c, hbst]
              · rw [if_neg c, if_neg c, rd_P_work (oob_nI (by omega) (by decide)), ix_nI (by omega), k _ b1, nI_add, tr, hbst]
        obtain ⟨_, A1, h4, rfl, v4⟩ := A
        obtain ⟨g1, eK, vM1, cm⟩ := kM h4 v4.1
        have B : Sx L scr (d + 39) B_M_worst C_M_worst 0 [some (vR 900012 0), some (vI (nI D)), some (vI (nI t)), some (vI z), none, none, none, none, none] h4 (fun rr => ∃ g, rr = (some (vI res), g) ∧ VM h g1 g) := by
          refine Sx.step (t' := 3) (lo' := [some (vR 900012 0), some (vI (nI D)), some (vI (nI t)), some (vI z), some (vI (nI 0)), none, none, none, none]) (h' := g1) ?_ (Sx.inv0 (P := fun i lo' g => lo' = [some (vR 900012 0), some (vI (nI D)), some (vI (nI t)), some (vI z), some (vI (nI i)), none, none, none, none] ∧ VM h g1 g ∧ ∀ j, j < i → on j = true → hI g 1356000120 0 j = nI (PR j)) n ⟨rfl, vM1, fun j hj => absurd hj (Nat.not_lt_zero j)⟩ ?_ ?_)
          · rw [t_M_worst_0, c_M_isDay, clI_ok, hx, itT, c_M_isTelling (n := T) (by rw [v4.1.2 _ _ (by decide)]; exact ml), clI_ok, hy, itT, c_M_isIn, clI_ok, hz, itT, eK, clV_ok]; rfl
          · rintro i hi _ g ⟨rfl, v, pk⟩ kk
            have mk := (cm g v).1
            have pre : dn L scr (E L scr (d + 39)) B_M_worst C_M_worst 3 [some (vR 900012 0), some (vI (nI D)), some (vI (nI t)), some (vI z), some (vI (nI i)), none, none, none, none] [] g = _ := t_M_worst_3 ..
            rw [mk.1, if_neg (nI_ge hi (by omega)), c_M_isOn mk hi hD, clI_ok, ← on0, nI_1] at pre
            have wp : ∀ (v : Int32) (k : MH → Option Exit), wrI 0 g 1356000120 0 (nI i) v k = k (sI g 1356000120 0 i v) := fun v k => by rw [wr_M_prices (oob_nI (by omega) (by decide)), ix_nI (by omega)]
            cases e : on i with
            | false =>
              rw [e, if_pos (show zb false = 0 from rfl), wp] at pre
              refine Sx.step pre (kk _ _ ⟨rfl, v.up ((Upd.rf [(1356000120, 0)] g).sI (by decide)) (by decide) (by decide), fun j hj ej => ?_⟩)
              have ji : j ≠ i := fun z => by rw [z, e] at ej; cases ej
              rw [hI_rs, up_n ji, pk j (by omega) ej]
            | true =>
              obtain ⟨him, eD, hb⟩ := ont i e
              obtain ⟨-, a2, a3, -⟩ := hire_M (d := d + 31) cm no qw qs qd him hb (by rw [eD]; exact ld) hns cs v
              rw [e, if_neg (show ¬ zb true = 0 by decide), a2, clI_ok, a3 (FRn H m f i) (Nat.min_le_left _ _), clI_ok, wp] at pre
              refine Sx.step pre (kk _ _ ⟨rfl, v.up ((Upd.rf [(1356000120, 0)] g).sI (by decide)) (by decide) (by decide), fun j hj ej => ?_⟩)
              rw [hI_rs]
              by_cases ji : j = i
              · rw [ji, up_s, hPR]
              · rw [up_n ji, pk j (by omega) ej]
          · rintro _ g ⟨rfl, v, pk⟩
            have mk := (cm g v).1
            obtain ⟨SM, hSM⟩ : ∃ SM : Nat → Nat, SM = fun mm => sumN on (WM mm) n := ⟨_, rfl⟩
            refine Sx.step (t' := 7) (lo' := [some (vR 900012 0), some (vI (nI D)), some (vI (nI t)), some (vI z), some (vI 0), some (vI (-1)), some (vI (nI 0)), none, none]) (h' := g) ?_ (Sx.inv0 (P := fun k lo' g' => ∃ z4 z5 z7 z8, lo' = [some (vR 900012 0), some (vI (nI D)), some (vI (nI t)), some (vI z), some (vI z4), some (vI z5), some (vI (nI k)), z7, z8] ∧ g' = g ∧ (k = 0 → z4 = 0 ∧ z5 = -1) ∧ (0 < k → z4 = nI (gtN SM (k - 1)) ∧ z5 = nI (SM (gtN SM (k - 1))))) 661 ⟨_, _, _, _, rfl, rfl, fun _ => ⟨rfl, rfl⟩, fun z => absurd z (Nat.lt_irrefl 0)⟩ ?_ ?_)
            · rw [t_M_worst_3, mk.1, if_pos (nI_le (Nat.le_refl _) (by omega))]; rfl
            · rintro k hk _ g' ⟨z4, z5, z7, z8, rfl, rfl, hz0, hz1⟩ kk
              refine Sx.step (t' := 8) (lo' := [some (vR 900012 0), some (vI (nI D)), some (vI (nI t)), some (vI z), some (vI z4), some (vI z5), some (vI (nI k)), some (vI (nI (sumN on (WM k) 0))), some (vI (nI 0))]) (h' := g') ?_ (Sx.inv0 (P := fun i lo' g2 => lo' = [some (vR 900012 0), some (vI (nI D)), some (vI (nI t)), some (vI z), some (vI z4), some (vI z5), some (vI (nI k)), some (vI (nI (sumN on (WM k) i))), some (vI (nI i))] ∧ g2 = g') n ⟨rfl, rfl⟩ ?_ ?_)
              · rw [t_M_worst_7, if_neg (show ¬ 660 < nI k from nI_nlt (a := 660) (by omega) (by decide))]; rfl
              · rintro i hi _ g2 ⟨rfl, rfl⟩ kk2
                have pre : dn L scr (E L scr (d + 39)) B_M_worst C_M_worst 8 [some (vR 900012 0), some (vI (nI D)), some (vI (nI t)), some (vI z), some (vI z4), some (vI z5), some (vI (nI k)), some (vI (nI (sumN on (WM k) i))), some (vI (nI i))] [] g2 = _ := t_M_worst_8 ..
                rw [mk.1, if_neg (nI_ge hi (by omega)), c_M_isOn mk hi hD, clI_ok, ← on0, nI_1] at pre
                cases e : on i with
                | false =>
                  rw [e, if_pos (show zb false = 0 from rfl)] at pre
                  exact Sx.step pre (kk2 _ _ ⟨by rw [sumN_f e, Int32.add_zero], rfl⟩)
                | true =>
                  obtain ⟨him, eD, hb⟩ := ont i e
                  obtain ⟨-, -, -, -, a5, -⟩ := hire_M (d := d + 31) cm no qw qs qd him hb (by rw [eD]; exact ld) hns cs v
                  have hmy : (nI k = -1 ∧ ∀ y, hrB k y = false) ∨ (nI k ≠ -1 ∧ ∀ y, y < 720 → inB (nI y) (nI k) (nI k + 59) = hrB k y) := Or.inr ⟨fun z => by
                    have := congrArg Int32.toInt z
                    rw [nI_toInt (by omega)] at this
                    have : (-1 : Int32).toInt = -1 := rfl
                    omega, fun y hy => by
                    rw [show nI k + 59 = nI (k + 59) from nI_add k 59, inB_nI (by omega) (by omega) (by omega)]; rfl⟩
                  rw [e, if_neg (show ¬ zb true = 0 by decide), rd_M_prices (oob_nI (by omega) (by decide)), ix_nI (by omega), pk i hi e, a5 (PR i) (prl i e) (nI k) (hrB k) hmy, clI_ok, nI_add] at pre
                  exact Sx.step pre (kk2 _ _ ⟨by rw [sumN_t e, hWM], rfl⟩)
              · rintro _ g2 ⟨rfl, rfl⟩
                have eSM : sumN on (WM k) n = SM k := by rw [hSM]
                have l1 : ∀ mm, SM mm ≤ 861937200 := fun mm => by rw [hSM]; exact SMl mm n hn
                have pre : dn L scr (E L scr (d + 39)) B_M_worst C_M_worst 8 [some (vR 900012 0), some (vI (nI D)), some (vI (nI t)), some (vI z), some (vI z4), some (vI z5), some (vI (nI k)), some (vI (nI (sumN on (WM k) n))), some (vI (nI n))] [] g2 = _ := t_M_worst_8 ..
                rw [mk.1, if_pos (nI_le (Nat.le_refl _) (by omega)), eSM, nI_1] at pre
                rw [eSM]
                by_cases k0 : k = 0
                · obtain ⟨rfl, rfl⟩ := hz0 k0
                  subst k0
                  rw [if_pos (show (-1 : Int32) < nI (SM 0) by
                    rw [Int32.lt_iff_toInt_lt, nI_toInt (by have := l1 0; omega)]
                    have : (-1 : Int32).toInt = -1 := rfl
                    omega)] at pre
                  exact Sx.step pre (kk _ _ ⟨_, _, _, _, rfl, rfl, fun z => absurd z (by omega), fun _ => ⟨rfl, rfl⟩⟩)
                · obtain ⟨rfl, rfl⟩ := hz1 (by omega)
                  have ek : k - 1 + 1 = k := by omega
                  have l2 := l1 k
                  have l3 := l1 (gtN SM (k - 1))
                  by_cases c : SM k ≤ SM (gtN SM (k - 1))
                  · rw [if_neg (nI_nlt c (by omega))] at pre
                    have eg : gtN SM k = gtN SM (k - 1) := by
                      have : gtN SM (k - 1 + 1) = gtN SM (k - 1) := if_pos (by rw [ek]; exact c)
                      rw [ek] at this; exact this
                    exact Sx.step pre (kk _ _ ⟨_, _, _, _, rfl, rfl, fun z => absurd z (by omega), fun _ => by rw [Nat.add_sub_cancel, eg]; exact ⟨rfl, rfl⟩⟩)
                  · rw [if_pos (nI_lt (by omega) (by omega))] at pre
                    have eg : gtN SM k = k := by
                      have : gtN SM (k - 1 + 1) = k - 1 + 1 := if_neg (by rw [ek]; exact c)
                      rw [ek] at this; exact this
                    exact Sx.step pre (kk _ _ ⟨_, _, _, _, rfl, rfl, fun z => absurd z (by omega), fun _ => by rw [Nat.add_sub_cancel, eg]; exact ⟨rfl, rfl⟩⟩)
            · rintro _ g' ⟨z4, z5, z7, z8, rfl, rfl, -, hz1⟩
              obtain ⟨rfl, rfl⟩ := hz1 (by decide)
              have eg : gtN SM (661 - 1) = bst := by rw [hSM, hbst]; exact gM 660
              refine Sx.ret (r := (some (vI res), g')) ?_ ⟨g', rfl, v⟩
              rw [t_M_worst_7, if_pos (by decide), hres, eg]
              by_cases c : z = 0
              · rw [if_pos c, if_pos c]
              · rw [if_neg c, if_neg c, hSM]
        obtain ⟨_, B1, h5, rfl, v5⟩ := B
        exact ⟨vI res, h4, h5, r_P_worst _ _ _ _ _ A1, r_M_worst _ _ _ _ _ B1, v5.1, trivial⟩
end Worst2

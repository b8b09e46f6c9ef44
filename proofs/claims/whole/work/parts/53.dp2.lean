/-! CALLS: guided, pay: the rows of what is left -/
section Dp2
variable {L : Nat} {scr : Nat → Int32} {d : Nat}
theorem add_m1 (x : Int32) : x + (-1) = x - 1 := (Int32.sub_eq_add_neg ..).symm
theorem solve1 {g : MH} {n P : Nat} {pay : Nat → Nat} {W K : Nat → Int32} (hn : n ≤ 8) (hP : P ≤ 8) (en : hI g 500 0 0 = nI n) (ep : ∀ k, k < P → hI g 505000008 0 k = nI (pay k)) (hpay : ∀ k, pay k ≤ 999) (ew : hI g 504000008 0 = W) (ek : hI g 501000008 0 = K) (hz : ∀ m, m < 2 ^ n → hI g 1213002304 0 (256 * P + m) = 0) : ∃ ro : Nat → Int32, (∀ r, Sm L scr (d + 2) B_Guides_solve C_Guides_solve 6 [some (vR 900004 0), some (vR 1213002304 0), some (vI (nI (2 ^ n))), some (vI 0), some (vI 0)] [] (withR g [(1213002304, 0, ro)]) r → Sm L scr (d + 2) B_Guides_solve C_Guides_solve 2 [some (vR 900004 0), some (vR 1213002304 0), some (vI (nI (2 ^ n))), some (vI (nI P - 1)), none] [] g r) ∧ ∀ q m, q ≤ P → m < 2 ^ n → ro (256 * q + m) = nI (conv (wF n P pay (okG W K) (P - q) m)) := by
  have p256 : 2 ^ n ≤ 256 := Nat.pow_le_pow_right (n := 2) (by decide) hn
  have Q : ∀ j, j ≤ P → ∃ (ro : Nat → Int32) (z4 : Option MV), (∀ r, Sm L scr (d + 2) B_Guides_solve C_Guides_solve 2 [some (vR 900004 0), some (vR 1213002304 0), some (vI (nI (2 ^ n))), some (vI (nI (P - j) - 1)), z4] [] (withR g [(1213002304, 0, ro)]) r → Sm L scr (d + 2) B_Guides_solve C_Guides_solve 2 [some (vR 900004 0), some (vR 1213002304 0), some (vI (nI (2 ^ n))), some (vI (nI P - 1)), none] [] g r) ∧ ∀ q m, P - j ≤ q → q ≤ P → m < 2 ^ n → ro (256 * q + m) = nI (conv (wF n P pay (okG W K) (P - q) m)) := by
    intro j
    induction j with
    | zero =>
      refine fun _ => ⟨hI g 1213002304 0, none, fun r kk => by rw [withR_id1 (r := []) rfl] at kk; exact kk, fun q m h1 h2 h3 => ?_⟩
      have : q = P := by omega
      subst this
      rw [hz m h3, Nat.sub_self]
      show (0 : Int32) = nI (conv 0)
      decide
    | succ j ih =>
      intro hj
      obtain ⟨ro, z4, k1, k2⟩ := ih (by omega)
      obtain ⟨p, hp⟩ : ∃ p, p = P - (j + 1) := ⟨_, rfl⟩
      have e1 : nI (P - j) - 1 = nI p := by rw [show P - j = p + 1 by omega]; exact nI_sub1
      obtain ⟨V, hV⟩ : ∃ V : Nat → Int32, V = fun m => nI (conv (wF n P pay (okG W K) (j + 1) m)) := ⟨_, rfl⟩
      refine ⟨stO ro (256 * p) V (2 ^ n), some (vI (nI (2 ^ n))), fun r kk => k1 r ?_, fun q m h1 h2 h3 => ?_⟩
      · rw [e1]
        refine Sm.step (t' := 3) (lo' := [some (vR 900004 0), some (vR 1213002304 0), some (vI (nI (2 ^ n))), some (vI (nI p)), some (vI 0)]) (st' := []) (h' := withR g [(1213002304, 0, stO ro (256 * p) V 0)]) ?_ ?_
        · rw [t_Guides_solve_2, if_neg (show ¬ nI p < 0 from nI_nlt (b := 0) (by omega) (by omega)), stO_0]
        refine Sm.for (lo := fun m => [some (vR 900004 0), some (vR 1213002304 0), some (vI (nI (2 ^ n))), some (vI (nI p)), some (vI (nI m))]) (hh := fun m => withR g [(1213002304, 0, stO ro (256 * p) V m)]) (2 ^ n) (fun m hm => ?_) (Sm.step (t' := 2) (lo' := [some (vR 900004 0), some (vR 1213002304 0), some (vI (nI (2 ^ n))), some (vI (nI (P - (j + 1)) - 1)), some (vI (nI (2 ^ n)))]) (st' := []) (h' := withR g [(1213002304, 0, stO ro (256 * p) V (2 ^ n))]) ?_ kk)
        · have gm : ∀ s, s ≠ 1213002304 → hI (withR g [(1213002304, 0, stO ro (256 * p) V m)]) s 0 = hI g s 0 := fun s hs => by rw [withR_miss (fun z => hs z.1)]; rfl
          have ec := c_worth (L := L) (scr := scr) (d := d) (h := withR g [(1213002304, 0, stO ro (256 * p) V m)]) (n := n) (P := P) (p := p) (j := j) (m := m) (pay := pay) (W := W) (K := K) hn hP (by omega) hm (by rw [gm _ (by decide)]; exact en) (by rw [gm _ (by decide)]; exact ep p (by omega)) hpay (by rw [gm _ (by decide)]; exact ew) (by rw [gm _ (by decide)]; exact ek) (fun m2 hm2 => by
            rw [withR_hit, stO_out (Or.inr (by omega)), k2 (p + 1) m2 (by omega) (by omega) hm2, show P - (p + 1) = j by omega])
          rw [t_Guides_solve_3, if_neg (nI_ge hm (by omega)), ec, clI_ok, show (256 : Int32) = nI 256 from rfl, nI_mul, nI_add, wr_P_work (oob_nI (by omega) (by decide)), ix_nI (by omega), withR_set, nI_1, Nat.mul_comm p 256, show nI (conv (wF n P pay (okG W K) (j + 1) m)) = V m by rw [hV], stO_s]
        · rw [t_Guides_solve_3, if_pos (nI_le (Nat.le_refl _) (by omega)), add_m1, ← hp]
      · by_cases c : q = p
        · subst c
          rw [stO_in h3, hV, show P - q = j + 1 by omega]
        · rw [stO_out (Or.inr (by omega))]
          exact k2 q m (by omega) h2 h3
  obtain ⟨ro, z4, k1, k2⟩ := Q P (Nat.le_refl _)
  refine ⟨ro, fun r kk => k1 r (Sm.step ?_ kk), fun q m h2 h3 => k2 q m (by omega) h2 h3⟩
  rw [t_Guides_solve_2, Nat.sub_self, if_pos (show nI 0 - 1 < 0 by decide)]
theorem c_leftBy0 {h : MH} {p m : Nat} (hp : p < 8) (hm : m < 256) : E L scr (d + 1) 306 [vR 900012 0, vI (nI p), vI (nI m), vI (-1)] h = some (some (vI (hI h 1372002304 0 (256 * (p + 1) + m))), h) := by
  refine r_M_leftBy _ _ _ _ _ (Sm.ret ?_)
  rw [t_M_leftBy_0, if_pos rfl, nI_1, show (256 : Int32) = nI 256 from rfl, nI_mul, nI_add, rd_M_bestLeft (oob_nI (by omega) (by decide)), ix_nI (by omega)]
theorem c_leftBy {h : MH} {p m g x pv : Nat} (hp : p < 8) (hm : m < 256) (hg : g < 8) (hx : hI h 1372002304 0 (256 * (p + 1) + (m ||| 2 ^ g)) = nI x) (hpv : hI h 1371000008 0 p = nI pv) : E L scr (d + 1) 306 [vR 900012 0, vI (nI p), vI (nI m), vI (nI g)] h = some (some (vI (nI (100000 + pv + x))), h) := by
  have ho : m ||| 2 ^ g < 2 ^ 8 := or_lt (n := 8) hm hg
  refine r_M_leftBy _ _ _ _ _ (Sm.ret ?_)
  rw [t_M_leftBy_0, if_neg (nI_ne1 (by omega)), rd_M_partyCoin (oob_nI hp (by decide)), ix_nI (by omega), hpv, nI_1, show (256 : Int32) = nI 256 from rfl, nI_mul, or_nI hm hg, nI_add, rd_M_bestLeft (oob_nI (by omega) (by decide)), ix_nI (by omega), hx, show (100000 : Int32) = nI 100000 from rfl, nI_add, nI_add]
theorem shl_8 {c : Nat} (h : c ≤ 8) : (1 : Int32) <<< (nI c &&& 31) = nI (2 ^ c) := shl_nI (by omega)
theorem lookLeft {g : MH} {n P : Nat} {pay : Nat → Nat} {W K : Nat → Int32} (hn : n ≤ 8) (hP : P ≤ 8) (en : hI g 1366 0 0 = nI n) (eP : hI g 1367 0 0 = nI P) (ep : ∀ k, k < P → hI g 1371000008 0 k = nI (pay k)) (hpay : ∀ k, pay k ≤ 999) (ew : hI g 1370000008 0 = W) (ek : hI g 1368000008 0 = K) : ∃ ro : Nat → Int32, E L scr (d + 2) 307 [vR 900012 0] g = some (none, withR g [(1372002304, 0, ro)]) ∧ ∀ q m, q ≤ P → m < 2 ^ n → ro (256 * q + m) = nI (wF n P pay (okG W K) (P - q) m) := by
  have p256 : 2 ^ n ≤ 256 := Nat.pow_le_pow_right (n := 2) (by decide) hn
  have gm : ∀ (f : Nat → Int32) s, s ≠ 1372002304 → hI (withR g [(1372002304, 0, f)]) s 0 = hI g s 0 := fun f s hs => by rw [withR_miss (fun z => hs z.1)]; rfl
  obtain ⟨r0, hr0⟩ : ∃ r0, r0 = hI g 1372002304 0 := ⟨_, rfl⟩
  have Q : ∀ j, j ≤ P → ∃ (ro : Nat → Int32) (z2 z3 z4 : Option MV), (∀ r, Sm L scr (d + 1) B_M_lookLeft C_M_lookLeft 3 [some (vR 900012 0), some (vI (nI (P - j) - 1)), z2, z3, z4] [] (withR g [(1372002304, 0, ro)]) r → Sm L scr (d + 1) B_M_lookLeft C_M_lookLeft 1 [some (vR 900012 0), some (vI 0), none, none, none] [] g r) ∧ ∀ q m, P - j ≤ q → q ≤ P → m < 2 ^ n → ro (256 * q + m) = nI (wF n P pay (okG W K) (P - q) m) := by
    intro j
    induction j with
    | zero =>
      refine fun _ => ⟨stO r0 (256 * P) (fun _ => 0) 256, none, none, none, fun r kk => ?_, fun q m h1 h2 h3 => ?_⟩
      · have g0 : g = withR g [(1372002304, 0, stO r0 (256 * P) (fun _ => 0) 0)] := by
          rw [stO_0, hr0]; exact (withR_id1 (r := []) rfl).symm
        have key := Sm.for (L := L) (scr := scr) (d := d + 1) (bs := B_M_lookLeft) (cs := C_M_lookLeft) (t := 1) (lo := fun k => [some (vR 900012 0), some (vI (nI k)), none, none, none]) (hh := fun k => withR g [(1372002304, 0, stO r0 (256 * P) (fun _ => 0) k)]) (r := r) 256 (fun k hk => by
          rw [t_M_lookLeft_1, if_neg (show ¬ (256 : Int32) ≤ nI k from nI_ge (b := 256) hk (by decide)), gm _ _ (by decide), eP, show (256 : Int32) = nI 256 from rfl, nI_mul, nI_add, wr_M_bestLeft (oob_nI (by omega) (by decide)), ix_nI (by omega), withR_set, nI_1, ← stO_s]) (Sm.step (t' := 3) (lo' := [some (vR 900012 0), some (vI (nI (P - 0) - 1)), none, none, none]) (st' := []) (h' := withR g [(1372002304, 0, stO r0 (256 * P) (fun _ => 0) 256)]) (by
          rw [t_M_lookLeft_1, if_pos (by decide), gm _ _ (by decide), eP, Nat.sub_zero]) kk)
        rw [← g0] at key
        exact key
      · have : q = P := by omega
        subst this
        rw [stO_in (by omega), Nat.sub_self]; rfl
    | succ j ih =>
      intro hj
      obtain ⟨ro, y2, y3, y4, k1, k2⟩ := ih (by omega)
      obtain ⟨p, hp⟩ : ∃ p, p = P - (j + 1) := ⟨_, rfl⟩
      have e1 : nI (P - j) - 1 = nI p := by rw [show P - j = p + 1 by omega]; exact nI_sub1
      obtain ⟨V, hV⟩ : ∃ V : Nat → Int32, V = fun m => nI (wF n P pay (okG W K) (j + 1) m) := ⟨_, rfl⟩
      have hp8 : p < 8 := by omega
      obtain ⟨lo, hlo⟩ : ∃ lo : Nat → List (Option MV), lo = fun m => match m with
        | 0 => [some (vR 900012 0), some (vI (nI p)), some (vI 0), y3, y4]
        | k + 1 => [some (vR 900012 0), some (vI (nI p)), some (vI (nI (k + 1))), some (vI (V k)), some (vI (nI n))] := ⟨_, rfl⟩
      have lo2 : ∀ m, ∃ z3 z4, lo m = [some (vR 900012 0), some (vI (nI p)), some (vI (nI m)), z3, z4] := fun m => by
        rw [hlo]
        cases m with
        | zero => exact ⟨_, _, rfl⟩
        | succ k => exact ⟨_, _, rfl⟩
      have lo3 : ∀ k, lo (k + 1) = [some (vR 900012 0), some (vI (nI p)), some (vI (nI (k + 1))), some (vI (V k)), some (vI (nI n))] := fun k => by rw [hlo]
      obtain ⟨w3, w4, hw⟩ := lo2 (2 ^ n)
      refine ⟨stO ro (256 * p) V (2 ^ n), some (vI (nI (2 ^ n))), w3, w4, fun r kk => k1 r ?_, fun q m h1 h2 h3 => ?_⟩
      · rw [e1]
        refine Sm.step (t' := 4) (lo' := lo 0) (st' := []) (h' := withR g [(1372002304, 0, stO ro (256 * p) V 0)]) ?_ ?_
        · rw [t_M_lookLeft_3, if_neg (show ¬ nI p < 0 from nI_nlt (b := 0) (by omega) (by omega)), stO_0, hlo]
        refine Sm.iter (lo := lo) (hh := fun m => withR g [(1372002304, 0, stO ro (256 * p) V m)]) (2 ^ n) (fun m hm km => ?_) ?_
        · obtain ⟨z3, z4, ez⟩ := lo2 m
          rw [ez]
          have row : ∀ m2, m2 < 2 ^ n → hI (withR g [(1372002304, 0, stO ro (256 * p) V m)]) 1372002304 0 (256 * (p + 1) + m2) = nI (wF n P pay (okG W K) j m2) := fun m2 hm2 => by
            rw [withR_hit, stO_out (Or.inr (by omega)), k2 (p + 1) m2 (by omega) (by omega) hm2, show P - (p + 1) = j by omega]
          obtain ⟨X, hX⟩ : ∃ X, X = mxC (fun i => okG W K i p m) (fun i => 100000 + pay p + wF n P pay (okG W K) j (m ||| 2 ^ i)) (wF n P pay (okG W K) j m) := ⟨_, rfl⟩
          have eX : V m = nI (X n) := by
            rw [hV, hX]
            show nI (mxC (fun i => okG W K i (P - (j + 1)) m) _ _ n) = _
            rw [← hp]
          have gX : ∀ i, i ≤ n → goodW (j + 1) (X i) := fun i hi => by
            rw [hX]
            refine mxC_ind (Q := goodW (j + 1)) ?_ (fun i hi hok => ?_)
            · obtain ⟨c, r, h1, h2, h3⟩ := wF_good (n := n) (P := P) (ok := okG W K) hpay j m
              exact ⟨c, r, h1, by omega, by omega⟩
            · obtain ⟨c, r, h1, h2, h3⟩ := wF_good (n := n) (P := P) (ok := okG W K) hpay j (m ||| 2 ^ i)
              have := hpay p
              exact ⟨c + 1, r + pay p, by rw [h1]; omega, by omega, by omega⟩
          obtain ⟨f, hf⟩ : ∃ f, f = withR g [(1372002304, 0, stO ro (256 * p) V m)] := ⟨_, rfl⟩
          rw [← hf] at row ⊢
          have fn : hI f 1366 0 0 = nI n := by rw [hf, gm _ _ (by decide)]; exact en
          have fw : hI f 1370000008 0 = W := by rw [hf, gm _ _ (by decide)]; exact ew
          have fk : hI f 1368000008 0 = K := by rw [hf, gm _ _ (by decide)]; exact ek
          have fp : hI f 1371000008 0 p = nI (pay p) := by rw [hf, gm _ _ (by decide)]; exact ep p (by omega)
          refine Sm.step (t' := 5) (lo' := [some (vR 900012 0), some (vI (nI p)), some (vI (nI m)), some (vI (nI (X 0))), some (vI 0)]) (st' := []) (h' := f) ?_ ?_
          · rw [t_M_lookLeft_4, fn, shl_8 hn, if_neg (nI_ge hm (by omega)), c_leftBy0 hp8 (by omega), clI_ok, row m hm, hX]; rfl
          refine Sm.for (lo := fun i => [some (vR 900012 0), some (vI (nI p)), some (vI (nI m)), some (vI (nI (X i))), some (vI (nI i))]) (hh := fun _ => f) n (fun i hi => ?_) (Sm.step (t' := 4) (lo' := lo (m + 1)) (st' := []) (h' := withR g [(1372002304, 0, stO ro (256 * p) V (m + 1))]) ?_ km)
          · rw [t_M_lookLeft_5, fn, if_neg (nI_ge hi (by omega)), c_M_has, clI_ok, nI_1]
            have hl := wF_good (n := n) (P := P) (ok := okG W K) hpay j (m ||| 2 ^ i)
            cases eb : bitB (nI m) (nI i) with
            | true =>
              have e2 : X (i + 1) = X i := by rw [hX]; exact mxC_f (ok := fun i => okG W K i p m) (by show okG W K i p m = false; unfold okG; rw [eb]; rfl)
              rw [itT, e2]
            | false =>
              rw [itF, c_M_maySing (by omega) hp8, clI_ok, fw, fk]
              by_cases c : (W p &&& (K i ^^^ (-1))) = 0
              · have e2 : X (i + 1) = max (X i) (100000 + pay p + wF n P pay (okG W K) j (m ||| 2 ^ i)) := by rw [hX]; exact mxC_t (ok := fun i => okG W K i p m) (by show okG W K i p m = true; unfold okG; rw [eb, decide_eq_true c]; rfl)
                have b1 := (conv_le8 (gX i (by omega)) (by omega)).2
                have b2 := (conv_le8 hl (by omega)).2
                have b3 := hpay p
                rw [decide_eq_true c, itT, c_leftBy hp8 (by omega) (by omega) (row _ (or_lt hm hi)) fp, clI_ok, c_max, clI_ok, max_nI (by omega) (by omega), e2]
              · have e2 : X (i + 1) = X i := by rw [hX]; exact mxC_f (ok := fun i => okG W K i p m) (by show okG W K i p m = false; unfold okG; rw [eb, decide_eq_false c]; rfl)
                rw [decide_eq_false c, itF, e2]
          · rw [t_M_lookLeft_5, fn, if_pos (nI_le (Nat.le_refl _) (by omega)), show (256 : Int32) = nI 256 from rfl, nI_mul, nI_add, wr_M_bestLeft (oob_nI (by omega) (by decide)), ix_nI (by omega), hf, withR_set, nI_1, ← eX, stO_s, lo3]
        · rw [hw]
          refine Sm.step (t' := 3) (lo' := [some (vR 900012 0), some (vI (nI (P - (j + 1)) - 1)), some (vI (nI (2 ^ n))), w3, w4]) (st' := []) (h' := withR g [(1372002304, 0, stO ro (256 * p) V (2 ^ n))]) ?_ kk
          rw [t_M_lookLeft_4, gm _ _ (by decide), en, shl_8 hn, if_pos (nI_le (Nat.le_refl _) (by omega)), add_m1, ← hp]
      · by_cases c : q = p
        · subst c
          rw [stO_in h3, hV, show P - q = j + 1 by omega]
        · rw [stO_out (Or.inr (by omega))]
          exact k2 q m (by omega) h2 h3
  obtain ⟨ro, z2, z3, z4, k1, k2⟩ := Q P (Nat.le_refl _)
  refine ⟨ro, r_M_lookLeft _ _ (Sm.step (t_M_lookLeft_0 ..) (k1 _ (Sm.ret ?_))), fun q m h2 h3 => k2 q m (by omega) h2 h3⟩
  rw [t_M_lookLeft_3, Nat.sub_self, if_pos (show nI 0 - 1 < 0 by decide)]
end Dp2

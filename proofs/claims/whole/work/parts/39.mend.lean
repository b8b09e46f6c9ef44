/-! CALLS: mend, hire, pass, pole, known, outs, worn -/
def samB (bo : Nat → Int32) (i k : Nat) : Bool := decide (bo (i + 1 + k) = bo i)
def latB (bo oa : Nat → Int32) (y : Int32) (i k : Nat) : Bool := decide (bo (i + 1 + k) = bo i ∧ oa (i + 1 + k) < y)
theorem lat_eq {bo wo oa bk tb dd : Nat → Int32} {n t nb i N : Nat} {y : Int32} (hh : HiresOk bo wo oa bk tb dd n t nb) (hN : i + 1 + N = n) : (ffst (latB bo oa y i) N).isNone = (match ffst (samB bo i) N with
  | none => true
  | some k => decide (y ≤ oa (i + 1 + k))) := by
  cases e : ffst (samB bo i) N with
  | none =>
    have h1 := ffst_none e
    cases e2 : ffst (latB bo oa y i) N with
    | none => rfl
    | some k =>
      obtain ⟨g1, g2, -⟩ := ffst_some e2
      have := of_decide_eq_false (h1 k g1)
      exact absurd (of_decide_eq_true g2).1 this
  | some k0 =>
    obtain ⟨g1, g2, g3⟩ := ffst_some e
    have g2 := of_decide_eq_true g2
    show _ = decide (y ≤ oa (i + 1 + k0))
    by_cases hy : y ≤ oa (i + 1 + k0)
    · rw [decide_eq_true hy]
      cases e2 : ffst (latB bo oa y i) N with
      | none => rfl
      | some k =>
        obtain ⟨f1, f2, -⟩ := ffst_some e2
        have f2 := of_decide_eq_true f2
        exfalso
        rcases Nat.lt_trichotomy k k0 with q | q | q
        · exact of_decide_eq_false (g3 k q) f2.1
        · subst q
          exact nlt_i.mpr hy f2.2
        · have h3 := (hh (i + 1 + k0) (by omega)).2.2 (i + 1 + k) (by omega) (by omega) (by rw [g2, f2.1])
          have f3 := f2.2
          rw [Int32.lt_iff_toInt_lt] at f3
          rw [Int32.le_iff_toInt_le] at h3 hy
          omega
    · rw [decide_eq_false hy]
      cases e2 : ffst (latB bo oa y i) N with
      | none =>
        have := of_decide_eq_false (ffst_none e2 k0 g1)
        exact absurd ⟨g2, nle_i.mp hy⟩ this
      | some k => rfl
section Mend
variable {L : Nat} {scr : Nat → Int32} {d : Nat}
theorem c_nextOut {n i N : Nat} (hn : n ≤ 120) (hN : i + 1 + N = n) {h : MH} (en : hI h 202 0 0 = nI n) : E L scr (d + 1) 18 [vR 900001 0, vI (nI i)] h = some (some (vI (match ffst (samB (hI h 203000120 0) i) N with
    | none => -1
    | some k => hI h 205000120 0 (i + 1 + k))), h) := by
  refine r_Book_nextOut 0 _ h (Sm.step (t_Book_nextOut_0 ..) ?_)
  rw [nI_1]
  refine Sm.find (lo := fun k => [some (vR 900001 0), some (vI (nI i)), some (vI (nI (i + 1 + k)))]) (hh := fun _ => h) (r := fun q => (some (vI (match q with
    | none => -1
    | some k => hI h 205000120 0 (i + 1 + k))), h)) _ N (fun k hk hp => ?_) (fun k hk hp _ => Sm.ret ?_) (fun _ => Sm.ret ?_)
  · have hp := of_decide_eq_false hp
    rw [t_Book_nextOut_1, en, if_neg (nI_ge (by omega) (by omega)), rd_Book_boatOf (oob_nI (by omega) (by decide)), rd_Book_boatOf (oob_nI (by omega) (by decide)), ix_nI (by omega), ix_nI (by omega), if_neg hp, nI_1]
    rfl
  · have hp := of_decide_eq_true hp
    rw [t_Book_nextOut_1, en, if_neg (nI_ge (by omega) (by omega)), rd_Book_boatOf (oob_nI (by omega) (by decide)), rd_Book_boatOf (oob_nI (by omega) (by decide)), ix_nI (by omega), ix_nI (by omega), if_pos hp, rd_Book_outAt (oob_nI (by omega) (by decide)), ix_nI (by omega)]
  · rw [t_Book_nextOut_1, en, if_pos (nI_le (by omega) (by omega))]
theorem call_mend (x y : Int32) (h : MH) (q : RHire h) : Both L scr (d + 40) WT RHire 134 259 [vR 900011 0, vI x, vI y] [vR 900012 0, vI x, vI y] h := by
  obtain ⟨q1, q2, q3, q4, q5, n, T, nb, hn, hT, hnb, ch, mh, cl, ml, bn, tk, hk, hsep⟩ := id q
  by_cases hb : ixB x n = false ∨ ixB y 72000 = false
  · refine both0 (vI (-1)) (r_P_mend _ _ _ _ (Sm.ret ?_)) (r_M_mend _ _ _ _ (Sm.ret ?_)) q
    · rw [t_P_mend_0, c_canEnd_no ch hb, clI_ok, if_pos rfl]
    · rw [t_M_mend_0, c_mayBe_no hn mh hb, clI_ok, if_pos rfl]
  · have hx : ixB x n = true := by
      cases e : ixB x n with
      | true => rfl
      | false => exact absurd (Or.inl e) hb
    have hy : ixB y 72000 = true := by
      cases e : ixB y 72000 with
      | true => rfl
      | false => exact absurd (Or.inr e) hb
    obtain ⟨i, hi, hi2, rfl⟩ := ixB_t hx
    obtain ⟨z, hz, hz2, rfl⟩ := ixB_t hy
    obtain ⟨⟨b, w, m, qq, g1, g2, g3, g4, g5, g6, g7, g8, g9⟩, -, -⟩ := hk i hi
    have mo : hI h 1341000120 0 i = nI m := by rw [← show hI h 205000120 0 = hI h 1341000120 0 from q3]; exact g5
    cases he : endB m z with
    | false =>
      refine both0 (vI (-1)) (r_P_mend _ _ _ _ (Sm.ret ?_)) (r_M_mend _ _ _ _ (Sm.ret ?_)) q
      · rw [t_P_mend_0, c_canEnd hn hi ch hz g6 g5, clI_ok, he, itF]
      · rw [t_M_mend_0, c_mayBe hn hi mh ml hT hz g6 mo, clI_ok, he, Bool.false_and, itF]
    | true =>
      obtain ⟨hm, B, S, C, eS, fS⟩ := see_g (L := L) (scr := scr) (d := d + 37) q 0 hT cl (Nat.le_refl T) hn ch
      have hcn := cn_all q hT cl hn ch
      have hB : B i = bkS h T i := (fS i (by rw [hcn]; exact hi)).1
      have u1 := vwx_Scr (h := h) (B := B) (S := S) (C := C) (n := cnS h T)
      have hP : E L scr (d + 39) 110 [vR 900010 0, vI (nI i)] (withR h (vwL h 0 B S C (cnS h T))) = some (some (vI (zb (!decide (bkS h T i = -1)))), withR h (vwL h 0 B S C (cnS h T))) := by
        rw [c_isBack (by omega), vwx_B, hB]
      obtain ⟨N, hN⟩ : ∃ N, i + 1 + N = n := ⟨n - (i + 1), by omega⟩
      have hch1 : hI (withR h (vwL h 0 B S C (cnS h T))) 202 0 0 = nI n := by rw [u1.2 _ _ (by decide)]; exact ch
      have hNx : E L scr (d + 39) 18 [vR 900001 0, vI (nI i)] (withR h (vwL h 0 B S C (cnS h T))) = some (some (vI (match ffst (samB (hI h 203000120 0) i) N with
          | none => -1
          | some k => hI h 205000120 0 (i + 1 + k))), withR h (vwL h 0 B S C (cnS h T))) := by
        rw [c_nextOut hn hN hch1, u1.2 203000120 0 (by decide), u1.2 205000120 0 (by decide)]
      have n1 : hI (withR h (vwL h 0 B S C (cnS h T))) 1336 0 0 = nI n := by rw [u1.2 _ _ (by decide)]; exact mh
      have n2 : hI (withR h (vwL h 0 B S C (cnS h T))) 1337 0 0 = nI T := by rw [u1.2 _ _ (by decide)]; exact ml
      have n3 : hI (withR h (vwL h 0 B S C (cnS h T))) 1341000120 0 i = nI m := by rw [u1.2 _ _ (by decide)]; exact mo
      have e1 : hI (withR h (vwL h 0 B S C (cnS h T))) 210 0 0 = nI T := by rw [u1.2 _ _ (by decide)]; exact cl
      -- what the class does behind its readings
      have tail : ∀ (ok : Bool), (match ffst (samB (hI h 203000120 0) i) N with
          | none => true
          | some k => decide (nI z ≤ hI h 205000120 0 (i + 1 + k))) = ok → ∀ (X : Option Exit), (∀ g : MH, True → True) → (let nx := (match ffst (samB (hI h 203000120 0) i) N with
          | none => (-1 : Int32)
          | some k => hI h 205000120 0 (i + 1 + k)); (if nx = -1 then X else if nI z ≤ nx then X else some (.inr (some (vI (-1)), withR h (vwL h 0 B S C (cnS h T))))) = cond ok X (some (.inr (some (vI (-1)), withR h (vwL h 0 B S C (cnS h T)))))) := by
        intro ok hok X _
        cases e : ffst (samB (hI h 203000120 0) i) N with
        | none =>
          rw [e] at hok
          have hok : true = ok := hok
          subst hok
          exact if_pos rfl
        | some k =>
          rw [e] at hok
          have hok : decide (nI z ≤ hI h 205000120 0 (i + 1 + k)) = ok := hok
          obtain ⟨f1, -, -⟩ := ffst_some e
          obtain ⟨⟨-, -, mm, -, -, -, -, -, p5, p6, -⟩, -, -⟩ := hk (i + 1 + k) (by omega)
          show (if hI h 205000120 0 (i + 1 + k) = -1 then X else if nI z ≤ hI h 205000120 0 (i + 1 + k) then X else _) = cond ok X _
          rw [if_neg (by
            rw [p5]
            intro z
            have : (nI mm).toInt = (-1 : Int32).toInt := by rw [z]
            rw [nI_toInt (by omega)] at this
            exact absurd this (by show ¬ ((mm : Int) = -1); omega))]
          by_cases c : nI z ≤ hI h 205000120 0 (i + 1 + k)
          · rw [decide_eq_true c] at hok; subst hok; exact if_pos c
          · rw [decide_eq_false c] at hok; subst hok; exact if_neg c
      generalize hok : (match ffst (samB (hI h 203000120 0) i) N with
          | none => true
          | some k => decide (nI z ≤ hI h 205000120 0 (i + 1 + k))) = ok at tail
      have tl2 := tail ok rfl
      have hlat := lat_eq (y := nI z) hk hN
      rw [hok] at hlat
      rcases Nat.lt_or_ge T 400 with hl | hl
      · by_cases hbk : bkS h T i = -1
        · -- not back
          have a1 : ∀ r ∈ SHire, hI (withR h (vwL h 0 B S C (cnS h T))) r.1 r.2 = hI h r.1 r.2 := fun r hr => u1.2 _ _ (ScrH r hr)
          obtain ⟨B2, S2, C2, D2, eK, fK⟩ := kn_g (L := L) (scr := scr) (d := d + 38) q hT cl (Nat.le_refl T) hn ch a1
          have u2 : Upd Scr h (withR (withR h (vwL h 0 B S C (cnS h T))) (knL (withR h (vwL h 0 B S C (cnS h T))) B2 S2 C2 D2 (nI T))) := u1.tr kn_Scr
          refine ⟨vI (-1), withR h (vwL h 0 B S C (cnS h T)), _, r_P_mend _ _ _ _ (Sm.ret ?_), r_M_mend _ _ _ _ (Sm.ret ?_), u2.mono WT_S, q.ag (Ag.of u2 ScrH)⟩
          · rw [t_P_mend_0, c_canEnd hn hi ch hz g6 g5, clI_ok, he, itT, cl, eS, clV_ok, hNx, clI_ok, hP, clI_ok, decide_eq_true hbk, show zb (!true) = 0 from rfl, if_pos rfl]
          · rw [t_M_mend_0, c_mayBe hn hi n1 n2 hT hz g6 n3, clI_ok, he, decide_eq_true hl, Bool.and_self, itT, n2, eK, clV_ok, rd_M_backAt (oob_nI (by omega) (by decide)), ix_nI (by omega), kn_B, (fK i hi).1, if_pos hbk]
        · cases ok with
          | true =>
            have mr : ∀ a : Nat, (a, 0) ∉ Scr → a ≠ 211000400 → a ≠ 212000400 → a ≠ 213000400 → a ≠ 210 → hI (tlL (withR h (vwL h 0 B S C (cnS h T))) T 1 (nI i) (nI z)) a 0 = hI h a 0 := by
              intro a ha h1 h2 h3 h4
              rw [hI_rn (fun c => h4 c.1), hI_rn (fun c => h3 c.1), hI_rn (fun c => h2 c.1), hI_rn (fun c => h1 c.1), u1.2 _ _ ha]
            obtain ⟨B2, S2, C2, D2, eK, fK⟩ := kn_gM (L := L) (scr := scr) (d := d + 38) (g := tlL (withR h (vwL h 0 B S C (cnS h T))) T 1 (nI i) (nI z)) q hT cl (Nat.le_refl T) hn ch (mr _ (by decide) (by decide) (by decide) (by decide) (by decide)) (mr _ (by decide) (by decide) (by decide) (by decide) (by decide)) (mr _ (by decide) (by decide) (by decide) (by decide) (by decide)) (mr _ (by decide) (by decide) (by decide) (by decide) (by decide)) (mr _ (by decide) (by decide) (by decide) (by decide) (by decide))
            have hw := of_decide_eq_true (show decide (m ≤ z ∧ z / 720 = m / 720) = true from he)
            have uK := kn_Scr (h := tlL (withR h (vwL h 0 B S C (cnS h T))) T 1 (nI i) (nI z)) (B := B2) (S := S2) (C := C2) (D := D2) (t := nI T)
            obtain ⟨r1, r2⟩ := tell_both (v2 := 0) (nb := nb) q u1 uK cl hl ch hn hi (Or.inl ⟨rfl, rfl, m, z, g5, rfl, hw.1, hw.2, hz⟩) (fun _ j hij hj hbo => by
              obtain ⟨⟨-, -, mm, -, -, -, -, -, p5, p6, -⟩, -, -⟩ := hk j hj
              refine ⟨mm, z, rfl, p5, ?_, p6⟩
              cases e9 : ffst (latB (hI h 203000120 0) (hI h 205000120 0) (nI z) i) N with
              | some k => rw [e9] at hlat; cases hlat
              | none =>
                have hno := of_decide_eq_false (ffst_none e9 (j - (i + 1)) (by omega))
                rw [show i + 1 + (j - (i + 1)) = j by omega] at hno
                have h9 := nlt_i.mp (fun c => hno ⟨hbo.symm, c⟩)
                rw [p5] at h9
                exact (nI_leI (by omega) (by omega)).mp h9)
            have k1 : hI (withR (tlL (withR h (vwL h 0 B S C (cnS h T))) T 1 (nI i) (nI z)) (knL (tlL (withR h (vwL h 0 B S C (cnS h T))) T 1 (nI i) (nI z)) B2 S2 C2 D2 (nI T))) 1336 0 0 = nI n := by
              rw [uK.2 _ _ (by decide), mr _ (by decide) (by decide) (by decide) (by decide) (by decide)]; exact mh
            have k2 : hI (withR (tlL (withR h (vwL h 0 B S C (cnS h T))) T 1 (nI i) (nI z)) (knL (tlL (withR h (vwL h 0 B S C (cnS h T))) T 1 (nI i) (nI z)) B2 S2 C2 D2 (nI T))) 1337 0 0 = nI T := by
              rw [uK.2 _ _ (by decide), mr _ (by decide) (by decide) (by decide) (by decide) (by decide)]; exact ml
            have k3 : hI (withR (tlL (withR h (vwL h 0 B S C (cnS h T))) T 1 (nI i) (nI z)) (knL (tlL (withR h (vwL h 0 B S C (cnS h T))) T 1 (nI i) (nI z)) B2 S2 C2 D2 (nI T))) 1339000120 0 = hI h 203000120 0 := by
              rw [uK.2 _ _ (by decide), mr _ (by decide) (by decide) (by decide) (by decide) (by decide)]; exact q1.symm
            have k4 : hI (withR (tlL (withR h (vwL h 0 B S C (cnS h T))) T 1 (nI i) (nI z)) (knL (tlL (withR h (vwL h 0 B S C (cnS h T))) T 1 (nI i) (nI z)) B2 S2 C2 D2 (nI T))) 1341000120 0 = hI h 205000120 0 := by
              rw [uK.2 _ _ (by decide), mr _ (by decide) (by decide) (by decide) (by decide) (by decide)]; exact q3.symm
            refine ⟨vI (nI (T + 1)), tlL (withR h (vwL h 0 B S C (cnS h T))) T 1 (nI i) (nI z), _, r_P_mend _ _ _ _ (Sm.ret ?_), r_M_mend _ _ _ _ (Sm.step (t' := 3) (lo' := [some (vR 900012 0), some (vI (nI i)), some (vI (nI z)), some (vI (nI (i + 1)))]) (st' := []) (h' := withR (tlL (withR h (vwL h 0 B S C (cnS h T))) T 1 (nI i) (nI z)) (knL (tlL (withR h (vwL h 0 B S C (cnS h T))) T 1 (nI i) (nI z)) B2 S2 C2 D2 (nI T))) ?_ ?_), r2, r1⟩
            · rw [t_P_mend_0, c_canEnd hn hi ch hz g6 g5, clI_ok, he, itT, cl, eS, clV_ok, hNx, clI_ok, hP, clI_ok, decide_eq_false hbk, show zb (!false) = 1 from rfl, if_neg i0n1, c_tell hl _ _ _ e1, clI_ok]
              exact tl2 _ (fun _ z => z)
            · have n1 : hI (tlL (withR h (vwL h 0 B S C (cnS h T))) T 1 (nI i) (nI z)) 1336 0 0 = nI n := by rw [mr _ (by decide) (by decide) (by decide) (by decide) (by decide)]; exact mh
              have n2 : hI (tlL (withR h (vwL h 0 B S C (cnS h T))) T 1 (nI i) (nI z)) 1337 0 0 = nI T := by rw [mr _ (by decide) (by decide) (by decide) (by decide) (by decide)]; exact ml
              have n3 : hI (tlL (withR h (vwL h 0 B S C (cnS h T))) T 1 (nI i) (nI z)) 1341000120 0 i = nI m := by rw [mr _ (by decide) (by decide) (by decide) (by decide) (by decide)]; exact mo
              rw [t_M_mend_0, c_mayBe hn hi n1 n2 hT hz g6 n3, clI_ok, he, decide_eq_true hl, Bool.and_self, itT, n2, eK, clV_ok, rd_M_backAt (oob_nI (by omega) (by decide)), ix_nI (by omega), kn_B, (fK i hi).1, if_neg hbk, nI_1]
            · cases e9 : ffst (latB (hI h 203000120 0) (hI h 205000120 0) (nI z) i) N with
              | some k => rw [e9] at hlat; cases hlat
              | none =>
              have hno := ffst_none e9
              refine Sm.for (lo := fun k => [some (vR 900012 0), some (vI (nI i)), some (vI (nI z)), some (vI (nI (i + 1 + k)))]) (hh := fun _ => withR (tlL (withR h (vwL h 0 B S C (cnS h T))) T 1 (nI i) (nI z)) (knL (tlL (withR h (vwL h 0 B S C (cnS h T))) T 1 (nI i) (nI z)) B2 S2 C2 D2 (nI T))) N (fun k hkN => ?_) (Sm.ret ?_)
              · have hp := of_decide_eq_false (hno k hkN)
                rw [t_M_mend_3, k1, if_neg (nI_ge (by omega) (by omega)), rd_M_boatOf (oob_nI (by omega) (by decide)), rd_M_boatOf (oob_nI (by omega) (by decide)), ix_nI (by omega), ix_nI (by omega), k3]
                by_cases c : hI h 203000120 0 (i + 1 + k) = hI h 203000120 0 i
                · rw [if_pos c, rd_M_outAt (oob_nI (by omega) (by decide)), ix_nI (by omega), k4, if_pos (nlt_i.mp (fun c2 => hp ⟨c, c2⟩)), nI_1]
                  rfl
                · rw [if_neg c, nI_1]
                  rfl
              · rw [t_M_mend_3, k1, if_pos (nI_le (by omega) (by omega)), c_tells hl _ _ _ _ k2, clI_ok]
          | false =>
            have a1 : ∀ r ∈ SHire, hI (withR h (vwL h 0 B S C (cnS h T))) r.1 r.2 = hI h r.1 r.2 := fun r hr => u1.2 _ _ (ScrH r hr)
            obtain ⟨B2, S2, C2, D2, eK, fK⟩ := kn_g (L := L) (scr := scr) (d := d + 38) q hT cl (Nat.le_refl T) hn ch a1
            have u2 : Upd Scr h (withR (withR h (vwL h 0 B S C (cnS h T))) (knL (withR h (vwL h 0 B S C (cnS h T))) B2 S2 C2 D2 (nI T))) := u1.tr kn_Scr
            have k1 : hI (withR (withR h (vwL h 0 B S C (cnS h T))) (knL (withR h (vwL h 0 B S C (cnS h T))) B2 S2 C2 D2 (nI T))) 1336 0 0 = nI n := by rw [u2.2 _ _ (by decide)]; exact mh
            have k3 : hI (withR (withR h (vwL h 0 B S C (cnS h T))) (knL (withR h (vwL h 0 B S C (cnS h T))) B2 S2 C2 D2 (nI T))) 1339000120 0 = hI h 203000120 0 := by rw [u2.2 _ _ (by decide)]; exact q1.symm
            have k4 : hI (withR (withR h (vwL h 0 B S C (cnS h T))) (knL (withR h (vwL h 0 B S C (cnS h T))) B2 S2 C2 D2 (nI T))) 1341000120 0 = hI h 205000120 0 := by rw [u2.2 _ _ (by decide)]; exact q3.symm
            refine ⟨vI (-1), withR h (vwL h 0 B S C (cnS h T)), _, r_P_mend _ _ _ _ (Sm.ret ?_), r_M_mend _ _ _ _ (Sm.step (t' := 3) (lo' := [some (vR 900012 0), some (vI (nI i)), some (vI (nI z)), some (vI (nI (i + 1)))]) (st' := []) (h' := withR (withR h (vwL h 0 B S C (cnS h T))) (knL (withR h (vwL h 0 B S C (cnS h T))) B2 S2 C2 D2 (nI T))) ?_ ?_), u2.mono WT_S, q.ag (Ag.of u2 ScrH)⟩
            · rw [t_P_mend_0, c_canEnd hn hi ch hz g6 g5, clI_ok, he, itT, cl, eS, clV_ok, hNx, clI_ok, hP, clI_ok, decide_eq_false hbk, show zb (!false) = 1 from rfl, if_neg i0n1]
              exact tl2 _ (fun _ z => z)
            · rw [t_M_mend_0, c_mayBe hn hi n1 n2 hT hz g6 n3, clI_ok, he, decide_eq_true hl, Bool.and_self, itT, n2, eK, clV_ok, rd_M_backAt (oob_nI (by omega) (by decide)), ix_nI (by omega), kn_B, (fK i hi).1, if_neg hbk, nI_1]
            · cases e9 : ffst (latB (hI h 203000120 0) (hI h 205000120 0) (nI z) i) N with
              | none => rw [e9] at hlat; cases hlat
              | some k0 =>
              obtain ⟨f1, f2, f3⟩ := ffst_some e9
              refine Sm.for (lo := fun k => [some (vR 900012 0), some (vI (nI i)), some (vI (nI z)), some (vI (nI (i + 1 + k)))]) (hh := fun _ => withR (withR h (vwL h 0 B S C (cnS h T))) (knL (withR h (vwL h 0 B S C (cnS h T))) B2 S2 C2 D2 (nI T))) k0 (fun k hkN => ?_) (Sm.ret ?_)
              · have hp := of_decide_eq_false (f3 k hkN)
                rw [t_M_mend_3, k1, if_neg (nI_ge (by omega) (by omega)), rd_M_boatOf (oob_nI (by omega) (by decide)), rd_M_boatOf (oob_nI (by omega) (by decide)), ix_nI (by omega), ix_nI (by omega), k3]
                by_cases c : hI h 203000120 0 (i + 1 + k) = hI h 203000120 0 i
                · rw [if_pos c, rd_M_outAt (oob_nI (by omega) (by decide)), ix_nI (by omega), k4, if_pos (nlt_i.mp (fun c2 => hp ⟨c, c2⟩)), nI_1]
                  rfl
                · rw [if_neg c, nI_1]
                  rfl
              · have hp := of_decide_eq_true f2
                rw [t_M_mend_3, k1, if_neg (nI_ge (by omega) (by omega)), rd_M_boatOf (oob_nI (by omega) (by decide)), rd_M_boatOf (oob_nI (by omega) (by decide)), ix_nI (by omega), ix_nI (by omega), k3, if_pos hp.1, rd_M_outAt (oob_nI (by omega) (by decide)), ix_nI (by omega), k4, if_neg (nle_i.mpr hp.2)]
      · have eT : T = 400 := by omega
        subst eT
        refine ⟨vI (-1), withR h (vwL h 0 B S C (cnS h 400)), withR h (vwL h 0 B S C (cnS h 400)), r_P_mend _ _ _ _ (Sm.ret ?_), r_M_mend _ _ _ _ (Sm.ret ?_), u1.mono WT_S, q.ag (Ag.of u1 ScrH)⟩
        · rw [t_P_mend_0, c_canEnd hn hi ch hz g6 g5, clI_ok, he, itT, cl, eS, clV_ok, hNx, clI_ok, hP, clI_ok]
          by_cases hbk : bkS h 400 i = -1
          · rw [decide_eq_true hbk, show zb (!true) = 0 from rfl, if_pos rfl]
          · rw [decide_eq_false hbk, show zb (!false) = 1 from rfl, if_neg i0n1, c_tell_full _ _ _ e1, clI_ok]
            have := tl2 (some (.inr (some (vI (-1)), withR h (vwL h 0 B S C (cnS h 400))))) (fun _ z => z)
            refine this.trans ?_
            cases ok <;> rfl
        · rw [t_M_mend_0, c_mayBe hn hi n1 n2 hT hz g6 n3, clI_ok, he, decide_eq_false (by decide), Bool.and_false, itF]
end Mend

/-! LAWS read, on the reference's side -/
theorem by8 (x : Int32) : ∃ c, c < 256 ∧ x &&& 255 = nI c ∧ Int8.toInt32 (Int32.toInt8 x) = txI c := by
  refine ⟨x.toBitVec.toNat % 256, Nat.mod_lt _ (by decide), ?_, ?_⟩
  · apply Int32.toBitVec_inj.mp
    apply BitVec.eq_of_toNat_eq
    show (x.toBitVec &&& 255#32).toNat = (BitVec.ofNat 32 (x.toBitVec.toNat % 256)).toNat
    have lt : x.toBitVec.toNat % 256 < 2 ^ 32 := Nat.lt_of_lt_of_le (Nat.mod_lt _ (show 0 < 256 by decide)) (show 256 ≤ 2 ^ 32 by decide)
    refine (BitVec.toNat_and ..).trans ?_
    rw [show (255#32).toNat = 255 from rfl, BitVec.toNat_ofNat, Nat.mod_eq_of_lt lt]
    exact Nat.and_two_pow_sub_one_eq_mod _ 8
  · have e : (Int8.toInt32 (Int32.toInt8 x)).toBitVec = (x.toBitVec.signExtend 8).signExtend 32 := rfl
    have e8 : x.toBitVec.signExtend 8 = BitVec.ofNat 8 (x.toBitVec.toNat % 256) := by
      apply BitVec.eq_of_getLsbD_eq
      intro i hi
      rw [BitVec.getLsbD_signExtend, BitVec.getLsbD_ofNat, show (256 : Nat) = 2 ^ 8 from rfl, Nat.testBit_mod_two_pow]
      have : i < 32 := by omega
      simp only [hi, this, decide_true, Bool.true_and, if_true]
      rfl
    have k : ∀ c : Fin 256, (BitVec.ofNat 8 c.val).signExtend 32 = (txI c.val).toBitVec := by decide +kernel
    apply Int32.toBitVec_inj.mp
    rw [e, e8]
    exact k ⟨x.toBitVec.toNat % 256, Nat.mod_lt _ (by decide)⟩
def okS : LSt ⊕ Nat → Bool
  | .inl _ => true
  | .inr _ => false
/-- nothing said yet -/
def S0 : LSt := (bareN, 0, fun _ => ((0, 0, 0, 0), fun _ => true))
abbrev WMs : List (Nat × Nat) := WMr ++ [(1301, 0), (1307, 0)]
abbrev WMz : List (Nat × Nat) := WMs ++ [(1323100900, 0), (1304, 0), (1303, 0)]
theorem wms1 : ∀ q ∈ WMr, q ∈ WMs := by decide
theorem wms2 : ∀ q ∈ WLx, q ∈ WMs := by decide
theorem wmz1 : ∀ q ∈ WMs, q ∈ WMz := by decide
section MReads
variable {L : Nat} {scr : Nat → Int32} {d : Nat}
theorem LwM.ot {h : MH} {b s : Nat} {S : LSt} {i : Nat} {x : Int32} (hs : s ∉ lwB) (q : LwM h b S) : LwM (sI h s 0 i x) b S := q.same (fun t ht => hI_rn (fun z => hs (by rw [← z.1]; exact ht)))
theorem m_fail {h : MH} {v : Nat → Nat} {n p g : Nat} (l1 : Int32) (a : AtM h v n p) (e : hdP (lex v n p) = g) : ∃ h2, Sm L scr (d + 31) B_M_reads C_M_reads 3 [some (vR 900012 0), some (vI l1), some (vI 0)] [] h (some (vI 0), h2) ∧ Upd WMs h h2 ∧ FrD h h2 ∧ hI h2 1307 0 0 = nI g := by
  obtain ⟨h1, q, e1, u1, a1, nb, pq, lx⟩ := c_M_blanks (L := L) (scr := scr) (d := d + 30) a
  obtain ⟨t, g', r, el⟩ := lexNE (v := v) (n := n) (p := q)
  obtain ⟨gq, -⟩ := lex_h nb el
  have hg : g = q := by rw [← e, ← lx, el]; exact gq
  refine ⟨sI h1 1307 0 0 (nI g), Sm.step (t' := 8) (lo' := [some (vR 900012 0), some (vI l1), some (vI 0)]) (st' := []) (h' := h1) ?_ (Sm.ret ?_), (u1.mono (by decide)).sI (by decide), FrD.of (W := [(1305, 0), (1307, 0)]) ((u1.mono (by decide)).sI (by decide)) (by decide), by rw [hI_rs, up_s]⟩
  · rw [t_M_reads_3, if_pos rfl, if_pos rfl, e1, clV_ok]
  · rw [t_M_reads_8, if_pos rfl, a1.2.2, ← hg, rtZ0]
theorem m_run {v : Nat → Nat} {n : Nat} (l1 : Int32) : ∀ (k i : Nat) (h : MH) (p b : Nat) (S : LSt), i + k = 40 → AtM h v n p → NoB v n p → LB S.1 → S.2.1 ≤ i → LwM h b S → 3 * b ≤ hdP (lex v n p) + 6750 → hI h 1301 0 0 = nI i → ∃ h2, Sm L scr (d + 31) B_M_reads C_M_reads 3 [some (vR 900012 0), some (vI l1), some (vI 1)] [] h (some (vI (zb (okS (pLaw k S (lex v n p))))), h2) ∧ Upd WMs h h2 ∧ FrD h h2 ∧ hI h2 1307 0 0 = rfI (pLaw k S (lex v n p)) ∧ ∀ S2, pLaw k S (lex v n p) = .inl S2 → ∃ b, b ≤ 2550 ∧ LwM h2 b S2 := by
  intro k
  induction k with
  | zero =>
    intro i h p b S hi a nb hl hS lw b3 er
    obtain ⟨t, g, r, e⟩ := lexNE (v := v) (n := n) (p := p)
    have gn : g ≤ 900 := by
      have := (lex_ok (v := v) (p := p) a.1.1).1
      rw [e] at this; exact this.1
    rw [e] at b3 ⊢
    replace b3 : 3 * b ≤ g + 6750 := b3
    obtain ⟨gq, hh⟩ := lex_h nb e
    have n9 := a.1.1
    have pn := a.2.1
    by_cases t4 : t = 4000
    · subst t4
      rw [pLaw_4]
      have np : n ≤ p := by
        rcases hh with ⟨z, -⟩ | ⟨-, z, -⟩
        · omega
        · have := tok_ok (v := v) (n := n) (q := p)
          rw [← z] at this; omega
      refine ⟨sI h 1307 0 0 (-1), Sm.step (t' := 8) (lo' := [some (vR 900012 0), some (vI l1), some (vI 1)]) (st' := []) (h' := h) ?_ (Sm.ret ?_), (Upd.rf _ h).sI (by decide), FrD.of (W := [(1307, 0)]) ((Upd.rf _ h).sI (by decide)) (by decide), by rw [hI_rs, up_s]; rfl, fun S2 z => ?_⟩
      · rw [t_M_reads_3, if_neg i0n1, a.1.2.1, a.2.2, if_pos (nI_le np (by omega)), if_neg i0n1]
      · rw [t_M_reads_8, if_neg i0n1, rtZ1]; rfl
      · injection z with z
        subst z
        exact ⟨b, by omega, lw.ot (by decide)⟩
    · rw [pLaw_0 t4]
      have np : ¬ n ≤ p := by
        rcases hh with ⟨-, z, -⟩ | ⟨z, -, -⟩
        · exact absurd z t4
        · omega
      obtain ⟨h2, s2, u2, r2, f2⟩ := m_fail (L := L) (scr := scr) (d := d) l1 a (by rw [e]; rfl : hdP (lex v n p) = g)
      refine ⟨h2, Sm.step ?_ s2, u2, r2, f2, fun S2 z => nomatch z⟩
      rw [t_M_reads_3, if_neg i0n1, a.1.2.1, a.2.2, if_neg (nI_ge (by omega) (by omega)), er, if_pos (show (40 : Int32) ≤ nI i from nI_le (a := 40) (by omega) (by omega)), if_pos rfl]
  | succ k ih =>
    intro i h p b S hi a nb hl hS lw b3 er
    obtain ⟨t, g, r, e⟩ := lexNE (v := v) (n := n) (p := p)
    have gn : g ≤ 900 := by
      have := (lex_ok (v := v) (p := p) a.1.1).1
      rw [e] at this; exact this.1
    rw [e] at b3 ⊢
    replace b3 : 3 * b ≤ g + 6750 := b3
    obtain ⟨gq, hh⟩ := lex_h nb e
    have n9 := a.1.1
    have pn := a.2.1
    by_cases t4 : t = 4000
    · subst t4
      rw [pLaw_4]
      have np : n ≤ p := by
        rcases hh with ⟨z, -⟩ | ⟨-, z, -⟩
        · omega
        · have := tok_ok (v := v) (n := n) (q := p)
          rw [← z] at this; omega
      refine ⟨sI h 1307 0 0 (-1), Sm.step (t' := 8) (lo' := [some (vR 900012 0), some (vI l1), some (vI 1)]) (st' := []) (h' := h) ?_ (Sm.ret ?_), (Upd.rf _ h).sI (by decide), FrD.of (W := [(1307, 0)]) ((Upd.rf _ h).sI (by decide)) (by decide), by rw [hI_rs, up_s]; rfl, fun S2 z => ?_⟩
      · rw [t_M_reads_3, if_neg i0n1, a.1.2.1, a.2.2, if_pos (nI_le np (by omega)), if_neg i0n1]
      · rw [t_M_reads_8, if_neg i0n1, rtZ1]; rfl
      · injection z with z
        subst z
        exact ⟨b, by omega, lw.ot (by decide)⟩
    · rw [pLaw_s t4]
      have np : ¬ n ≤ p := by
        rcases hh with ⟨-, z, -⟩ | ⟨z, -, -⟩
        · exact absurd z t4
        · omega
      have l40 : ¬ (40 : Int32) ≤ nI i := nI_ge (b := 40) (by omega) (by decide)
      obtain ⟨h1, e1, u1, k1⟩ := m_rule (L := L) (scr := scr) (d := d) (by omega) a lw e b3
      have er1 : hI h1 1301 0 0 = nI i := by rw [u1.1.2 _ _ (by decide)]; exact er
      cases x : pRule S ((t, g) :: r) with
      | inr g2 =>
        rw [x] at e1 k1
        obtain ⟨q1, a1, eg⟩ := k1
        have ps : pStep S ((t, g) :: r) = .inr g2 := bd_r x
        rw [ps]
        obtain ⟨h2, s2, u2, r2, f2⟩ := m_fail (L := L) (scr := scr) (d := d) l1 a1 eg
        refine ⟨h2, Sm.step ?_ s2, (u1.1.mono wms1).tr u2, u1.2.tr r2, f2, fun S2 z => nomatch z⟩
        replace e1 : E L scr (d + 31) 227 [vR 900012 0] h = some (some (vI 0), h1) := e1
        rw [t_M_reads_3, if_neg i0n1, a.1.2.1, a.2.2, if_neg (nI_ge (by omega) (by omega)), er, if_neg l40, e1, clI_ok, if_pos rfl, if_pos rfl]
      | inl y =>
        obtain ⟨l2, S2⟩ := y
        rw [x] at e1 k1
        replace e1 : E L scr (d + 31) 227 [vR 900012 0] h = some (some (vI 1), h1) := e1
        obtain ⟨q1, b1, a1, le1, b13, lw1⟩ := k1
        obtain ⟨hl2, hS2⟩ := pRule_ok hl x
        obtain ⟨h2, q2, u2, a2, ⟨e2, p2, y2⟩ | ⟨e2, p2⟩⟩ := m_sg (L := L) (scr := scr) (d := d + 29) (c := 59) (by decide) a1
        · replace e2 : E L scr (d + 31) 211 [vR 900012 0, vI 59] h1 = some (some (vI 1), h2) := e2
          rw [le1] at p2 y2
          have ps : pStep S ((t, g) :: r) = .inl (lex v n q2, S2) := (bd_l x).trans (bd_l p2)
          rw [ps]
          obtain ⟨h3, hh3⟩ : ∃ h3, h3 = sI h2 1301 0 0 (nI (i + 1)) := ⟨_, rfl⟩
          have a3 : AtM h3 v n q2 := by rw [hh3]; exact a2.rw' (W := [(1301, 0)]) ((Upd.rf _ h2).sI (by decide)) (by decide)
          have er2 : hI h2 1301 0 0 = nI i := by rw [u2.2 _ _ (by decide)]; exact er1
          obtain ⟨h4, q4, e4, u4, a4, nb4, -, lx4⟩ := c_M_blanks (L := L) (scr := scr) (d := d + 30) a3
          have u4' : Upd WLx h3 h4 := u4.mono (by decide)
          have lw4 : LwM h4 b1 S2 := by
            refine LwM.lx u4' ?_
            rw [hh3]
            exact (lw1.lx u2).ot (by decide)
          obtain ⟨h5, s5, u5, r5, f5, m5⟩ := ih (i + 1) h4 q4 b1 S2 (by omega) a4 nb4 hl2 (by omega) lw4 (by rw [lx4]; omega) (by rw [u4'.2 _ _ (by decide), hh3, hI_rs, up_s])
          rw [lx4] at s5 f5 m5
          refine ⟨h5, Sm.step ?_ s5, ((u1.1.mono wms1).tr (u2.mono wms2)).tr (Upd.tr ?_ ((u4'.mono wms2).tr u5)), (u1.2.tr (FrD.of u2 (by decide))).tr (FrD.tr ?_ ((FrD.of u4' (by decide)).tr r5)), f5, m5⟩
          · rw [t_M_reads_3, if_neg i0n1, a.1.2.1, a.2.2, if_neg (nI_ge (by omega) (by omega)), er, if_neg l40, e1, clI_ok, if_neg i0n1, e2, clI_ok, if_neg i0n1, if_neg i0n1, er2, nI_1, ← hh3, e4, clV_ok]
          · rw [hh3]; exact (Upd.rf _ h2).sI (by decide)
          · rw [hh3]; exact FrD.of (W := [(1301, 0)]) ((Upd.rf _ h2).sI (by decide)) (by decide)
        · replace e2 : E L scr (d + 31) 211 [vR 900012 0, vI 59] h1 = some (some (vI 0), h2) := e2
          rw [le1] at p2
          have ps : pStep S ((t, g) :: r) = .inr (hdP (lex v n q2)) := (bd_l x).trans (bd_r p2)
          rw [ps]
          obtain ⟨h3, s3, u3, r3, f3⟩ := m_fail (L := L) (scr := scr) (d := d) l1 a2 rfl
          refine ⟨h3, Sm.step ?_ s3, ((u1.1.mono wms1).tr (u2.mono wms2)).tr u3, (u1.2.tr (FrD.of u2 (by decide))).tr r3, f3, fun S2 z => nomatch z⟩
          rw [t_M_reads_3, if_neg i0n1, a.1.2.1, a.2.2, if_neg (nI_ge (by omega) (by omega)), er, if_neg l40, e1, clI_ok, if_neg i0n1, e2, clI_ok, if_pos rfl, if_pos rfl]
theorem c_M_reads {h : MH} {v : Nat → Nat} {n : Nat} (n9 : n ≤ 900) (hv : ∀ i, v i < 256) (ht : ∀ i, i < n → Int8.toInt32 (Int32.toInt8 (hI h 1322100900 0 i)) = txI (v i)) : ∃ h2, E L scr (d + 32) 229 [vR 900012 0, vI (nI n)] h = some (some (vI (zb (okS (pLaw 40 S0 (lex v n 0))))), h2) ∧ Upd WMz h h2 ∧ FrD h h2 ∧ hI h2 1303 0 0 = 0 ∧ hI h2 1307 0 0 = rfI (pLaw 40 S0 (lex v n 0)) ∧ ∀ S2, pLaw 40 S0 (lex v n 0) = .inl S2 → ∃ b, b ≤ 2550 ∧ LwM h2 b S2 := by
  obtain ⟨T, hT⟩ : ∃ T, T = fun k => stO (hI h 1323100900 0) 0 (fun i => Int8.toInt32 (Int32.toInt8 (hI h 1322100900 0 i))) k := ⟨_, rfl⟩
  obtain ⟨hh, hhh⟩ : ∃ hh : Nat → MH, hh = fun j => withR h [(1323100900, 0, T j)] := ⟨_, rfl⟩
  have h0 : hh 0 = h := by
    rw [hhh, hT]
    refine withR_id (fun q hq => ?_)
    simp only [List.mem_cons, List.not_mem_nil, or_false] at hq
    rcases hq with rfl
    dsimp only
    exact stO_0 _ _ _
  have hm : ∀ j a b, ¬ (a = 1323100900 ∧ b = 0) → hI (hh j) a b = hI h a b := fun j a b z => by rw [hhh]; exact withR_miss z
  have st : ∀ j, sI (hh j) 1323100900 0 j (Int8.toInt32 (Int32.toInt8 (hI h 1322100900 0 j))) = hh (j + 1) := fun j => by
    have e := stO_s (hI h 1323100900 0) 0 (fun i => Int8.toInt32 (Int32.toInt8 (hI h 1322100900 0 i))) j
    rw [Nat.zero_add] at e
    rw [hhh, hT]
    show sI (withR h [(1323100900, 0, stO (hI h 1323100900 0) 0 (fun i => Int8.toInt32 (Int32.toInt8 (hI h 1322100900 0 i))) j)]) 1323100900 0 j (Int8.toInt32 (Int32.toInt8 (hI h 1322100900 0 j))) = withR h [(1323100900, 0, stO (hI h 1323100900 0) 0 (fun i => Int8.toInt32 (Int32.toInt8 (hI h 1322100900 0 i))) (j + 1))]
    rw [withR_set, e]
  have un : Upd [(1323100900, 0)] h (hh n) := by
    rw [hhh]
    exact withR_Upd (fun q hq => by
      simp only [List.mem_cons, List.not_mem_nil, or_false] at hq
      rcases hq with rfl
      dsimp only; decide)
  have tn : ∀ i, i < n → hI (hh n) 1323100900 0 i = txI (v i) := fun i hi => by
    rw [hhh]
    show hI (withR h [(1323100900, 0, T n)]) 1323100900 0 i = _
    rw [withR_hit, hT]
    have e := stO_in (f := hI h 1323100900 0) (s := 0) (V := fun i => Int8.toInt32 (Int32.toInt8 (hI h 1322100900 0 i))) (n := n) hi
    rw [Nat.zero_add] at e
    exact e.trans (ht i hi)
  obtain ⟨h1, hh1⟩ : ∃ h1, h1 = sI (sI (sI (sI (sI (hh n) 1304 0 0 (nI n)) 1303 0 0 0) 1305 0 0 0) 1301 0 0 0) 1302 0 0 2250 := ⟨_, rfl⟩
  have u1 : Upd WMz h h1 := by rw [hh1]; exact (((((un.mono (by decide)).sI (by decide)).sI (by decide)).sI (by decide)).sI (by decide)).sI (by decide)
  obtain ⟨h2, e2, u2, lr, cr⟩ := c_M_bare5 (L := L) (scr := scr) (d := d + 30) (h := h1)
  have tx1 : TxV h1 v n := by
    refine ⟨n9, by rw [hh1, hI_rn (by decide), hI_rn (by decide), hI_rn (by decide), hI_rn (by decide), hI_rs, up_s], fun i hi => ?_, hv⟩
    rw [hh1, hI_rn (by decide), hI_rn (by decide), hI_rn (by decide), hI_rn (by decide), hI_rn (by decide)]
    exact tn i hi
  have at1 : AtM h1 v n 0 := ⟨tx1, Nat.zero_le _, by rw [hh1, hI_rn (by decide), hI_rn (by decide), hI_rs, up_s]; rfl⟩
  have at2 : AtM h2 v n 0 := at1.rw' u2 (by decide)
  obtain ⟨h3, q3, e3, u3, a3, nb3, -, lx3⟩ := c_M_blanks (L := L) (scr := scr) (d := d + 30) at2
  have u3' : Upd WLx h2 h3 := u3.mono (by decide)
  have lw2 : LwM h2 2250 S0 := by
    refine ⟨fun j hj => ?_, by decide, ?_, ?_, Nat.le_refl _, fun i hi => absurd hi (Nat.not_lt_zero i)⟩
    · rw [lr, stO_in hj]; exact bareN_F j
    · rw [cr, up_s]; rfl
    · rw [u2.2 _ _ (by decide), hh1, hI_rs, up_s]; rfl
  have lw3 := lw2.lx u3'
  have rm3 : hI h3 1301 0 0 = nI 0 := by rw [u3'.2 _ _ (by decide), u2.2 _ _ (by decide), hh1, hI_rn (by decide), hI_rs, up_s]; rfl
  obtain ⟨h4, s4, u4, r4, f4, m4⟩ := m_run (L := L) (scr := scr) (d := d) (v := v) (n := n) (nI n) 40 0 h3 q3 2250 S0 rfl a3 nb3 bareN_LB (Nat.le_refl _) lw3 (by omega) rm3
  rw [lx3] at s4 f4 m4
  refine ⟨h4, r_M_reads (d := d + 31) _ _ _ (Sm.step (t' := 1) (lo' := [some (vR 900012 0), some (vI (nI n)), some (vI (nI 0))]) (st' := []) (h' := hh 0) (by rw [t_M_reads_0, h0]; rfl) ?_), u1.tr ((u2.mono (by decide)).tr ((u3'.mono (by decide)).tr (u4.mono wmz1))), ?_, ?_, f4, m4⟩
  · refine Sm.for (lo := fun j => [some (vR 900012 0), some (vI (nI n)), some (vI (nI j))]) (hh := hh) n (fun j hj => ?_) (Sm.step ?_ s4)
    · have ob : ¬ oob (nI j) 900 := oob_nI (by omega) (by decide)
      have ixj : ix (nI j) = j := ix_nI (by omega)
      rw [t_M_reads_1, if_neg (nI_ge hj (by omega)), rd_M_tape ob, ixj, hm j _ _ (by decide), wr_M_text ob, ixj, st j, nI_1]
    · rw [t_M_reads_1, if_pos (nI_le (Nat.le_refl _) (by omega)), ← hh1]
      replace e2 : E L scr (d + 31) 228 [vR 900012 0, vI 5] h1 = some (none, h2) := e2
      rw [e2, clV_ok, e3, clV_ok]
  · have r1 : FrD h h1 := FrD.of (W := [(1323100900, 0), (1304, 0), (1303, 0), (1305, 0), (1301, 0), (1302, 0)]) (by rw [hh1]; exact (((((un.mono (by decide)).sI (by decide)).sI (by decide)).sI (by decide)).sI (by decide)).sI (by decide)) (by decide)
    have r2 : FrD h1 h2 := ⟨fun c hc => by rw [lr, stO_out (Or.inl (by omega))], fun c hc => by rw [cr, up_n (by omega)], fun s hs c _ => by rw [u2.2 s 0 (fun z => (by decide : ∀ s, s ∈ clS → s ∉ [(1308000384, 0), (1310000006, 0)].map Prod.fst) s hs (List.mem_map_of_mem (f := Prod.fst) z))], KpS.of _ u2 (by decide)⟩
    exact (r1.tr r2).tr ((FrD.of u3' (by decide)).tr r4)
  · rw [u4.2 _ _ (by decide), u3'.2 _ _ (by decide), u2.2 _ _ (by decide), hh1, hI_rn (by decide), hI_rn (by decide), hI_rn (by decide), hI_rs, up_s]
end MReads

/-! CALL: law, whole -/
section CallLaw3
variable {L : Nat} {scr : Nat → Int32} {d : Nat}
theorem WLc_site {m : Nat} : ∀ q, q ∈ WLc m → q.1 ∈ lawRows ∧ (q.1 ∈ lcS → q.2 = m) ∧ q.1 ∉ [1308000384, 1310000006, 1317002700, 1318002700, 1319002700, 1309000006] ++ clS := by
  intro q hq
  simp only [WLc, WRu, WOne, WRd, WLw, WAr, List.cons_append, List.nil_append, List.mem_cons, List.mem_append, List.not_mem_nil, or_false] at hq
  rcases hq with rfl | rfl | rfl | rfl | rfl | rfl | rfl | rfl | rfl | rfl | rfl | rfl | rfl | rfl | rfl | rfl | rfl | rfl | rfl
  all_goals refine ⟨?_, fun z => ?_, ?_⟩
  all_goals first
    | rfl
    | (dsimp only; decide)
    | (dsimp only at z; exact absurd z (by decide))
theorem WRz_site {m : Nat} : ∀ q, q ∈ WRz m → q.1 ∈ lawRows ∧ (q.1 ∈ lcS → q.2 = m) ∧ q.1 ∉ [1308000384, 1310000006, 1317002700, 1318002700, 1319002700, 1309000006] ++ clS := by
  intro q hq
  rcases List.mem_append.mp hq with z | z
  · obtain ⟨a, b, c⟩ := (by decide : ∀ q, q ∈ WSc → q.1 ∈ lawRows ∧ q.1 ∉ lcS ∧ q.1 ∉ [1308000384, 1310000006, 1317002700, 1318002700, 1319002700, 1309000006] ++ clS) q z
    exact ⟨a, fun z => absurd z b, c⟩
  · rcases List.mem_cons.mp z with rfl | z
    · exact ⟨by decide, fun z => absurd z (by decide), by decide⟩
    · exact WLc_site q (List.mem_cons_of_mem _ z)
theorem call_law (x y : Int32) (h : MH) (qt : RTape h) (qf : RFault h) (qr : RRule h) (qn : RNum h) (ql : RLaw h) (qb : RStp h) (qa : RLal h) (qc : RCnt h) : ∃ r h1 h2, E L scr (d + 40) 125 [vR 900011 0, vI x, vI y] h = some (some r, h1) ∧ E L scr (d + 40) 230 [vR 900012 0, vI x, vI y] h1 = some (some r, h2) ∧ (RTape h2 ∧ RFault h2 ∧ RRule h2 ∧ RNum h2 ∧ RLaw h2 ∧ RStp h2 ∧ RLal h2 ∧ RCnt h2) ∧ FrL h h2 := by
  obtain ⟨n, hn, cL, mL, qL⟩ := Laws.of qr qn ql qb
  obtain ⟨k, k9, ek, em, tk⟩ := id qt
  have same : ∀ r, Sm L scr (d + 39) B_P_law C_P_law 0 [some (vR 900011 0), some (vI x), some (vI y), none] [] h (some r, h) → Sm L scr (d + 39) B_M_law C_M_law 0 [some (vR 900012 0), some (vI x), some (vI y), none, none, none, none] [] h (some r, h) → ∃ r h1 h2, E L scr (d + 40) 125 [vR 900011 0, vI x, vI y] h = some (some r, h1) ∧ E L scr (d + 40) 230 [vR 900012 0, vI x, vI y] h1 = some (some r, h2) ∧ (RTape h2 ∧ RFault h2 ∧ RRule h2 ∧ RNum h2 ∧ RLaw h2 ∧ RStp h2 ∧ RLal h2 ∧ RCnt h2) ∧ FrL h h2 := fun r a b => ⟨r, h, h, r_P_law (d := d + 39) _ _ _ _ a, r_M_law (d := d + 39) _ _ _ _ b, ⟨qt, qf, qr, qn, ql, qb, qa, qc⟩, FrL.rf h⟩
  cases hx : inB x 0 (nI k) with
  | false =>
    refine same (vI (-2)) (Sm.ret ?_) (Sm.ret ?_)
    · rw [t_P_law_0]
      by_cases c1 : x < 0
      · rw [if_pos c1]
      · rw [if_neg c1, ek]
        by_cases c2 : nI k < x
        · rw [if_pos c2]
        · have : inB x 0 (nI k) = true := decide_eq_true ⟨nlt_i.mp c1, nlt_i.mp c2⟩
          rw [this] at hx; cases hx
    · rw [t_M_law_0, em, c_M_isIn, clI_ok, hx, itF]
  | true =>
    have hx2 := of_decide_eq_true hx
    have x0 : ¬ x < 0 := nlt_i.mpr hx2.1
    have x1 : ¬ nI k < x := nlt_i.mpr hx2.2
    cases hy : ixB y 100 with
    | false =>
      refine same (vI (-2)) (Sm.ret ?_) (Sm.ret ?_)
      · rw [t_P_law_0, if_neg x0, ek, if_neg x1, c_P_isDay, clI_ok, hy, itF]
      · rw [t_M_law_0, em, c_M_isIn, clI_ok, hx, itT, c_M_isDay, clI_ok, hy, itF]
    | true =>
      rcases Nat.lt_or_ge n 5 with n5 | n5
      · obtain ⟨w, hw, rfl⟩ := inB_t (n := k) (nI_toInt (by omega)) hx
        obtain ⟨D, hDd, -, rfl⟩ := ixB_t hy
        obtain ⟨v, hv⟩ : ∃ v : Nat → Nat, ∀ i, v i < 256 ∧ hI h 1322100900 0 i &&& 255 = nI (v i) ∧ Int8.toInt32 (Int32.toInt8 (hI h 1322100900 0 i)) = txI (v i) := ⟨fun i => (by8 (hI h 1322100900 0 i)).choose, fun i => (by8 (hI h 1322100900 0 i)).choose_spec⟩
        obtain ⟨g0, o0, f0, i0, ⟨gC, gD, gr, gR, gN⟩, run⟩ := law_obj (L := L) (scr := scr) (d := d + 37) n5 cL qa x0 (by rw [ek]; exact x1) hy
        have b0 : ∀ s, hI g0 s 0 = hI h s 0 := fun s => i0 s 0 (Or.inl (by omega))
        obtain ⟨g1, e1, u1, lw1, d1⟩ := c_clear (L := L) (scr := scr) (d := d + 37) (h := g0) (m := n + 1) (nI D)
        have f1 : ∀ s, s ∉ lcS → s ∉ [704, 705] → hI g1 s 0 = hI g0 s 0 := fun s h1 h2 => u1.2 s 0 (fun z => by
          simp only [WLc, WRu, WOne, WRd, WLw, WAr, List.cons_append, List.nil_append, List.mem_cons, List.mem_append, List.not_mem_nil, or_false, Prod.mk.injEq] at z
          simp only [lcS, List.mem_cons, List.not_mem_nil, or_false, not_or] at h1 h2
          omega)
        have bt1 : BtV g1 v w := ⟨by omega, fun i hi => by rw [f1 _ (by decide) (by decide), b0, tk i (by omega)]; exact (hv i).2.1, fun i => (hv i).1⟩
        have sz1 : hI g1 701 0 0 = nI k := by rw [f1 _ (by decide) (by decide), b0]; exact ek
        obtain ⟨g2, e2, u2, z2, s2, q2⟩ := c_P_read (L := L) (scr := scr) (d := d + 7) (k := k) hw k9 bt1 sz1 lw1
        have w2 : ∀ s, s ∈ [1203, 1204, 1207, 1322100900, 1300, 1303] → hI g2 s 0 = hI h s 0 := fun s hs => by
          rw [u2.2 s 0 (fun z => ?_), f1 s ((by decide : ∀ s, s ∈ [1203, 1204, 1207, 1322100900, 1300, 1303] → s ∉ lcS) s hs) ((by decide : ∀ s, s ∈ [1203, 1204, 1207, 1322100900, 1300, 1303] → s ∉ [704, 705]) s hs), b0]
          simp only [WRz, WRx, WSc, WRu, WOne, WRd, WLw, WAr, List.cons_append, List.nil_append, List.mem_cons, List.mem_append, List.not_mem_nil, or_false, Prod.mk.injEq] at z hs
          omega
        have r1 := run g1 g2 (rfI (pLaw 40 S0 (lex v w 0))) e1 e2 (by rw [w2 _ (by decide)]; exact cL)
        obtain ⟨X, hX⟩ : ∃ X, X = pLaw 40 S0 (lex v w 0) := ⟨_, rfl⟩
        rw [← hX] at r1 s2 q2
        -- the class's last rows
        obtain ⟨g3, hg3, hg3b, u3, l3⟩ : ∃ g3, (if rfI X = -1 then ((some (vI (nI n)), sI (sI g2 1204 0 0 (rfI X)) 1203 0 0 (nI (n + 1))) : RT) else (some (vI (-1)), sI g2 1204 0 0 (rfI X))) = (some (vI (if okS X = true then nI n else -1)), g3) ∧ hI g3 1204 0 0 = rfI X ∧ Upd [(1204, 0), (1203, 0)] g2 g3 ∧ hI g3 1203 0 0 = nI (if okS X = true then n + 1 else n) := by
          cases X with
          | inl S => exact ⟨_, if_pos rfl, by rw [hI_rn (by decide), hI_rs, up_s], ((Upd.rf _ g2).sI (by decide)).sI (by decide), by rw [hI_rs, up_s]; rfl⟩
          | inr g =>
            have := q2 g rfl
            exact ⟨_, if_neg (nI_ne1 (by omega)), by rw [hI_rs, up_s], (Upd.rf _ g2).sI (by decide), by rw [hI_rn (by decide), w2 _ (by decide)]; exact cL⟩
        rw [hg3] at r1
        have t3 : hI g3 1322100900 0 = hI h 1322100900 0 := by rw [u3.2 _ _ (by decide), w2 _ (by decide)]
        obtain ⟨g4, e4, u4, r4, z4, ft4, lm4⟩ := c_M_reads (L := L) (scr := scr) (d := d + 7) (h := g3) (v := v) (n := w) (by omega) (fun i => (hv i).1) (fun i _ => by rw [t3]; exact (hv i).2.2)
        rw [← hX] at e4 ft4 lm4
        have m3 : hI g3 1300 0 0 = nI n := by rw [u3.2 _ _ (by decide), w2 _ (by decide)]; exact mL
        have m3t : hI g3 1303 0 0 = nI k := by rw [u3.2 _ _ (by decide), w2 _ (by decide)]; exact em
        have m4 : hI g4 1300 0 0 = nI n := by rw [u4.2 _ _ (by decide)]; exact m3
        have nn5 : ¬ nI n = 5 := fun z => by have := (nI_eq (b := 5) (by omega) (by decide)).mp z; omega
        -- what stands
        have O2 : OldL n h g2 := o0.tr ((OldL.of u1 (fun q hq => (WLc_site q hq).2.1) (fun q hq => (WLc_site q hq).2.2)).tr (OldL.of u2 (fun q hq => (WRz_site q hq).2.1) (fun q hq => (WRz_site q hq).2.2)))
        have O3 : OldL n g2 g3 := OldL.of u3 (fun q hq z => absurd z ((by decide : ∀ q, q ∈ [(1204, 0), (1203, 0)] → q.1 ∉ lcS) q hq)) (by decide)
        have O4 : OldL n h g4 := O2.tr (O3.tr (OldL.ms n5 u4 r4))
        have F4 : FrL h g4 := (((f0.up u1 (fun q hq => (WLc_site q hq).1)).up u2 (fun q hq => (WRz_site q hq).1)).up u3 (by decide)).up u4 (by decide)
        have W4 : g4.2 = g0.2 := by rw [u4.1, u3.1, u2.1, u1.1]
        have cl4 : ∀ s, s ∈ [1203, 1204, 1207, 701] ++ lcS → ∀ b, hI g4 s b = hI g3 s b := fun s hs b => u4.2 s b (fun z => (by decide : ∀ s, s ∈ [1203, 1204, 1207, 701] ++ lcS → s ∉ WMz.map Prod.fst) s hs (List.mem_map_of_mem (f := Prod.fst) z))
        have sz3 : hI g3 701 0 0 = 0 := by rw [u3.2 _ _ (by decide)]; exact z2
        have im : hI h 1207 0 = hI g4 1207 0 := by rw [cl4 _ (by decide), u3.2 _ _ (by decide), w2 _ (by decide)]
        obtain ⟨nc, mc, c1, c2, c3, c4, c5, c6⟩ := qc
        have imM : ∀ {g : MH}, FrL h g → hI g 1392 0 = hI h 1392 0 := fun f => f.1 _ _ (by decide) (by decide)
        have imP : ∀ {g : MH}, FrL h g → hI g 1207 0 = hI h 1207 0 := fun f => f.1 _ _ (by decide) (by decide)
        have LA : ∀ {g : MH} {m : Nat}, g.2 = g4.2 → hI g 1203 0 0 = nI m → m ≤ 5 → n ≤ m → m ≤ n + 1 → RLal g := fun {g} {m} eg el m5 nm mn => by
          have E0 : g.2 = g0.2 := eg.trans W4
          have eC : hC g = hC g0 := by unfold hC; rw [E0]
          have eD : hD g = hD g0 := by unfold hD; rw [E0]
          have eR : hR g = hR g0 := by unfold hR; rw [E0]
          exact ⟨m, n + 1, el, m5, mn, by omega, by omega, by rw [eC]; exact gC, by rw [eD]; exact gD, fun s hs => by rw [eC]; exact gr s hs, fun k hk => by rw [eR]; exact gR k hk, fun k h1 h2 => by rw [eR]; exact gN k h1 h2⟩
        cases X with
        | inr g =>
          replace e4 : E L scr (d + 39) 229 [vR 900012 0, vI (nI w)] g3 = some (some (vI 0), g4) := e4
          replace l3 : hI g3 1203 0 0 = nI n := l3
          refine ⟨vI (-1), g3, g4, r_P_law (d := d + 39) _ _ _ _ r1, r_M_law (d := d + 39) _ _ _ _ (Sm.ret ?_), ?_, F4⟩
          · rw [t_M_law_0, m3t, c_M_isIn, clI_ok, hx, itT, c_M_isDay, clI_ok, hy, itT, m3, if_neg nn5, e4, clI_ok, if_pos rfl]
          · have p4 : hI g4 1203 0 0 = nI n := by rw [cl4 _ (by decide)]; exact l3
            obtain ⟨a1, a2, a3, a4⟩ := Laws.to hn p4 m4 (qL.old hn O4)
            refine ⟨⟨0, by decide, by rw [cl4 _ (by decide)]; exact sz3, z4, fun i hi => absurd hi (Nat.not_lt_zero i)⟩, ?_, a1, a2, a3, a4, LA rfl p4 hn (Nat.le_refl _) (by omega), ⟨n, mc, hn, c2, p4, m4, ?_, ?_⟩⟩
            · show hI g4 1204 0 0 = hI g4 1307 0 0
              rw [cl4 _ (by decide), hg3b, ft4]
            · rw [← im]; exact c5
            · rw [imM F4]; exact c6
        | inl S =>
          replace e4 : E L scr (d + 39) 229 [vR 900012 0, vI (nI w)] g3 = some (some (vI 1), g4) := e4
          replace l3 : hI g3 1203 0 0 = nI (n + 1) := l3
          obtain ⟨hlb, cc, lc2⟩ := s2 S rfl
          obtain ⟨b, b25, lm⟩ := lm4 S rfl
          obtain ⟨c, hc⟩ : ∃ c, b = 2250 + c := ⟨b - 2250, by have := lm.2.2.2.2.1; omega⟩
          subst hc
          obtain ⟨g5, hg5⟩ : ∃ g5, g5 = sI (sI (opH (clH (lwH g4 n S.2.1) n S.2.1) n c) 1309000006 0 n (nI D)) 1300 0 0 (nI (n + 1)) := ⟨_, rfl⟩
          have m5 := m_law5 (L := L) (scr := scr) (d := d + 39) (h := g4) (l := n) (c := c) (R := S.2.1) (nI w) (nI D) n5 (by omega) lm.2.1 m4 lm.2.2.1 lm.2.2.2.1
          rw [← hg5] at m5
          obtain ⟨u5, O5, v1, v2, v3, v4, v5, v6⟩ := copy_rows (nI D) n5 lm.2.1 (by omega) hg5
          have O : OldL n h g5 := O4.tr O5
          have F5 : FrL h g5 := F4.up u5 (by decide)
          have cl5 : ∀ s, s ∈ [1203, 1204, 1207, 701] ++ lcS → ∀ b, hI g5 s b = hI g3 s b := fun s hs b => by
            rw [u5.2 s b (fun z => (by decide : ∀ s, s ∈ [1203, 1204, 1207, 701] ++ lcS → s ∉ WMl.map Prod.fst) s hs (List.mem_map_of_mem (f := Prod.fst) z)), cl4 s hs b]
          have lc3 : LwC g5 (n + 1) cc S := lc2.same (fun s hs => by
            rw [cl5 s ((by decide : ∀ s, s ∈ lwA → s ∈ [1203, 1204, 1207, 701] ++ lcS) s hs), u3.2 s _ (fun z => (by decide : ∀ s, s ∈ lwA → s ∉ [(1204, 0), (1203, 0)].map Prod.fst) s hs (List.mem_map_of_mem (f := Prod.fst) z))])
          obtain ⟨nr, ns⟩ := new_RsEq (h := g5) (g := g4) n5 lc3 lm b25 v4 v5 (fun j hj => v6 j (by omega))
          have dy5 : hI g5 600 (n + 1) 0 = nI D := by
            rw [cl5 _ (by decide), u3.2 _ _ (fun z => by simp at z), u2.2 _ _ (fun z => by simp [WRz, WRx, WSc, WRu, WOne, WRd, WLw, WAr] at z)]
            exact d1
          have p5 : hI g5 1203 0 0 = nI (n + 1) := by rw [cl5 _ (by decide)]; exact l3
          have W5 : g5.2 = g4.2 := u5.1
          have hR5 : hR g5 = hR g0 := by unfold hR; rw [W5, W4]
          have new : Laws (n + 1) g5 := by
            obtain ⟨⟨dy, q1⟩, q2, q3, q4, q5, q6, q7⟩ := qL.old hn O
            refine ⟨⟨fun k => if k = n then D else dy k, fun k hk => ?_⟩, fun k hk => ?_, q3, fun k hk => ?_, fun k hk => ?_, q6, fun k hk => ?_⟩
            · rcases Nat.lt_succ_iff_lt_or_eq.mp hk with z | z
              · obtain ⟨y1, y2, y3, y4⟩ := q1 k z
                have ne : ¬ k = n := by omega
                simp only [if_neg ne]
                exact ⟨y1, y2, y3, y4⟩
              · subst z
                simp only [if_true]
                exact ⟨hDd, by rw [hR5]; exact gR k (by omega), dy5, v2⟩
            · rcases Nat.lt_succ_iff_lt_or_eq.mp hk with z | z
              · exact q2 k z
              · subst z
                refine lc3.1.cg (fun i hi => ?_)
                rw [v3 i hi]; exact lm.1 i hi
            · rcases Nat.lt_succ_iff_lt_or_eq.mp hk with z | z
              · exact q4 k z
              · subst z
                exact ⟨S.1, hlb, fun j hj => by rw [v3 j hj]; exact lm.1 j hj⟩
            · rcases Nat.lt_succ_iff_lt_or_eq.mp hk with z | z
              · exact q5 k z
              · subst z
                exact ⟨_, _, _, _, nr⟩
            · rcases Nat.lt_succ_iff_lt_or_eq.mp hk with z | z
              · exact q7 k z
              · subst z
                exact ⟨S.2.1, lm.2.1, v4, ns⟩
          obtain ⟨a1, a2, a3, a4⟩ := Laws.to (by omega) p5 v1 new
          refine ⟨vI (nI n), g3, g5, r_P_law (d := d + 39) _ _ _ _ r1, r_M_law (d := d + 39) _ _ _ _ (Sm.step ?_ m5), ⟨⟨0, by decide, by rw [cl5 _ (by decide)]; exact sz3, ?_, fun i hi => absurd hi (Nat.not_lt_zero i)⟩, ?_, a1, a2, a3, a4, LA W5 p5 (by omega) (by omega) (Nat.le_refl _), ⟨n + 1, mc, by omega, c2, p5, v1, ?_, ?_⟩⟩, F5⟩
          · rw [t_M_law_0, m3t, c_M_isIn, clI_ok, hx, itT, c_M_isDay, clI_ok, hy, itT, m3, if_neg nn5, e4, clI_ok, if_neg i0n1, m4]
          · rw [u5.2 _ _ (by decide)]; exact z4
          · show hI g5 1204 0 0 = hI g5 1307 0 0
            rw [cl5 _ (by decide), hg3b, u5.2 _ _ (by decide), ft4]
          · rw [imP F5]; exact c5
          · rw [imM F5]; exact c6
      · have e5 : n = 5 := by omega
        subst e5
        refine same (vI (-3)) (Sm.ret ?_) (Sm.ret ?_)
        · rw [t_P_law_0, if_neg x0, ek, if_neg x1, c_P_isDay, clI_ok, hy, itT, cL, if_neg (by decide)]
        · rw [t_M_law_0, em, c_M_isIn, clI_ok, hx, itT, c_M_isDay, clI_ok, hy, itT, mL, if_pos (show nI 5 = 5 from rfl)]
end CallLaw3

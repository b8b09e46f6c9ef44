/-! CALL: queue -/
/-- what a boat that is away makes wait -/
def wtV (oa bk : Nat → Int32) (a x : Int32) (i : Nat) : Int32 := if 0 < ((oa i + bk i) + a) - x then ((oa i + bk i) + a) - x else 0
def lsF (p : Nat → Bool) (v : Nat → Int32) (k : Nat) (x : Int32) : Int32 := if p k = true then v k else x
theorem lsF_t {p : Nat → Bool} {v : Nat → Int32} {k : Nat} {x : Int32} (h : p k = true) : lsF p v k x = v k := if_pos h
theorem lsF_f {p : Nat → Bool} {v : Nat → Int32} {k : Nat} {x : Int32} (h : p k = false) : lsF p v k x = x := if_neg (by rw [h]; decide)
def fsV (v : Nat → Int32) : Option Nat → Int32
  | some i => v i
  | none => 0
theorem ls_first {p : Nat → Bool} {v : Nat → Int32} : ∀ {n : Nat}, (∀ i j, i < j → j < n → p i = true → p j = true → False) → fold (lsF p v) 0 n = fsV v (ffst p n)
  | 0, _ => rfl
  | n + 1, h => by
    have ih := ls_first (p := p) (v := v) (n := n) (fun i j h1 h2 => h i j h1 (by omega))
    show lsF p v n (fold (lsF p v) 0 n) = fsV v (match ffst p n with
      | some k => some k
      | none => cond (p n) (some n) none)
    cases e : ffst p n with
    | some k =>
      obtain ⟨k1, k2, -⟩ := ffst_some e
      have : p n = false := by
        cases q : p n with
        | false => rfl
        | true => exact absurd (h k n k1 (by omega) k2 q) (fun z => z)
      rw [lsF_f this, ih, e]
    | none =>
      cases q : p n with
      | true => rw [lsF_t q]; rfl
      | false => rw [lsF_f q, ih, e]; rfl
def ztF (kd : Nat → Bool) (w : Nat → Int32) (z : Option MV) : Nat → Option MV
  | 0 => z
  | j + 1 => if kd j = true then some (vI (w j)) else ztF kd w z j
section Queue2
variable {L : Nat} {scr : Nat → Int32} {d : Nat}
def aoB (bo oa B : Nat → Int32) (b x : Int32) (i : Nat) : Bool := decide (bo i = b) && awayB oa B x i
theorem c_waitFor {g : MH} {m : Nat} (hm : m ≤ 120) (b x a : Int32) (em : hI g 1101 0 0 = nI m) : E L scr (d + 2) 122 [vR 900010 0, vI b, vI x, vI a] g = some (some (vI (fsV (wtV (hI g 205000120 0) (hI g 206000120 0) a x) (ffst (aoB (hI g 203000120 0) (hI g 205000120 0) (hI g 1102000120 0) b x) m))), g) := by
  obtain ⟨p, hp⟩ : ∃ p, p = aoB (hI g 203000120 0) (hI g 205000120 0) (hI g 1102000120 0) b x := ⟨_, rfl⟩
  have hp0 : ∀ k, p k = (decide (hI g 203000120 0 k = b) && awayB (hI g 205000120 0) (hI g 1102000120 0) x k) := fun k => by rw [hp]; rfl
  rw [← hp]
  refine r_View_waitFor _ _ _ _ _ (Sm.step (t' := 1) (lo' := [some (vR 900010 0), some (vI b), some (vI x), some (vI a), some (vI 0)]) (st' := []) (h' := g) (t_View_waitFor_0 ..) ?_)
  refine Sm.find (lo := fun k => [some (vR 900010 0), some (vI b), some (vI x), some (vI a), some (vI (nI k))]) (hh := fun _ => g) (r := fun o => (some (vI (fsV (wtV (hI g 205000120 0) (hI g 206000120 0) a x) o)), g)) p m (fun k hk pk => ?_) (fun k hk pk _ => Sm.ret ?_) (fun _ => Sm.ret ?_)
  · have ob : ¬ oob (nI k) 120 := oob_nI (by omega) (by decide)
    rw [hp0] at pk
    rw [t_View_waitFor_1, em, if_neg (nI_ge hk (by omega)), rd_Book_boatOf ob, ix_nI (by omega), nI_1]
    by_cases c : hI g 203000120 0 k = b
    · rw [decide_eq_true c, Bool.true_and] at pk
      rw [if_pos c, c_isAway (by omega), clI_ok, pk, itF]
    · rw [if_neg c]
  · have ob : ¬ oob (nI k) 120 := oob_nI (by omega) (by decide)
    rw [hp0, Bool.and_eq_true] at pk
    rw [t_View_waitFor_1, em, if_neg (nI_ge hk (by omega)), rd_Book_boatOf ob, ix_nI (by omega), if_pos (of_decide_eq_true pk.1), c_isAway (by omega), clI_ok, pk.2, itT, rd_Book_outAt ob, rd_Book_bookedFor ob, ix_nI (by omega), c_max, clI_ok]
    rfl
  · rw [t_View_waitFor_1, em, if_pos (nI_le (Nat.le_refl _) (by omega))]; rfl
theorem c_M_comes {f : MH} {n : Nat} (hn : n ≤ 120) (b x a : Int32) (en : hI f 1336 0 0 = nI n) : E L scr (d + 3) 288 [vR 900012 0, vI b, vI x, vI a] f = some (some (vI (fold (lsF (fun i => decide (hI f 1339000120 0 i = b) && (decide (hI f 1343000120 0 i ≤ hI f 1354 0 0) && awayB (hI f 1341000120 0) (hI f 1350000120 0) x i)) (wtV (hI f 1341000120 0) (hI f 1342000120 0) a x)) 0 n)), f) := by
  obtain ⟨p, hp⟩ : ∃ p : Nat → Bool, p = fun i => decide (hI f 1339000120 0 i = b) && (decide (hI f 1343000120 0 i ≤ hI f 1354 0 0) && awayB (hI f 1341000120 0) (hI f 1350000120 0) x i) := ⟨_, rfl⟩
  have hp0 : ∀ k, p k = (decide (hI f 1339000120 0 k = b) && (decide (hI f 1343000120 0 k ≤ hI f 1354 0 0) && awayB (hI f 1341000120 0) (hI f 1350000120 0) x k)) := fun k => by rw [hp]
  rw [← hp]
  obtain ⟨W, hW⟩ : ∃ W, W = wtV (hI f 1341000120 0) (hI f 1342000120 0) a x := ⟨_, rfl⟩
  rw [← hW]
  refine r_M_comes _ _ _ _ _ (Sm.step (t' := 1) (lo' := [some (vR 900012 0), some (vI b), some (vI x), some (vI a), some (vI 0), some (vI 0)]) (st' := []) (h' := f) (t_M_comes_0 ..) ?_)
  refine Sm.for (lo := fun k => [some (vR 900012 0), some (vI b), some (vI x), some (vI a), some (vI (fold (lsF p W) 0 k)), some (vI (nI k))]) (hh := fun _ => f) n (fun k hk => ?_) (Sm.ret ?_)
  · show _ = some (Sum.inl (1, [some (vR 900012 0), some (vI b), some (vI x), some (vI a), some (vI (lsF p W k (fold (lsF p W) 0 k))), some (vI (nI (k + 1)))], [], f))
    generalize fold (lsF p W) 0 k = acc
    have ob : ¬ oob (nI k) 120 := oob_nI (by omega) (by decide)
    rw [t_M_comes_1, en, if_neg (nI_ge hk (by omega)), rd_M_boatOf ob, ix_nI (by omega), nI_1]
    by_cases c : hI f 1339000120 0 k = b
    · rw [if_pos c, c_M_isOut (by omega), clI_ok]
      cases e : (decide (hI f 1343000120 0 k ≤ hI f 1354 0 0) && awayB (hI f 1341000120 0) (hI f 1350000120 0) x k) with
      | false => rw [itF, lsF_f (by rw [hp0, e, Bool.and_false])]
      | true =>
        rw [itT, rd_M_outAt ob, rd_M_booked ob, ix_nI (by omega), c_max, clI_ok, lsF_t (by rw [hp0, e, decide_eq_true c]; rfl), hW]
        rfl
    · rw [if_neg c, lsF_f (by rw [hp0, decide_eq_false c, Bool.false_and])]
  · rw [t_M_comes_1, en, if_pos (nI_le (Nat.le_refl _) (by omega))]
theorem c_insertWait {g : MH} {c : Nat} {S : Nat → Int32} (v : Int32) (hc : c < 2304) : E L scr (d + 1) 196 [vR 900011 0, vI v, vI (nI c)] (withR g [(1213002304, 0, S)]) = some (none, withR g [(1213002304, 0, insV v c S)]) := by
  have key : ∀ (j : Nat) (S : Nat → Int32), j ≤ c → Sm L scr d B_P_insertWait C_P_insertWait 1 [some (vR 900011 0), some (vI v), some (vI (nI c)), some (vI (nI j))] [] (withR g [(1213002304, 0, S)]) (none, withR g [(1213002304, 0, insV v j S)]) := by
    intro j
    induction j with
    | zero =>
      intro S _
      refine Sm.ret ?_
      rw [t_P_insertWait_1, if_pos (show nI 0 ≤ 0 by decide), wr_P_work (show ¬ oob (nI 0) 2304 by decide), ix_nI (by decide), withR_set]; rfl
    | succ j ih =>
      intro S hj
      have o1 : ¬ oob (nI j) 2304 := oob_nI (by omega) (by decide)
      have o2 : ¬ oob (nI (j + 1)) 2304 := oob_nI (by omega) (by decide)
      by_cases q : S j ≤ v
      · refine Sm.ret ?_
        have e : insV v (j + 1) S = up S (j + 1) v := if_pos q
        rw [t_P_insertWait_1, if_neg (show ¬ nI (j + 1) ≤ 0 from nI_ge (a := 0) (by omega) (by omega)), nI_sub1, rd_P_work o1, ix_nI (by omega), withR_hit, if_pos q, wr_P_work o2, ix_nI (by omega), withR_set, e]
      · have e : insV v (j + 1) S = insV v j (up S (j + 1) (S j)) := if_neg q
        rw [e]
        refine Sm.step ?_ (ih (up S (j + 1) (S j)) (by omega))
        rw [t_P_insertWait_1, if_neg (show ¬ nI (j + 1) ≤ 0 from nI_ge (a := 0) (by omega) (by omega)), nI_sub1, rd_P_work o1, ix_nI (by omega), withR_hit, if_neg q, rd_P_work o1, ix_nI (by omega), withR_hit, wr_P_work o2, ix_nI (by omega), withR_set, nI_m1]
  exact r_P_insertWait _ _ _ _ (Sm.step (t_P_insertWait_0 ..) (key c S (Nat.le_refl _)))
theorem call_queue (x y z u : Int32) (h : MH) (q : RHire h) (qb : RBoat h) (qd : RDoubt h) : Both L scr (d + 40) Scr (fun _ => True) 151 289 [vR 900011 0, vI x, vI y, vI z, vI u] [vR 900012 0, vI x, vI y, vI z, vI u] h := by
  obtain ⟨q1, q2, q3, q4, q5, n, T, nb, hn, hT, hnb, ch, mh, cl, ml, bn, tk, hk, hsep⟩ := id q
  obtain ⟨b1, nB, hnB, eb, mb, b2⟩ := qb
  obtain ⟨ea, la, hea, hla, d1, d2, d3, d4⟩ := qd
  cases hx : ixB x 4 with
  | false =>
    refine both0 (vI (-1)) (r_P_queue _ _ _ _ _ _ (Sm.ret ?_)) (r_M_queue _ _ _ _ _ _ (Sm.ret ?_)) trivial
    · rw [t_P_queue_0, c_P_isKind, clI_ok, hx, itF]
    · rw [t_M_queue_0, c_M_isKind, clI_ok, hx, itF]
  | true =>
    cases hz : ixB z 72000 with
    | false =>
      refine both0 (vI (-1)) (r_P_queue _ _ _ _ _ _ (Sm.ret ?_)) (r_M_queue _ _ _ _ _ _ (Sm.ret ?_)) trivial
      · rw [t_P_queue_0, c_P_isKind, clI_ok, hx, itT]
        by_cases c : y < 1
        · rw [if_pos c]
        · rw [if_neg c, c_P_isMoment, clI_ok, hz, itF]
      · rw [t_M_queue_0, c_M_isKind, clI_ok, hx, itT, c_M_isMoment, clI_ok, hz, itF]
    | true =>
      cases hu : inB u 0 1 with
      | false =>
        refine both0 (vI (-1)) (r_P_queue _ _ _ _ _ _ (Sm.ret ?_)) (r_M_queue _ _ _ _ _ _ (Sm.ret ?_)) trivial
        · rw [t_P_queue_0, c_P_isKind, clI_ok, hx, itT]
          by_cases c : y < 1
          · rw [if_pos c]
          · rw [if_neg c, c_P_isMoment, clI_ok, hz, itT, c_P_within, clI_ok, hu, itF]
        · rw [t_M_queue_0, c_M_isKind, clI_ok, hx, itT, c_M_isMoment, clI_ok, hz, itT, c_M_isIn, clI_ok, hu, itF]
      | true =>
        by_cases y1 : y < 1
        · refine both0 (vI (-1)) (r_P_queue _ _ _ _ _ _ (Sm.ret ?_)) (r_M_queue _ _ _ _ _ _ (Sm.ret ?_)) trivial
          · rw [t_P_queue_0, c_P_isKind, clI_ok, hx, itT, if_pos y1]
          · rw [t_M_queue_0, c_M_isKind, clI_ok, hx, itT, c_M_isMoment, clI_ok, hz, itT, c_M_isIn, clI_ok, hu, itT, if_neg (fun z => nlt_i.mpr z y1)]
        · obtain ⟨yy, hyy, rfl⟩ : ∃ yy, yy + 1 < 2 ^ 31 ∧ y = nI (yy + 1) := by
            have hy1 := nlt_i.mp y1
            rw [Int32.le_iff_toInt_le] at hy1
            have t1 : (1 : Int32).toInt = 1 := rfl
            obtain ⟨v, hv, rfl⟩ := nI_of (x := y) (by rw [Int32.lt_iff_toInt_lt]; have : (0 : Int32).toInt = 0 := rfl; omega)
            rw [nI_toInt hv] at hy1
            exact ⟨v - 1, by omega, congrArg nI (by omega)⟩
          -- the class's view
          have hc := cn_all q hT cl hn ch
          obtain ⟨hm, B, S, C, eS, fS⟩ := see_g (L := L) (scr := scr) (d := d + 37) q 0 hT cl (Nat.le_refl T) hn ch
          rw [hc] at eS fS
          obtain ⟨g, hg⟩ : ∃ g, g = withR h (vwL h 0 B S C n) := ⟨_, rfl⟩
          have ug : Upd Scr h g := by rw [hg]; exact vwx_Scr
          rw [← hg] at eS
          have gB : hI g 1102000120 0 = B := by rw [hg]; exact vwx_B
          have gn : hI g 1101 0 0 = nI n := by rw [hg]; exact vwx_n
          obtain ⟨oa, hoa⟩ : ∃ oa, oa = hI h 205000120 0 := ⟨_, rfl⟩
          obtain ⟨bo, hbo⟩ : ∃ bo, bo = hI h 203000120 0 := ⟨_, rfl⟩
          obtain ⟨bk, hbk⟩ : ∃ bk, bk = hI h 206000120 0 := ⟨_, rfl⟩
          obtain ⟨a, ha⟩ : ∃ a : Int32, a = if u = 0 then -(nI ea) else nI la := ⟨_, rfl⟩
          obtain ⟨kd, hkd⟩ : ∃ kd : Nat → Bool, kd = fun k => decide (hI h 201000020 0 k = x) := ⟨_, rfl⟩
          obtain ⟨w, hw⟩ : ∃ w : Nat → Int32, w = fun k => fsV (wtV oa bk a z) (ffst (aoB bo oa B (nI k) z) n) := ⟨_, rfl⟩
          obtain ⟨S0, hS0⟩ : ∃ S0, S0 = hI g 1213002304 0 := ⟨_, rfl⟩
          obtain ⟨gk, hgk⟩ : ∃ gk : Nat → MH, gk = fun k => withR g [(1213002304, 0, srtS kd w S0 k)] := ⟨_, rfl⟩
          have g0 : gk 0 = g := by
            rw [hgk]
            show withR g [(1213002304, 0, S0)] = g
            rw [hS0]; exact withR_id1 (r := []) rfl
          have gm : ∀ k s, s ≠ 1213002304 → hI (gk k) s 0 = hI g s 0 := fun k s hs => by
            rw [hgk]; show hI (withR g [(_, 0, _)]) s 0 = _
            rw [withR_miss (fun z => hs z.1)]; rfl
          have ugk : ∀ k, Upd Scr h (gk k) := fun k => ug.tr (by
            rw [hgk]
            exact withR_Upd (fun q hq => by
              rw [List.mem_singleton] at hq
              subst hq
              dsimp only
              decide))
          have gw : ∀ k, hI (gk k) 1213002304 0 = srtS kd w S0 k := fun k => by rw [hgk]; exact withR_hit
          obtain ⟨ans, hans⟩ : ∃ ans : Int32, ans = if yy < cnt kd nB then srtS kd w S0 nB yy else -1 := ⟨_, rfl⟩
          have cl20 := cnt_le kd nB
          have eC : E L scr (d + 40) 151 [vR 900011 0, vI x, vI (nI (yy + 1)), vI z, vI u] h = some (some (vI ans), gk nB) := by
            refine r_P_queue _ _ _ _ _ _ (Sm.step (t' := 5) (lo' := [some (vR 900011 0), some (vI x), some (vI (nI (yy + 1))), some (vI z), some (vI u), some (vI a), some (vI (nI (cnt kd 0))), some (vI 0)]) (st' := []) (h' := gk 0) ?_ ?_)
            · rw [t_P_queue_0, c_P_isKind, clI_ok, hx, itT, if_neg y1, c_P_isMoment, clI_ok, hz, itT, c_P_within, clI_ok, hu, itT, cl, eS, clV_ok, ug.2 214 0 (by decide), ug.2 215 0 (by decide), d1, d3, g0, ha]
              by_cases c : u = 0
              · rw [if_pos c, if_pos c]; rfl
              · rw [if_neg c, if_neg c]; rfl
            refine Sm.for (lo := fun k => [some (vR 900011 0), some (vI x), some (vI (nI (yy + 1))), some (vI z), some (vI u), some (vI a), some (vI (nI (cnt kd k))), some (vI (nI k))]) (hh := gk) nB (fun k hk1 => ?_) (Sm.ret ?_)
            · have kk := cnt_le kd k
              rw [t_P_queue_5, (ugk k).2 200 0 (by decide), eb, if_neg (nI_ge hk1 (by omega)), rd_Book_kindOf (oob_nI (by omega) (by decide)), ix_nI (by omega), (ugk k).2 201000020 0 (by decide), nI_1]
              by_cases c : hI h 201000020 0 k = x
              · have e : kd k = true := by rw [hkd]; exact decide_eq_true c
                have es : srtS kd w S0 (k + 1) = insV (w k) (cnt kd k) (srtS kd w S0 k) := if_pos e
                have ew := c_waitFor (L := L) (scr := scr) (d := d + 37) (g := gk k) (m := n) hn (nI k) z a (by rw [gm k _ (by decide)]; exact gn)
                rw [(ugk k).2 205000120 0 (by decide), (ugk k).2 203000120 0 (by decide), (ugk k).2 206000120 0 (by decide), gm k _ (by decide), gB, ← hoa, ← hbo, ← hbk] at ew
                have ewk : fsV (wtV oa bk a z) (ffst (aoB bo oa B (nI k) z) n) = w k := by rw [hw]
                rw [ewk] at ew
                have ei : E L scr (d + 39) 196 [vR 900011 0, vI (w k), vI (nI (cnt kd k))] (gk k) = some (none, gk (k + 1)) := by
                  rw [hgk]
                  show E L scr (d + 39) _ _ (withR g [(1213002304, 0, srtS kd w S0 k)]) = some (none, withR g [(1213002304, 0, srtS kd w S0 (k + 1))])
                  rw [es]
                  exact c_insertWait (w k) (by omega)
                rw [if_pos c, ew, clI_ok, ei, clV_ok, cnt_t e, nI_1]
              · have e : kd k = false := by rw [hkd]; exact decide_eq_false c
                have es : srtS kd w S0 (k + 1) = srtS kd w S0 k := if_neg (by rw [e]; decide)
                have e2 : gk (k + 1) = gk k := by
                  rw [hgk]
                  show withR g [(1213002304, 0, srtS kd w S0 (k + 1))] = withR g [(1213002304, 0, srtS kd w S0 k)]
                  rw [es]
                rw [if_neg c, cnt_f e, e2, nI_1]
            · rw [t_P_queue_5, (ugk nB).2 200 0 (by decide), eb, if_pos (nI_le (Nat.le_refl _) (by omega)), nI_sub1, hans]
              by_cases c : yy < cnt kd nB
              · rw [if_neg (nI_nlt (by omega) (by omega)), rd_P_work (oob_nI (by omega) (by decide)), ix_nI (by omega), gw, if_pos c]
              · rw [if_pos (nI_lt (by omega) (by omega)), if_neg c]
          -- the reference
          obtain ⟨B2, S2, C2, D2, eK, fK⟩ := kn_g (L := L) (scr := scr) (d := d + 38) q hT cl (Nat.le_refl T) hn ch (g := gk nB) (fun r hr => (ugk nB).2 _ _ (ScrH r hr))
          obtain ⟨f, hf⟩ : ∃ f, f = withR (gk nB) (knL (gk nB) B2 S2 C2 D2 (nI T)) := ⟨_, rfl⟩
          rw [← hf] at eK
          have uf : Upd Scr h f := (ugk nB).tr (by rw [hf]; exact kn_Scr)
          have fB : hI f 1350000120 0 = B2 := by rw [hf]; exact kn_B
          have ft : hI f 1354 0 0 = nI T := by rw [hf]; exact kn_t
          have fh : hI f 1336 0 0 = nI n := by rw [uf.2 _ _ (by decide)]; exact mh
          have fb : hI f 1335 0 0 = nI nB := by rw [uf.2 _ _ (by decide)]; exact mb
          have fk : hI f 1338000020 0 = hI h 201000020 0 := by rw [uf.2 _ _ (by decide)]; exact Eq.symm b1
          have td : ∀ i, i < n → decide (hI h 207000120 0 i ≤ nI T) = decide (i < cnS h T) := fun i hi => told_dec hT (Nat.le_refl T) hk hi
          have uniq : ∀ k i j, i < j → j < n → aoB bo oa B (nI k) z i = true → aoB bo oa B (nI k) z j = true → False := fun k i j hij hj p1 p2 => by
            have p1' := (Bool.and_eq_true _ _ ▸ p1 : decide (bo i = nI k) = true ∧ awayB oa B z i = true)
            have p2' := (Bool.and_eq_true _ _ ▸ p2 : decide (bo j = nI k) = true ∧ awayB oa B z j = true)
            have s1 := of_decide_eq_true p1'.1
            have s2 := of_decide_eq_true p2'.1
            have a1 := of_decide_eq_true (show decide (oa i ≤ z ∧ (B i = -1 ∨ z < B i)) = true from p1'.2)
            have a2 := of_decide_eq_true (show decide (oa j ≤ z ∧ (B j = -1 ∨ z < B j)) = true from p2'.2)
            obtain ⟨av, bv, e1, e2, e3, e4⟩ := hsep i j hij hj (by rw [hbo] at s1 s2; rw [s1, s2])
            have eBi : B i = nI bv := by rw [(fS i (by omega)).1]; exact e1
            rw [hoa, e2] at a2
            rw [eBi] at a1
            have o1 := a2.1
            rcases a1.2 with k1 | k1
            · exact nI_ne1 (by omega) k1
            · rw [Int32.lt_iff_toInt_lt, nI_toInt (by omega)] at k1
              rw [Int32.le_iff_toInt_le, nI_toInt (by omega)] at o1
              omega
          have eW : ∀ (d k : Nat), E L scr (d + 3) 288 [vR 900012 0, vI (nI k), vI z, vI a] f = some (some (vI (w k)), f) := fun d k => by
            rw [c_M_comes hn (nI k) z a fh, fB, ft, uf.2 1341000120 0 (by decide), uf.2 1339000120 0 (by decide), uf.2 1343000120 0 (by decide), uf.2 1342000120 0 (by decide), ← q1, ← q3, ← q4, ← q5, ← hoa, ← hbo, ← hbk]
            have e1 : fold (lsF (fun i => decide (bo i = nI k) && (decide (hI h 207000120 0 i ≤ nI T) && awayB oa B2 z i)) (wtV oa bk a z)) 0 n = fold (lsF (aoB bo oa B (nI k) z) (wtV oa bk a z)) 0 n := fold_congr (fun i hi acc => by
              have e2 : (decide (bo i = nI k) && (decide (hI h 207000120 0 i ≤ nI T) && awayB oa B2 z i)) = aoB bo oa B (nI k) z i := by
                unfold aoB awayB
                rw [td i hi, hc, decide_eq_true hi, Bool.true_and, (fS i hi).1, (fK i hi).1]
              unfold lsF
              show (if (decide (bo i = nI k) && (decide (hI h 207000120 0 i ≤ nI T) && awayB oa B2 z i)) = true then _ else _) = _
              rw [e2])
            rw [e1, ls_first (fun i j h1 h2 h3 h4 => uniq k i j h1 h2 h3 h4), hw]
          obtain ⟨hit, hhit⟩ : ∃ hit : Nat → Bool, hit = fun k => kd k && decide (cnt (rkB kd w k) nB = yy) := ⟨_, rfl⟩
          have hit0 : ∀ k, hit k = (kd k && decide (cnt (rkB kd w k) nB = yy)) := fun k => by rw [hhit]
          -- one boat on the reference's side
          have inner : ∀ (k : Nat) (z7 z8 z9 z10 : Option MV) (r : RT), k < nB → kd k = true → Sm L scr (d + 39) B_M_queue C_M_queue 7 [some (vR 900012 0), some (vI x), some (vI (nI (yy + 1))), some (vI z), some (vI u), some (vI a), some (vI (nI k)), some (vI (w k)), some (vI (nI (cnt (rkB kd w k) nB))), some (vI (nI nB)), ztF kd w z10 nB] [] f r → Sm L scr (d + 39) B_M_queue C_M_queue 5 [some (vR 900012 0), some (vI x), some (vI (nI (yy + 1))), some (vI z), some (vI u), some (vI a), some (vI (nI k)), z7, z8, z9, z10] [] f r := by
            intro k z7 z8 z9 z10 r hk1 ek kk
            have ck : hI h 201000020 0 k = x := by rw [hkd] at ek; exact of_decide_eq_true ek
            refine Sm.step (t' := 7) (lo' := [some (vR 900012 0), some (vI x), some (vI (nI (yy + 1))), some (vI z), some (vI u), some (vI a), some (vI (nI k)), some (vI (w k)), some (vI (nI (cnt (rkB kd w k) 0))), some (vI 0), ztF kd w z10 0]) (st' := []) (h' := f) ?_ ?_
            · rw [t_M_queue_5, fb, if_neg (nI_ge hk1 (by omega)), rd_M_kindOf (oob_nI (by omega) (by decide)), ix_nI (by omega), fk, if_pos ck, eW, clI_ok]; rfl
            refine Sm.for (lo := fun j => [some (vR 900012 0), some (vI x), some (vI (nI (yy + 1))), some (vI z), some (vI u), some (vI a), some (vI (nI k)), some (vI (w k)), some (vI (nI (cnt (rkB kd w k) j))), some (vI (nI j)), ztF kd w z10 j]) (hh := fun _ => f) nB (fun j hj => ?_) kk
            rw [t_M_queue_7, fb, if_neg (nI_ge hj (by omega)), rd_M_kindOf (oob_nI (by omega) (by decide)), ix_nI (by omega), fk, nI_1]
            by_cases cj : hI h 201000020 0 j = x
            · have ej : kd j = true := by rw [hkd]; exact decide_eq_true cj
              have ez : ztF kd w z10 (j + 1) = some (vI (w j)) := if_pos ej
              rw [if_pos cj, eW, clI_ok, ez]
              by_cases c1 : w j < w k
              · have er : rkB kd w k j = true := by unfold rkB; rw [ej, decide_eq_true c1]; rfl
                rw [if_pos c1, c_M_one, clI_ok, if_neg i0n1, cnt_t er, nI_1]
              · rw [if_neg c1]
                by_cases c2 : w j = w k
                · rw [if_pos c2]
                  by_cases c3 : j < k
                  · have er : rkB kd w k j = true := by unfold rkB; rw [ej, decide_eq_true c2, decide_eq_true c3, Bool.and_self, Bool.or_true]; rfl
                    rw [if_neg (nI_ge c3 (by omega)), c_M_one, clI_ok, if_neg i0n1, cnt_t er, nI_1]
                  · have er : rkB kd w k j = false := by unfold rkB; rw [decide_eq_false c1, decide_eq_false c3, Bool.and_false, Bool.or_false, Bool.and_false]
                    rw [if_pos (nI_le (by omega) (by omega)), c_M_one, clI_ok, if_pos rfl, cnt_f er, Int32.add_zero]
                · have er : rkB kd w k j = false := by unfold rkB; rw [decide_eq_false c1, decide_eq_false c2, Bool.false_and, Bool.or_false, Bool.and_false]
                  rw [if_neg c2, c_M_one, clI_ok, if_pos rfl, cnt_f er, Int32.add_zero]
            · have ej : kd j = false := by rw [hkd]; exact decide_eq_false cj
              have ez : ztF kd w z10 (j + 1) = ztF kd w z10 j := if_neg (by rw [ej]; decide)
              have er : rkB kd w k j = false := by unfold rkB; rw [ej]; exact Bool.false_and _
              rw [if_neg cj, cnt_f er, ez]
          have Q : ∀ k, k ≤ nB → (∀ j, j < k → hit j = false) → ∃ z7 z8 z9 z10 : Option MV, ∀ r, Sm L scr (d + 39) B_M_queue C_M_queue 5 [some (vR 900012 0), some (vI x), some (vI (nI (yy + 1))), some (vI z), some (vI u), some (vI a), some (vI (nI k)), z7, z8, z9, z10] [] f r → Sm L scr (d + 39) B_M_queue C_M_queue 5 [some (vR 900012 0), some (vI x), some (vI (nI (yy + 1))), some (vI z), some (vI u), some (vI a), some (vI 0), none, none, none, none] [] f r := by
            intro k
            induction k with
            | zero => exact fun _ _ => ⟨none, none, none, none, fun r kk => kk⟩
            | succ k ih =>
              intro hk1 hno
              obtain ⟨z7, z8, z9, z10, k1⟩ := ih (by omega) (fun j hj => hno j (by omega))
              cases ek : kd k with
              | false =>
                have ck : ¬ hI h 201000020 0 k = x := by rw [hkd] at ek; exact of_decide_eq_false ek
                refine ⟨z7, z8, z9, z10, fun r kk => k1 r (Sm.step ?_ kk)⟩
                rw [t_M_queue_5, fb, if_neg (nI_ge (by omega) (by omega)), rd_M_kindOf (oob_nI (by omega) (by decide)), ix_nI (by omega), fk, if_neg ck, nI_1]
              | true =>
                have hn1 := hno k (by omega)
                rw [hit0, ek, Bool.true_and] at hn1
                have cr := cnt_le (rkB kd w k) nB
                refine ⟨some (vI (w k)), some (vI (nI (cnt (rkB kd w k) nB))), some (vI (nI nB)), ztF kd w z10 nB, fun r kk => k1 r (inner k z7 z8 z9 z10 r (by omega) ek (Sm.step ?_ kk))⟩
                rw [t_M_queue_7, fb, if_pos (nI_le (Nat.le_refl _) (by omega)), nI_sub1, if_neg (show ¬ nI (cnt (rkB kd w k) nB) = nI yy from fun z => of_decide_eq_false hn1 ((nI_eq (by omega) (by omega)).mp z)), nI_1]
          have eM : E L scr (d + 40) 289 [vR 900012 0, vI x, vI (nI (yy + 1)), vI z, vI u] (gk nB) = some (some (vI ans), f) := by
            have ml2 : hI (gk nB) 1337 0 0 = nI T := by rw [(ugk nB).2 _ _ (by decide)]; exact ml
            refine r_M_queue _ _ _ _ _ _ (Sm.step (t' := 5) (lo' := [some (vR 900012 0), some (vI x), some (vI (nI (yy + 1))), some (vI z), some (vI u), some (vI a), some (vI 0), none, none, none, none]) (st' := []) (h' := f) ?_ ?_)
            · rw [t_M_queue_0, c_M_isKind, clI_ok, hx, itT, c_M_isMoment, clI_ok, hz, itT, c_M_isIn, clI_ok, hu, itT, if_pos (nlt_i.mp y1), ml2, eK, clV_ok, uf.2 1328 0 (by decide), uf.2 1329 0 (by decide), d2, d4, ha]
              by_cases c : u = 0
              · rw [if_pos c, if_pos c]
              · rw [if_neg c, if_neg c]
            cases hfi : ffst hit nB with
            | none =>
              obtain ⟨z7, z8, z9, z10, k1⟩ := Q nB (Nat.le_refl _) (ffst_none hfi)
              refine k1 _ (Sm.ret ?_)
              have no : ¬ yy < cnt kd nB := fun c => by
                obtain ⟨j, j1, j2, j3⟩ := rk_ex (S0 := S0) (w := w) c
                have := ffst_none hfi j j1
                rw [hit0, j2, decide_eq_true j3] at this
                cases this
              rw [t_M_queue_5, fb, if_pos (nI_le (Nat.le_refl _) (by omega)), hans, if_neg no]
            | some j =>
              obtain ⟨j1, j2, j3⟩ := ffst_some hfi
              rw [hit0] at j2
              have j2' := (Bool.and_eq_true _ _ ▸ j2 : kd j = true ∧ decide (cnt (rkB kd w j) nB = yy) = true)
              have ey := of_decide_eq_true j2'.2
              have rh := rk_hit (S0 := S0) (w := w) j1 j2'.1
              rw [ey] at rh
              obtain ⟨z7, z8, z9, z10, k1⟩ := Q j (by omega) j3
              refine k1 _ (inner j z7 z8 z9 z10 _ j1 j2'.1 (Sm.ret ?_))
              rw [t_M_queue_7, fb, if_pos (nI_le (Nat.le_refl _) (by omega)), nI_sub1, ey, if_pos rfl, hans, if_pos rh.1, rh.2]
          exact ⟨_, gk nB, f, eC, eM, uf, trivial⟩
end Queue2

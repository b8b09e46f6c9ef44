/-! CALLS: free, out -/
/-- rows that a hire more changes -/
abbrev WOut : List (Nat × Nat) := [(202, 0), (203000120, 0), (204000120, 0), (205000120, 0), (206000120, 0), (207000120, 0), (208000120, 0), (209000120, 0), (210, 0), (211000400, 0), (212000400, 0), (213000400, 0), (1336, 0), (1337, 0), (1339000120, 0), (1340000120, 0), (1341000120, 0), (1342000120, 0), (1343000120, 0), (1344000120, 0), (1345000120, 0), (1346000401, 0), (1347000401, 0), (1348000401, 0), (1349000401, 0)]
section Out
variable {L : Nat} {scr : Nat → Int32} {d : Nat}
theorem call_free (x y : Int32) (h : MH) (q : RHire h) (qb : RBoat h) (qw : RWater h) (qs : RSpell h) (qd : RWeed h) (qr : RRule h) (ql : RLaw h) : Both L scr (d + 40) Scr (fun _ => True) 131 254 [vR 900011 0, vI x, vI y] [vR 900012 0, vI x, vI y] h := by
  obtain ⟨q1, q2, q3, q4, q5, n, T, nb, hn, hT, hnb, ch, mh, cl, ml, bn, tk, hk, hsep⟩ := id q
  obtain ⟨b1, nb', hnb', cb, mb, -⟩ := id qb
  cases hx : ixB x nb' with
  | false =>
    refine both0 (vI (-1)) (r_P_free _ _ _ _ (Sm.ret ?_)) (r_M_free _ _ _ _ (Sm.ret ?_)) trivial
    · rw [t_P_free_0, c_P_isBoat cb, clI_ok, hx, itF]
    · rw [t_M_free_0, c_M_isBoat (by omega) mb, clI_ok, hx, itF]
  | true =>
    cases hy : ixB y 72000 with
    | false =>
      refine both0 (vI (-1)) (r_P_free _ _ _ _ (Sm.ret ?_)) (r_M_free _ _ _ _ (Sm.ret ?_)) trivial
      · rw [t_P_free_0, c_P_isBoat cb, clI_ok, hx, itT, c_P_isMoment, clI_ok, hy, itF]
      · rw [t_M_free_0, c_M_isBoat (by omega) mb, clI_ok, hx, itT, c_M_isMoment, clI_ok, hy, itF]
    | true =>
      obtain ⟨b, hb, -, rfl⟩ := ixB_t hx
      obtain ⟨m, hm, -, rfl⟩ := ixB_t hy
      obtain ⟨r, h1, e1, u1, -, k⟩ := go_both (L := L) (scr := scr) (d := d + 32) q qb qw qs qd qr ql hT cl hn ch (show b < 20 by omega) hm
      obtain ⟨h2, e2, u2⟩ := k h1 (u1.sites (by decide))
      refine ⟨vI (zb r), h1, h2, r_P_free _ _ _ _ (Sm.ret ?_), r_M_free _ _ _ _ (Sm.ret ?_), u1.tr u2, trivial⟩
      · rw [t_P_free_0, c_P_isBoat cb, clI_ok, hx, itT, c_P_isMoment, clI_ok, hy, itT, e1, clI_ok]
        cases r with
        | false => rw [if_pos (show zb false = 0 from rfl)]; rfl
        | true => rw [if_neg (show ¬ zb true = 0 by decide)]; rfl
      · rw [t_M_free_0, c_M_isBoat (n := nb') (by omega) (by rw [u1.2 _ _ (by decide)]; exact mb), clI_ok, hx, itT, c_M_isMoment, clI_ok, hy, itT, e2, clI_ok, c_M_one, clI_ok]
        cases r <;> rfl
theorem adL_Upd {h g : MH} {n t : Nat} {b w m q : Int32} (u : Upd (WOut ++ Scr) h g) : Upd (WOut ++ Scr) h (adL g n t b w m q) := (((((((((((((u.sI (by decide)).sI (by decide)).sI (by decide)).sI (by decide)).sI (by decide)).sI (by decide)).sI (by decide)).sI (by decide)).sI (by decide)).sI (by decide)).sI (by decide)).sI (by decide)))
theorem adM_Upd {h g : MH} {n t : Nat} {b w m q : Int32} (u : Upd (WOut ++ Scr) h g) : Upd (WOut ++ Scr) h (adM g n t b w m q) := (((((((((((((u.sI (by decide)).sI (by decide)).sI (by decide)).sI (by decide)).sI (by decide)).sI (by decide)).sI (by decide)).sI (by decide)).sI (by decide)).sI (by decide)).sI (by decide)).sI (by decide)).sI (by decide))
theorem ad_Ag {S : List (Nat × Nat)} {h g : MH} {n t : Nat} {b w m q : Int32} (a : Ag S h g) : Ag S (adL h n t b w m q) (adL g n t b w m q) := (Ag.sI (Ag.sI (Ag.sI (Ag.sI (Ag.sI (Ag.sI (Ag.sI (Ag.sI (Ag.sI (Ag.sI (Ag.sI (Ag.sI a _ _ _ _) _ _ _ _) _ _ _ _) _ _ _ _) _ _ _ _) _ _ _ _) _ _ _ _) _ _ _ _) _ _ _ _) _ _ _ _) _ _ _ _) _ _ _ _)
theorem adM_Ag {S : List (Nat × Nat)} {h g : MH} {n t : Nat} {b w m q : Int32} (a : Ag S h g) : Ag S (adM h n t b w m q) (adM g n t b w m q) := (Ag.sI (Ag.sI (Ag.sI (Ag.sI (Ag.sI (Ag.sI (Ag.sI (Ag.sI (Ag.sI (Ag.sI (Ag.sI (Ag.sI (Ag.sI a _ _ _ _) _ _ _ _) _ _ _ _) _ _ _ _) _ _ _ _) _ _ _ _) _ _ _ _) _ _ _ _) _ _ _ _) _ _ _ _) _ _ _ _) _ _ _ _) _ _ _ _)
theorem c_M_tells0 {h : MH} {n t : Nat} (b w m q : Int32) (hn : n < 120) (ht : t < 400) (en : hI h 1336 0 0 = nI n) (eT : hI h 1337 0 0 = nI t) {k : Int32 → MH → Option Exit} : wrI 0 h 1339000120 0 (hI h 1336 0 0) b (fun h11 => wrI 0 h11 1340000120 0 (hI h11 1336 0 0) w (fun h12 => wrI 0 h12 1341000120 0 (hI h12 1336 0 0) m (fun h13 => wrI 0 h13 1342000120 0 (hI h13 1336 0 0) q (fun h14 => wrI 0 h14 1344000120 0 (hI h14 1336 0 0) 0 (fun h15 => wrI 0 h15 1345000120 0 (hI h15 1336 0 0) 0 (fun h16 => clI (E L scr (d + 1) 255 [vR 900012 0, vI 0, vI (hI h16 1336 0 0), vI 0, vI 0] h16) (fun x18 h17 => wrI 0 h17 1343000120 0 (hI h16 1336 0 0) x18 (fun h19 => k x18 h19)))))))) = k (nI (t + 1)) (sI (tmL (adM0 h n b w m q) t 0 (nI n) 0 0) 1343000120 0 n (nI (t + 1))) := by
  have ob : ¬ oob (nI n) 120 := oob_nI hn (by decide)
  have n31 : n < 2 ^ 31 := by omega
  have rn : ∀ {g : MH} {s i : Nat} {v : Int32}, s ≠ 1336 → hI g 1336 0 0 = nI n → hI (sI g s 0 i v) 1336 0 0 = nI n := fun hs e => by rw [hI_rn (fun z => hs z.1.symm)]; exact e
  have rt : ∀ {g : MH} {s i : Nat} {v : Int32}, s ≠ 1337 → hI g 1337 0 0 = nI t → hI (sI g s 0 i v) 1337 0 0 = nI t := fun hs e => by rw [hI_rn (fun z => hs z.1.symm)]; exact e
  have a1 := rn (s := 1339000120) (i := n) (v := b) (by decide) en
  have a2 := rn (s := 1340000120) (i := n) (v := w) (by decide) a1
  have a3 := rn (s := 1341000120) (i := n) (v := m) (by decide) a2
  have a4 := rn (s := 1342000120) (i := n) (v := q) (by decide) a3
  have a5 := rn (s := 1344000120) (i := n) (v := 0) (by decide) a4
  have a6 := rn (s := 1345000120) (i := n) (v := 0) (by decide) a5
  have t1 := rt (s := 1345000120) (i := n) (v := 0) (by decide) (rt (s := 1344000120) (i := n) (v := 0) (by decide) (rt (s := 1342000120) (i := n) (v := q) (by decide) (rt (s := 1341000120) (i := n) (v := m) (by decide) (rt (s := 1340000120) (i := n) (v := w) (by decide) (rt (s := 1339000120) (i := n) (v := b) (by decide) eT)))))
  rw [en, wr_M_boatOf ob, ix_nI n31, a1, wr_M_whoOf ob, ix_nI n31, a2, wr_M_outAt ob, ix_nI n31, a3, wr_M_booked ob, ix_nI n31, a4, wr_M_reaches ob, ix_nI n31, a5, wr_M_clean ob, ix_nI n31, a6, c_tells ht _ _ _ _ t1, clI_ok, wr_M_toldBy ob, ix_nI n31]
theorem call_out (x y z w : Int32) (h : MH) (q : RHire h) (qp : RPass h) (qb : RBoat h) (qw : RWater h) (qs : RSpell h) (qd : RWeed h) (qr : RRule h) (ql : RLaw h) : Both L scr (d + 40) (WOut ++ Scr) (fun h2 => RHire h2 ∧ RPass h2) 132 256 [vR 900011 0, vI x, vI y, vI z, vI w] [vR 900012 0, vI x, vI y, vI z, vI w] h := by
  obtain ⟨q1, q2, q3, q4, q5, n, T, nb, hn, hT, hnb, ch, mh, cl, ml, bn, tk, hk, hsep⟩ := id q
  obtain ⟨b1, nb', hnb', cb, mb, -⟩ := id qb
  have enb : nb' = nb := (nI_eq (by omega) (by omega)).mp (by rw [← cb, bn])
  subst enb
  cases hx : ixB x nb' with
  | false =>
    refine both0 (vI (-1)) (r_P_out _ _ _ _ _ _ (Sm.ret ?_)) (r_M_out _ _ _ _ _ _ (Sm.ret ?_)) ⟨q, qp⟩
    · rw [t_P_out_0, c_P_isBoat cb, clI_ok, hx, itF]
    · rw [t_M_out_0, c_M_isBoat (by omega) mb, clI_ok, hx, itF]
  | true =>
    have iy : inB y 0 9 = ixB y 10 := inB_ix (n := 9) rfl (by decide)
    cases hy : ixB y 10 with
    | false =>
      refine both0 (vI (-1)) (r_P_out _ _ _ _ _ _ (Sm.ret ?_)) (r_M_out _ _ _ _ _ _ (Sm.ret ?_)) ⟨q, qp⟩
      · rw [t_P_out_0, c_P_isBoat cb, clI_ok, hx, itT, c_P_isWho, clI_ok, hy, itF]
      · rw [t_M_out_0, c_M_isBoat (by omega) mb, clI_ok, hx, itT, c_M_isIn, clI_ok, iy, hy, itF]
    | true =>
      cases hz : ixB z 72000 with
      | false =>
        refine both0 (vI (-1)) (r_P_out _ _ _ _ _ _ (Sm.ret ?_)) (r_M_out _ _ _ _ _ _ (Sm.ret ?_)) ⟨q, qp⟩
        · rw [t_P_out_0, c_P_isBoat cb, clI_ok, hx, itT, c_P_isWho, clI_ok, hy, itT, c_P_isMoment, clI_ok, hz, itF]
        · rw [t_M_out_0, c_M_isBoat (by omega) mb, clI_ok, hx, itT, c_M_isIn, clI_ok, iy, hy, itT, c_M_isMoment, clI_ok, hz, itF]
      | true =>
        obtain ⟨b, hb, -, rfl⟩ := ixB_t hx
        obtain ⟨c, hc, -, rfl⟩ := ixB_t hy
        obtain ⟨m, hm, -, rfl⟩ := ixB_t hz
        have em : nI m % 720 = nI (m % 720) := nI_mod (b := 720) (by omega) (by decide)
        have es : (720 : Int32) - nI (m % 720) = nI (720 - m % 720) := nI_sub (a := 720) (by omega)
        -- refusals behind the span
        by_cases hw : ∃ k, 1 ≤ k ∧ m % 720 + k ≤ 720 ∧ w = nI k
        · obtain ⟨k, hk1, hk2, rfl⟩ := hw
          have i1 : inB (nI k) 1 720 = true := by
            rw [show inB (nI k) 1 720 = _ from inB_nI (a := 1) (b := 720) (by omega) (by decide) (by decide)]
            exact decide_eq_true ⟨hk1, by omega⟩
          have i2 : inB (nI k) 1 (nI (720 - m % 720)) = true := by
            rw [show inB (nI k) 1 (nI (720 - m % 720)) = _ from inB_nI (a := 1) (by omega) (by decide) (by omega)]
            exact decide_eq_true ⟨hk1, by omega⟩
          have preC : ∀ (g : MH), dn L scr (E L scr (d + 39)) B_P_out C_P_out 0 [some (vR 900011 0), some (vI (nI b)), some (vI (nI c)), some (vI (nI m)), some (vI (nI k))] [] h = _ := fun _ => t_P_out_0 ..
          by_cases hr : n < 120 ∧ T < 400
          · obtain ⟨r, h1, e1, u1, bk, kM⟩ := go_both (L := L) (scr := scr) (d := d + 32) q qb qw qs qd qr ql hT cl hn ch (show b < 20 by omega) hm
            cases r with
            | false =>
              obtain ⟨h2, e2, u2⟩ := kM h1 (u1.sites (by decide))
              refine ⟨vI (-1), h1, h2, r_P_out _ _ _ _ _ _ (Sm.ret ?_), r_M_out _ _ _ _ _ _ (Sm.ret ?_), (u1.tr u2).mono (fun s hs => List.mem_append_right _ hs), ⟨q.fr (u1.tr u2) (by decide), qp.fr (u1.tr u2) (by decide)⟩⟩
              · rw [t_P_out_0, c_P_isBoat cb, clI_ok, hx, itT, c_P_isWho, clI_ok, hy, itT, c_P_isMoment, clI_ok, hz, itT, c_P_within, clI_ok, i1, itT, dvI_ok (by decide), em, nI_add, if_neg (show ¬ 720 < nI (m % 720 + k) from nI_nlt (a := 720) (by omega) (by omega)), c_hasRoom hn hT ch cl, clI_ok, decide_eq_true hr, itT, e1, clI_ok, if_pos (show zb false = 0 from rfl)]
              · rw [t_M_out_0, c_M_isBoat (n := nb') (by omega) (by rw [u1.2 _ _ (by decide)]; exact mb), clI_ok, hx, itT, c_M_isIn, clI_ok, iy, hy, itT, c_M_isMoment, clI_ok, hz, itT, dvI_ok (by decide), em, es, c_M_isIn, clI_ok, i2, itT, u1.2 1336 0 (by decide), mh, if_neg (show ¬ nI n = 120 from fun z => (show n ≠ 120 by omega) ((nI_eq (b := 120) (by omega) (by decide)).mp z)), u1.2 1337 0 (by decide), ml, if_neg (show ¬ nI T = 400 from fun z => (show T ≠ 400 by omega) ((nI_eq (b := 400) (by omega) (by decide)).mp z)), e2, clI_ok, if_pos (show zb false = 0 from rfl)]
            | true =>
              obtain ⟨g, hg⟩ : ∃ g, g = adL h1 n T (nI b) (nI c) (nI m) (nI k) := ⟨_, rfl⟩
              have ug : Upd (WOut ++ Scr) h g := by rw [hg]; exact adL_Upd (u1.mono (fun s hs => List.mem_append_right _ hs))
              have ug2 : ∀ a b, a ∈ SGo → hI g a b = hI h a b := fun a b' ha => by
                have w1 : Upd ([(203000120, 0), (204000120, 0), (205000120, 0), (206000120, 0), (208000120, 0), (209000120, 0), (202, 0), (211000400, 0), (212000400, 0), (213000400, 0), (210, 0), (207000120, 0)] ++ Scr) h g := by
                  rw [hg]
                  exact ((((((((((((u1.mono (fun s hs => List.mem_append_right _ hs)).sI (by decide)).sI (by decide)).sI (by decide)).sI (by decide)).sI (by decide)).sI (by decide)).sI (by decide)).sI (by decide)).sI (by decide)).sI (by decide)).sI (by decide)).sI (by decide)
                exact w1.sites (by decide) a b' ha
              obtain ⟨g2, e2, u2⟩ := kM g ug2
              have f1 : hI g2 1336 0 0 = nI n := by rw [u2.2 _ _ (by decide), ug2 1336 0 (by decide)]; exact mh
              have f2 : hI g2 1337 0 0 = nI T := by rw [u2.2 _ _ (by decide), ug2 1337 0 (by decide)]; exact ml
              have Q1 : RHire (adM (adL h n T (nI b) (nI c) (nI m) (nI k)) n T (nI b) (nI c) (nI m) (nI k)) := hire_new q cl hr.2 ch hr.1 bn hnb hb hc hm hk1 hk2 (fun i hi ei => by
                obtain ⟨e, he1, he2, he3⟩ := bk rfl i hi ei
                refine ⟨?_, e, he1, he2⟩
                rcases bk_ok tk (Nat.le_refl T) (show i < 120 by omega) with z | ⟨a, c2, ea, ec, hac, -, hc2⟩
                · rw [show bkS h T i = -1 from z] at he1
                  exact absurd he1.symm (fun y => by
                    have := congrArg Int32.toInt y
                    rw [nI_toInt (by omega)] at this
                    have : (-1 : Int32).toInt = -1 := rfl
                    omega)
                · have : c2 = e := (nI_eq (by omega) (by omega)).mp (by rw [← ec]; exact he1)
                  rw [ea]; exact nI_le (by omega) (by omega))
              have Q2 : RPass (adM (adL h n T (nI b) (nI c) (nI m) (nI k)) n T (nI b) (nI c) (nI m) (nI k)) := pass_new qp
              have A1 : Ag SHire (adM (adL h n T (nI b) (nI c) (nI m) (nI k)) n T (nI b) (nI c) (nI m) (nI k)) (adM g2 n T (nI b) (nI c) (nI m) (nI k)) := adM_Ag (Ag.tr (by rw [hg]; exact ad_Ag (Ag.of u1 (by decide))) (Ag.of u2 (by decide)))
              have A2 : Ag SPass (adM (adL h n T (nI b) (nI c) (nI m) (nI k)) n T (nI b) (nI c) (nI m) (nI k)) (adM g2 n T (nI b) (nI c) (nI m) (nI k)) := adM_Ag (Ag.tr (by rw [hg]; exact ad_Ag (Ag.of u1 (by decide))) (Ag.of u2 (by decide)))
              refine ⟨vI (nI n), g, adM g2 n T (nI b) (nI c) (nI m) (nI k), r_P_out _ _ _ _ _ _ (Sm.ret ?_), r_M_out _ _ _ _ _ _ (Sm.ret ?_), adM_Upd (ug.tr (u2.mono (fun s hs => List.mem_append_right _ hs))), ⟨Q1.ag A1, Q2.ag A2⟩⟩
              · rw [t_P_out_0, c_P_isBoat cb, clI_ok, hx, itT, c_P_isWho, clI_ok, hy, itT, c_P_isMoment, clI_ok, hz, itT, c_P_within, clI_ok, i1, itT, dvI_ok (by decide), em, nI_add, if_neg (show ¬ 720 < nI (m % 720 + k) from nI_nlt (a := 720) (by omega) (by omega)), c_hasRoom hn hT ch cl, clI_ok, decide_eq_true hr, itT, e1, clI_ok, if_neg (show ¬ zb true = 0 by decide), c_addHire _ _ _ _ hr.1 hr.2 (by rw [u1.2 _ _ (by decide)]; exact ch) (by rw [u1.2 _ _ (by decide)]; exact cl), clI_ok, hg]
              · rw [t_M_out_0, c_M_isBoat (n := nb') (by omega) (by rw [ug.2 _ _ (by decide)]; exact mb), clI_ok, hx, itT, c_M_isIn, clI_ok, iy, hy, itT, c_M_isMoment, clI_ok, hz, itT, dvI_ok (by decide), em, es, c_M_isIn, clI_ok, i2, itT, ug2 1336 0 (by decide), mh, if_neg (show ¬ nI n = 120 from fun z => (show n ≠ 120 by omega) ((nI_eq (b := 120) (by omega) (by decide)).mp z)), ug2 1337 0 (by decide), ml, if_neg (show ¬ nI T = 400 from fun z => (show T ≠ 400 by omega) ((nI_eq (b := 400) (by omega) (by decide)).mp z)), e2, clI_ok, if_neg (show ¬ zb true = 0 by decide), c_M_tells0 _ _ _ _ hr.1 hr.2 f1 f2]
                have z1 : hI (sI (tmL (adM0 g2 n (nI b) (nI c) (nI m) (nI k)) T 0 (nI n) 0 0) 1343000120 0 n (nI (T + 1))) 1336 0 0 = nI n := by
                  rw [hI_rn (by decide), hI_rn (by decide), hI_rn (by decide), hI_rn (by decide), hI_rn (by decide), hI_rn (by decide), hI_rn (by decide), hI_rn (by decide), hI_rn (by decide), hI_rn (by decide), hI_rn (by decide), hI_rn (by decide)]; exact f1
                rw [z1, nI_1, hI_rs, up_s, show nI (n + 1) - 1 = nI n from nI_pred n]
          · have hr' : n = 120 ∨ T = 400 := by omega
            refine both0 (vI (-1)) (r_P_out _ _ _ _ _ _ (Sm.ret ?_)) (r_M_out _ _ _ _ _ _ (Sm.ret ?_)) ⟨q, qp⟩
            · rw [t_P_out_0, c_P_isBoat cb, clI_ok, hx, itT, c_P_isWho, clI_ok, hy, itT, c_P_isMoment, clI_ok, hz, itT, c_P_within, clI_ok, i1, itT, dvI_ok (by decide), em, nI_add, if_neg (show ¬ 720 < nI (m % 720 + k) from nI_nlt (a := 720) (by omega) (by omega)), c_hasRoom hn hT ch cl, clI_ok, decide_eq_false hr, itF]
            · rw [t_M_out_0, c_M_isBoat (by omega) mb, clI_ok, hx, itT, c_M_isIn, clI_ok, iy, hy, itT, c_M_isMoment, clI_ok, hz, itT, dvI_ok (by decide), em, es, c_M_isIn, clI_ok, i2, itT, mh]
              by_cases c1 : n = 120
              · rw [if_pos (show nI n = 120 by rw [c1]; rfl)]
              · rw [if_neg (show ¬ nI n = 120 from fun z => c1 ((nI_eq (b := 120) (by omega) (by decide)).mp z)), ml, if_pos (show nI T = 400 by rw [show T = 400 by omega]; rfl)]
        · have n2 : inB w 1 (nI (720 - m % 720)) = false := by
            cases e : inB w 1 (nI (720 - m % 720)) with
            | false => rfl
            | true =>
              obtain ⟨k, k1, k2, rfl⟩ := inB_lu (a := 1) (by decide) (by omega) e
              exact absurd ⟨k, k1, by omega, rfl⟩ hw
          refine both0 (vI (-1)) (r_P_out _ _ _ _ _ _ (Sm.ret ?_)) (r_M_out _ _ _ _ _ _ (Sm.ret ?_)) ⟨q, qp⟩
          · rw [t_P_out_0, c_P_isBoat cb, clI_ok, hx, itT, c_P_isWho, clI_ok, hy, itT, c_P_isMoment, clI_ok, hz, itT, c_P_within, clI_ok]
            cases e : inB w 1 720 with
            | false => rw [itF]
            | true =>
              obtain ⟨k, k1, k2, rfl⟩ := inB_lu (a := 1) (n := 720) (by decide) (by decide) e
              have : ¬ m % 720 + k ≤ 720 := fun z => hw ⟨k, k1, z, rfl⟩
              rw [itT, dvI_ok (by decide), em, nI_add, if_pos (show 720 < nI (m % 720 + k) from nI_lt (a := 720) (by omega) (by omega))]
          · rw [t_M_out_0, c_M_isBoat (by omega) mb, clI_ok, hx, itT, c_M_isIn, clI_ok, iy, hy, itT, c_M_isMoment, clI_ok, hz, itT, dvI_ok (by decide), em, es, c_M_isIn, clI_ok, n2, itF]
end Out

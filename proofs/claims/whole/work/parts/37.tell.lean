/-! TELLINGS: back, mend, swamp, cushions; hire, pass -/
abbrev Scr : List (Nat × Nat) := [(1101, 0), (1102000120, 0), (1103000120, 0), (1104000120, 0), (1101, 1), (1102000120, 1), (1103000120, 1), (1104000120, 1), (1211000008, 0), (1212000721, 0), (1213002304, 0), (100, 0), (101, 0), (102, 0), (103, 0), (104, 0), (105, 0), (106, 0), (107, 0), (108, 0), (109, 0), (903, 0), (904000007, 0), (905000007, 0), (506000008, 0), (507, 0), (508, 0), (404000010, 0), (405000010, 0), (406, 0), (407, 0), (408, 0), (1320000008, 0), (1321200064, 0), (1350000120, 0), (1351000120, 0), (1352000120, 0), (1353000120, 0), (1354, 0), (1355000600, 0), (1356000120, 0), (1361, 0), (1364000007, 0), (1365000007, 0), (1372002304, 0), (1373000008, 0), (1378000020, 0), (1379000020, 0), (1380, 0)]
theorem inB_pred {x : Int32} {n : Nat} (hn : n < 2 ^ 31) : inB x 0 (nI n - 1) = ixB x n := by
  unfold inB ixB
  apply decide_eq_decide.mpr
  have e : (nI n - 1).toInt = (n : Int) - 1 := by
    cases n with
    | zero => rfl
    | succ k => rw [nI_pred, nI_toInt (by omega)]; omega
  rw [Int32.le_iff_toInt_le, Int32.le_iff_toInt_le, Int32.lt_iff_toInt_lt, e, nI_toInt hn]
  omega
theorem vwx_Scr {h : MH} {B S C : Nat → Int32} {n : Nat} : Upd Scr h (withR h (vwL h 0 B S C n)) := withR_Upd (fun q hq => by
  simp only [List.mem_cons, List.not_mem_nil, or_false] at hq
  rcases hq with rfl | rfl | rfl | rfl <;> (dsimp only; decide))
theorem vwx_Scr1 {h : MH} {B S C : Nat → Int32} {n : Nat} : Upd Scr h (withR h (vwL h 1 B S C n)) := withR_Upd (fun q hq => by
  simp only [List.mem_cons, List.not_mem_nil, or_false] at hq
  rcases hq with rfl | rfl | rfl | rfl <;> (dsimp only; decide))
theorem kn_Scr {h : MH} {B S C D : Nat → Int32} {t : Int32} : Upd Scr h (withR h (knL h B S C D t)) := withR_Upd (fun q hq => by
  simp only [List.mem_cons, List.not_mem_nil, or_false] at hq
  rcases hq with rfl | rfl | rfl | rfl | rfl <;> (dsimp only; decide))
/-- the rows of the tellings after changes of scratch rows -/
theorem tell_scr {h h2 : MH} (u : Upd Scr h h2) {T n : Nat} (k : TellOk (hI h 211000400 0) (hI h 212000400 0) (hI h 213000400 0) (hI h 1346000401 0) (hI h 1347000401 0) (hI h 1348000401 0) (hI h 1349000401 0) (hI h 205000120 0) T n) : TellOk (hI h2 211000400 0) (hI h2 212000400 0) (hI h2 213000400 0) (hI h2 1346000401 0) (hI h2 1347000401 0) (hI h2 1348000401 0) (hI h2 1349000401 0) (hI h2 205000120 0) T n := by
  rw [u.2 211000400 0 (by decide), u.2 212000400 0 (by decide), u.2 213000400 0 (by decide), u.2 1346000401 0 (by decide), u.2 1347000401 0 (by decide), u.2 1348000401 0 (by decide), u.2 1349000401 0 (by decide), u.2 205000120 0 (by decide)]
  exact k
theorem bkS_scr {h h2 : MH} (u : Upd Scr h h2) (t i : Nat) : bkS h2 t i = bkS h t i ∧ swS h2 t i = swS h t i ∧ cuS h2 t i = cuS h t i ∧ tkS h2 t i = tkS h t i ∧ brS h2 t i = brS h t i ∧ cnS h2 t = cnS h t := by
  unfold bkS swS cuS tkS brS cnS
  rw [u.2 211000400 0 (by decide), u.2 212000400 0 (by decide), u.2 213000400 0 (by decide), u.2 1348000401 0 (by decide), u.2 1349000401 0 (by decide)]
  exact ⟨rfl, rfl, rfl, rfl, rfl, rfl⟩
/-- what is known of when a hire is back -/
theorem bk_ok {dd sj vl md ms m1 m2 oa : Nat → Int32} {T n : Nat} (h : TellOk dd sj vl md ms m1 m2 oa T n) : ∀ {t i : Nat}, t ≤ T → i < 120 → lastF 1 (-1) dd sj vl t i = -1 ∨ ∃ a b, oa i = nI a ∧ lastF 1 (-1) dd sj vl t i = nI b ∧ a ≤ b ∧ b / 720 = a / 720 ∧ b < 72000
  | 0, _, _, _ => Or.inl rfl
  | t + 1, i, ht, hi => by
    obtain ⟨-, -, j, h1, h2, h3⟩ := h.1 t (by omega)
    have ih := bk_ok h (t := t) (i := i) (by omega) hi
    unfold lastF
    by_cases c : dd t = 1 ∧ sj t = nI i
    · rw [if_pos c]
      have hij : j = i := (nI_eq (by omega) (by omega)).mp (by rw [← h1, c.2])
      subst hij
      rcases h3 with h3 | ⟨-, h4 | h4 | h4⟩
      · rw [h3.1] at c; exact absurd c.1 (by decide)
      · obtain ⟨-, -, a, b, g1, g2, g3, g4, g5⟩ := h4
        exact Or.inr ⟨a, b, g1, g2, g3, g4, g5⟩
      · rw [h4.1] at c; exact absurd c.1 (by decide)
      · rw [h4.1] at c; exact absurd c.1 (by decide)
    · rw [if_neg c]; exact ih
theorem cntW_up {dd : Nat → Int32} {t : Nat} {w : Int32} : ∀ {k : Nat}, k ≤ t → cntW (up dd t w) k = cntW dd k
  | 0, _ => rfl
  | k + 1, hk => by
    unfold cntW
    rw [up_n (by omega), cntW_up (k := k) (by omega)]
theorem cntW_upS {dd : Nat → Int32} {t : Nat} {w : Int32} : cntW (up dd t w) (t + 1) = if w = 0 then cntW dd t + 1 else cntW dd t := by
  show (if up dd t w t = 0 then cntW (up dd t w) t + 1 else cntW (up dd t w) t) = _
  rw [up_s, cntW_up (Nat.le_refl _)]
theorem tell_add {dd sj vl md ms m1 m2 oa : Nat → Int32} {t n i : Nat} {w v v1 v2 : Int32} (h : TellOk dd sj vl md ms m1 m2 oa t n) (hn : n ≤ 120) (hi : i < n) (hw : (w = 1 ∧ v = v1 ∧ ∃ a b, oa i = nI a ∧ v = nI b ∧ a ≤ b ∧ b / 720 = a / 720 ∧ b < 72000) ∨ (w = 2 ∧ v = v1 ∧ ∃ c, c ≤ 9999 ∧ v = nI c) ∨ (w = 3 ∧ ∃ a b, a ≤ 9 ∧ b ≤ 9 ∧ v1 = nI a ∧ v2 = nI b ∧ v = nI (10 * a + b))) : TellOk (up dd t w) (up sj t (nI i)) (up vl t v) (up md (t + 1) w) (up ms (t + 1) (nI i)) (up m1 (t + 1) v1) (up m2 (t + 1) v2) oa (t + 1) n := by
  have hw0 : w ≠ 0 := by rcases hw with q | q | q <;> (rw [q.1]; decide)
  refine ⟨fun k hk => ?_, by rw [cntW_upS, if_neg hw0]; exact h.2⟩
  by_cases e : k = t
  · subst e
    rw [up_s, up_s, up_s, up_s, up_s, up_s, up_s, cntW_up (Nat.le_refl _), h.2]
    refine ⟨rfl, rfl, i, rfl, by omega, Or.inr ⟨hi, hw⟩⟩
  · rw [up_n e, up_n e, up_n e, up_n (by omega), up_n (by omega), up_n (by omega), up_n (by omega), cntW_up (by omega)]
    exact h.1 k (by omega)
theorem hires_tell {bo wo oa bk tb dd : Nat → Int32} {n t nb : Nat} {w : Int32} (h : HiresOk bo wo oa bk tb dd n t nb) : HiresOk bo wo oa bk tb (up dd t w) n (t + 1) nb := by
  intro i hi
  obtain ⟨h1, ⟨k, hk, hk2, hk3, hk4⟩, h3⟩ := h i hi
  exact ⟨h1, ⟨k, by omega, hk2, by rw [up_n (by omega)]; exact hk3, by rw [cntW_up (by omega)]; exact hk4⟩, h3⟩
theorem lastF_up {dd sj vl : Nat → Int32} {t : Nat} {w w2 s v v0 : Int32} {i : Nat} : lastF w2 v0 (up dd t w) (up sj t s) (up vl t v) (t + 1) i = if w = w2 ∧ s = nI i then v else lastF w2 v0 dd sj vl t i := by
  have e : lastF w2 v0 (up dd t w) (up sj t s) (up vl t v) t i = lastF w2 v0 dd sj vl t i := lastF_congr (T := t) (fun k hk => ⟨up_n (by omega), up_n (by omega), fun _ => up_n (by omega)⟩) (Nat.le_refl _)
  show (if up dd t w t = w2 ∧ up sj t s t = nI i then up vl t v t else lastF w2 v0 (up dd t w) (up sj t s) (up vl t v) t i) = _
  rw [up_s, up_s, up_s, e]
theorem sep_tell {bo oa dd sj vl : Nat → Int32} {n t i : Nat} {w v : Int32} (h : SepOk bo oa dd sj vl n t) (hn : n ≤ 120) (hi : i < n) (hv : w = 1 → ∀ j, i < j → j < n → bo i = bo j → ∃ a b, v = nI b ∧ oa j = nI a ∧ b ≤ a ∧ a < 72000) : SepOk bo oa (up dd t w) (up sj t (nI i)) (up vl t v) n (t + 1) := by
  intro k j hkj hj hb
  rw [lastF_up]
  by_cases c : w = 1 ∧ nI i = nI k
  · rw [if_pos c]
    have : i = k := (nI_eq (by omega) (by omega)).mp c.2
    subst this
    exact hv c.1 j hkj hj hb
  · rw [if_neg c]
    exact h k j hkj hj hb
section Tell
variable {L : Nat} {scr : Nat → Int32} {d : Nat}
theorem c_P_isHire {n : Nat} {x : Int32} {h : MH} (e : hI h 202 0 0 = nI n) : E L scr (d + 1) 185 [vR 900011 0, vI x] h = some (some (vI (zb (ixB x n))), h) := r_P_isHire 0 x h (Sm.ret (by rw [t_P_isHire_0, e]; exact lt_tree))
theorem c_M_isHire {n : Nat} {x : Int32} {h : MH} (hn : n < 2 ^ 31) (e : hI h 1336 0 0 = nI n) : E L scr (d + 2) 243 [vR 900012 0, vI x] h = some (some (vI (zb (ixB x n))), h) := by
  refine r_M_isHire 0 x h (Sm.ret ?_)
  rw [t_M_isHire_0, e, c_M_isIn, clI_ok, inB_pred hn]
  exact rtZ_ok _ h
theorem c_P_isBoat {n : Nat} {x : Int32} {h : MH} (e : hI h 200 0 0 = nI n) : E L scr (d + 1) 184 [vR 900011 0, vI x] h = some (some (vI (zb (ixB x n))), h) := r_P_isBoat 0 x h (Sm.ret (by rw [t_P_isBoat_0, e]; exact lt_tree))
theorem c_M_isBoat {n : Nat} {x : Int32} {h : MH} (hn : n < 2 ^ 31) (e : hI h 1335 0 0 = nI n) : E L scr (d + 2) 242 [vR 900012 0, vI x] h = some (some (vI (zb (ixB x n))), h) := by
  refine r_M_isBoat 0 x h (Sm.ret ?_)
  rw [t_M_isBoat_0, e, c_M_isIn, clI_ok, inB_pred hn]
  exact rtZ_ok _ h
theorem c_P_isTelling {n : Nat} {x : Int32} {h : MH} (e : hI h 210 0 0 = nI n) : E L scr (d + 1) 186 [vR 900011 0, vI x] h = some (some (vI (zb (inB x 0 (nI n)))), h) := r_P_isTelling 0 x h (Sm.ret (by rw [t_P_isTelling_0, e]; exact in_tree))
theorem c_M_isTelling {n : Nat} {x : Int32} {h : MH} (e : hI h 1337 0 0 = nI n) : E L scr (d + 2) 244 [vR 900012 0, vI x] h = some (some (vI (zb (inB x 0 (nI n)))), h) := by
  refine r_M_isTelling 0 x h (Sm.ret ?_)
  rw [t_M_isTelling_0, e, c_M_isIn, clI_ok]
  exact rtZ_ok _ h
theorem nI_div {a b : Nat} (ha : a < 2 ^ 31) (hb : b < 2 ^ 31) : nI a / nI b = nI (a / b) := (Int32.ofNat_div ha hb).symm
theorem c_dayOf {i m : Nat} (hi : i < 120) {h : MH} (hm : m < 72000) (e : hI h 205000120 0 i = nI m) : E L scr (d + 1) 16 [vR 900001 0, vI (nI i)] h = some (some (vI (nI (m / 720))), h) := by
  refine r_Book_dayOf 0 _ h (Sm.ret ?_)
  rw [t_Book_dayOf_0, rd_Book_outAt (oob_nI hi (by decide)), ix_nI (by omega), e, dvI_ok (by decide), show (720 : Int32) = nI 720 from rfl, nI_div (by omega) (by decide)]
/-- may a hire end at a moment -/
def endB (m x : Nat) : Bool := decide (m ≤ x ∧ x / 720 = m / 720)
theorem c_canEnd {n i m x : Nat} (hn : n ≤ 120) (hi : i < n) {h : MH} (en : hI h 202 0 0 = nI n) (hx : x < 72000) (hm : m < 72000) (e : hI h 205000120 0 i = nI m) : E L scr (d + 2) 190 [vR 900011 0, vI (nI i), vI (nI x)] h = some (some (vI (zb (endB m x))), h) := by
  refine r_P_canEnd 0 _ _ h (Sm.ret ?_)
  rw [t_P_canEnd_0, c_P_isHire en, clI_ok, ixB_nI hi (by omega), itT, c_P_isMoment, clI_ok, ixB_nI hx (by decide), itT, rd_Book_outAt (oob_nI (by omega) (by decide)), ix_nI (by omega), e]
  unfold endB
  by_cases h1 : x < m
  · rw [if_pos (nI_lt h1 (by omega)), rtZ0, zb_f (decide_eq_false (fun q => by omega))]
  · rw [if_neg (nI_nlt (by omega) (by omega)), dvI_ok (by decide), c_dayOf (by omega) hm e, clI_ok, show (720 : Int32) = nI 720 from rfl, nI_div (by omega) (by decide)]
    by_cases h2 : x / 720 = m / 720
    · rw [if_pos (by rw [h2]), rtZ1, zb_t (decide_eq_true ⟨by omega, h2⟩)]
    · rw [if_neg (fun q => h2 ((nI_eq (by omega) (by omega)).mp q)), rtZ0, zb_f (decide_eq_false (fun q => h2 q.2))]
theorem c_canEnd_no {n : Nat} {x y : Int32} {h : MH} (en : hI h 202 0 0 = nI n) (hb : ixB x n = false ∨ ixB y 72000 = false) : E L scr (d + 2) 190 [vR 900011 0, vI x, vI y] h = some (some (vI 0), h) := by
  refine r_P_canEnd 0 _ _ h (Sm.ret ?_)
  rw [t_P_canEnd_0, c_P_isHire en, clI_ok]
  rcases hb with hb | hb
  · rw [hb, itF, rtZ0]
  · cases hx : ixB x n with
    | false => rw [itF, rtZ0]
    | true => rw [itT, c_P_isMoment, clI_ok, hb, itF, rtZ0]
theorem c_mayBe {n i m x T : Nat} (hn : n ≤ 120) (hi : i < n) {h : MH} (en : hI h 1336 0 0 = nI n) (eT : hI h 1337 0 0 = nI T) (hT : T ≤ 400) (hx : x < 72000) (hm : m < 72000) (e : hI h 1341000120 0 i = nI m) : E L scr (d + 3) 257 [vR 900012 0, vI (nI i), vI (nI x)] h = some (some (vI (zb (endB m x && decide (T < 400)))), h) := by
  refine r_M_mayBe 0 _ _ h (Sm.ret ?_)
  rw [t_M_mayBe_0, c_M_isHire (by omega) en, clI_ok, ixB_nI hi (by omega), itT, c_M_isMoment, clI_ok, ixB_nI hx (by decide), itT, dvI_ok (by decide), rd_M_outAt (oob_nI (by omega) (by decide)), ix_nI (by omega), e, dvI_ok (by decide), show (720 : Int32) = nI 720 from rfl, nI_div (by omega) (by decide), nI_div (by omega) (by decide)]
  unfold endB
  by_cases h2 : x / 720 = m / 720
  · rw [if_pos (by rw [h2]), rd_M_outAt (oob_nI (by omega) (by decide)), ix_nI (by omega), e]
    by_cases h1 : x < m
    · rw [if_pos (nI_lt h1 (by omega)), rtZ0, decide_eq_false (show ¬ (m ≤ x ∧ _) from fun q => by omega)]; rfl
    · rw [if_neg (nI_nlt (by omega) (by omega)), eT, decide_eq_true (show m ≤ x ∧ x / 720 = m / 720 from ⟨by omega, h2⟩), Bool.true_and]
      by_cases h3 : T < 400
      · rw [if_neg (show ¬ (400 : Int32) ≤ nI T from nI_ge (b := 400) h3 (by decide)), rtZ1, decide_eq_true h3]; rfl
      · rw [if_pos (show (400 : Int32) ≤ nI T from nI_le (a := 400) (by omega) (by omega)), rtZ0, decide_eq_false h3]; rfl
  · rw [if_neg (fun q => h2 ((nI_eq (by omega) (by omega)).mp q)), rtZ0, decide_eq_false (show ¬ (m ≤ x ∧ x / 720 = m / 720) from fun q => h2 q.2)]; rfl
theorem c_mayBe_no {n : Nat} (hn : n ≤ 120) {x y : Int32} {h : MH} (en : hI h 1336 0 0 = nI n) (hb : ixB x n = false ∨ ixB y 72000 = false) : E L scr (d + 3) 257 [vR 900012 0, vI x, vI y] h = some (some (vI 0), h) := by
  refine r_M_mayBe 0 _ _ h (Sm.ret ?_)
  rw [t_M_mayBe_0, c_M_isHire (by omega) en, clI_ok]
  rcases hb with hb | hb
  · rw [hb, itF, rtZ0]
  · cases hx : ixB x n with
    | false => rw [itF, rtZ0]
    | true => rw [itT, c_M_isMoment, clI_ok, hb, itF, rtZ0]
abbrev tlL (h : MH) (t : Nat) (w i v : Int32) : MH := sI (sI (sI (sI h 211000400 0 t w) 212000400 0 t i) 213000400 0 t v) 210 0 0 (nI (t + 1))
theorem c_tell {t : Nat} (ht : t < 400) (w i v : Int32) {h : MH} (e : hI h 210 0 0 = nI t) : E L scr (d + 1) 14 [vR 900001 0, vI w, vI i, vI v] h = some (some (vI (nI (t + 1))), tlL h t w i v) := by
  refine r_Book_tell 0 _ _ _ h (Sm.ret ?_)
  have e1 : hI (sI h 211000400 0 t w) 210 0 0 = nI t := by rw [hI_rn (by decide)]; exact e
  have e2 : hI (sI (sI h 211000400 0 t w) 212000400 0 t i) 210 0 0 = nI t := by rw [hI_rn (by decide)]; exact e1
  have e3 : hI (sI (sI (sI h 211000400 0 t w) 212000400 0 t i) 213000400 0 t v) 210 0 0 = nI t := by rw [hI_rn (by decide)]; exact e2
  rw [t_Book_tell_0, e, if_pos (show nI t < 400 from nI_lt (b := 400) ht (by decide)), wr_Book_deed (oob_nI ht (by decide)), ix_nI (by omega), e1, wr_Book_subject (oob_nI ht (by decide)), ix_nI (by omega), e2, wr_Book_value (oob_nI ht (by decide)), ix_nI (by omega), e3, nI_1, hI_rs, up_s]
theorem c_tell_full (w i v : Int32) {h : MH} (e : hI h 210 0 0 = nI 400) : E L scr (d + 1) 14 [vR 900001 0, vI w, vI i, vI v] h = some (some (vI (-1)), h) := by
  refine r_Book_tell 0 _ _ _ h (Sm.ret ?_)
  rw [t_Book_tell_0, e, if_neg (by decide)]
abbrev tmL (h : MH) (t : Nat) (w i v u : Int32) : MH := sI (sI (sI (sI (sI h 1337 0 0 (nI (t + 1))) 1346000401 0 (t + 1) w) 1347000401 0 (t + 1) i) 1348000401 0 (t + 1) v) 1349000401 0 (t + 1) u
theorem c_tells {t : Nat} (ht : t < 400) (w i v u : Int32) {h : MH} (e : hI h 1337 0 0 = nI t) : E L scr (d + 1) 255 [vR 900012 0, vI w, vI i, vI v, vI u] h = some (some (vI (nI (t + 1))), tmL h t w i v u) := by
  refine r_M_tells 0 _ _ _ _ h (Sm.ret ?_)
  have e0 : hI (sI h 1337 0 0 (nI (t + 1))) 1337 0 0 = nI (t + 1) := by rw [hI_rs, up_s]
  have e1 : hI (sI (sI h 1337 0 0 (nI (t + 1))) 1346000401 0 (t + 1) w) 1337 0 0 = nI (t + 1) := by rw [hI_rn (by decide)]; exact e0
  have e2 : hI (sI (sI (sI h 1337 0 0 (nI (t + 1))) 1346000401 0 (t + 1) w) 1347000401 0 (t + 1) i) 1337 0 0 = nI (t + 1) := by rw [hI_rn (by decide)]; exact e1
  have e3 : hI (sI (sI (sI (sI h 1337 0 0 (nI (t + 1))) 1346000401 0 (t + 1) w) 1347000401 0 (t + 1) i) 1348000401 0 (t + 1) v) 1337 0 0 = nI (t + 1) := by rw [hI_rn (by decide)]; exact e2
  have e4 : hI (tmL h t w i v u) 1337 0 0 = nI (t + 1) := by rw [hI_rn (by decide)]; exact e3
  rw [t_M_tells_0, e, nI_1, e0, wr_M_tellKind (oob_nI (by omega) (by decide)), ix_nI (by omega), e1, wr_M_tellHire (oob_nI (by omega) (by decide)), ix_nI (by omega), e2, wr_M_tellOne (oob_nI (by omega) (by decide)), ix_nI (by omega), e3, wr_M_tellTwo (oob_nI (by omega) (by decide)), ix_nI (by omega), e4]
/-- the relation behind a telling of both -/
theorem hire_tell {h : MH} {t n nb i : Nat} {w v v1 v2 : Int32} (q : RHire h) (eT : hI h 210 0 0 = nI t) (ht : t < 400) (en : hI h 202 0 0 = nI n) (hn : n ≤ 120) (hi : i < n) (hw : (w = 1 ∧ v = v1 ∧ ∃ a b, hI h 205000120 0 i = nI a ∧ v = nI b ∧ a ≤ b ∧ b / 720 = a / 720 ∧ b < 72000) ∨ (w = 2 ∧ v = v1 ∧ ∃ c, c ≤ 9999 ∧ v = nI c) ∨ (w = 3 ∧ ∃ a b, a ≤ 9 ∧ b ≤ 9 ∧ v1 = nI a ∧ v2 = nI b ∧ v = nI (10 * a + b))) (hsv : w = 1 → ∀ j, i < j → j < n → hI h 203000120 0 i = hI h 203000120 0 j → ∃ a b, v = nI b ∧ hI h 205000120 0 j = nI a ∧ b ≤ a ∧ a < 72000) : RHire (tmL (tlL h t w (nI i) v) t w (nI i) v1 v2) := by
  obtain ⟨q1, q2, q3, q4, q5, n', t', nb', hn', ht', hnb', ch, mh, cl, ml, bn, tk, hk, hsep⟩ := q
  have et : t' = t := (nI_eq (by omega) (by omega)).mp (by rw [← cl, eT])
  have en2 : n' = n := (nI_eq (by omega) (by omega)).mp (by rw [← ch, en])
  subst et; subst en2
  unfold RHire PHire
  simp only [hI_row, up_s, Nat.reduceEqDiff, false_and, and_false, and_true, true_and, if_true, if_false, reduceIte]
  exact ⟨q1, q2, q3, q4, q5, n', t' + 1, nb', hn', by omega, hnb', ch, mh, rfl, rfl, bn, tell_add tk hn' hi hw, hires_tell hk, sep_tell hsep hn' hi hsv⟩
/-- rows of HIRES and TELLINGS, but for the number of BOATS -/
abbrev WHr : List (Nat × Nat) := [(202, 0), (203000120, 0), (204000120, 0), (205000120, 0), (206000120, 0), (207000120, 0), (210, 0), (211000400, 0), (212000400, 0), (213000400, 0), (1336, 0), (1339000120, 0), (1340000120, 0), (1341000120, 0), (1342000120, 0), (1343000120, 0), (1337, 0), (1346000401, 0), (1347000401, 0), (1348000401, 0), (1349000401, 0)]
theorem tl_Upd {h : MH} {t : Nat} {w i v v1 v2 : Int32} {W : List (Nat × Nat)} (hW : ∀ q ∈ WHr, q ∈ W) {h1 : MH} (u : Upd W h1 h) : Upd W h1 (tmL (tlL h t w i v) t w i v1 v2) :=
  ((((((((u.sI (hW _ (by decide))).sI (hW _ (by decide))).sI (hW _ (by decide))).sI (hW _ (by decide))).sI (hW _ (by decide))).sI (hW _ (by decide))).sI (hW _ (by decide))).sI (hW _ (by decide))).sI (hW _ (by decide))
theorem call_swamp (x y : Int32) (h : MH) (q : RHire h) : Both L scr (d + 40) WHr RHire 135 260 [vR 900011 0, vI x, vI y] [vR 900012 0, vI x, vI y] h := by
  obtain ⟨q1, q2, q3, q4, q5, n, t, nb, hn, ht, hnb, ch, mh, cl, ml, bn, tk, hk, hsep⟩ := id q
  cases hx : ixB x n with
  | false =>
    refine both0 (vI (-1)) (r_P_swamp _ _ _ _ (Sm.ret ?_)) (r_M_swamp _ _ _ _ (Sm.ret ?_)) q
    · rw [t_P_swamp_0, c_P_isHire ch, clI_ok, hx, itF]
    · rw [t_M_swamp_0, c_M_isHire (by omega) mh, clI_ok, hx, itF]
  | true =>
    cases hy : inB y 0 9999 with
    | false =>
      refine both0 (vI (-1)) (r_P_swamp _ _ _ _ (Sm.ret ?_)) (r_M_swamp _ _ _ _ (Sm.ret ?_)) q
      · rw [t_P_swamp_0, c_P_isHire ch, clI_ok, hx, itT, c_P_within, clI_ok, hy, itF]
      · rw [t_M_swamp_0, c_M_isHire (by omega) mh, clI_ok, hx, itT, c_M_isIn, clI_ok, hy, itF]
    | true =>
      rcases Nat.lt_or_ge t 400 with hl | hl
      · obtain ⟨i, hi, hi2, rfl⟩ := ixB_t hx
        obtain ⟨c, hc, rfl⟩ := inB_t (n := 9999) rfl hy
        refine ⟨vI (nI (t + 1)), tlL h t 2 (nI i) (nI c), tmL (tlL h t 2 (nI i) (nI c)) t 2 (nI i) (nI c) 0, r_P_swamp _ _ _ _ (Sm.ret ?_), r_M_swamp _ _ _ _ (Sm.ret ?_), tl_Upd (fun _ z => z) (Upd.rf _ h), hire_tell (nb := nb) q cl hl ch hn hi (Or.inr (Or.inl ⟨rfl, rfl, c, hc, rfl⟩)) (fun z => absurd z (by decide))⟩
        · rw [t_P_swamp_0, c_P_isHire ch, clI_ok, hx, itT, c_P_within, clI_ok, hy, itT, c_tell hl _ _ _ cl, clI_ok]
        · have m1 : hI (tlL h t 2 (nI i) (nI c)) 1336 0 0 = nI n := by rw [hI_rn (by decide), hI_rn (by decide), hI_rn (by decide), hI_rn (by decide)]; exact mh
          have m2 : hI (tlL h t 2 (nI i) (nI c)) 1337 0 0 = nI t := by rw [hI_rn (by decide), hI_rn (by decide), hI_rn (by decide), hI_rn (by decide)]; exact ml
          rw [t_M_swamp_0, c_M_isHire (by omega) m1, clI_ok, hx, itT, c_M_isIn, clI_ok, hy, itT, m2, if_neg (show ¬ (400 : Int32) ≤ nI t from nI_ge (b := 400) hl (by decide)), c_tells hl _ _ _ _ m2, clI_ok]
      · have et : t = 400 := by omega
        subst et
        refine both0 (vI (-1)) (r_P_swamp _ _ _ _ (Sm.ret ?_)) (r_M_swamp _ _ _ _ (Sm.ret ?_)) q
        · rw [t_P_swamp_0, c_P_isHire ch, clI_ok, hx, itT, c_P_within, clI_ok, hy, itT, c_tell_full _ _ _ cl, clI_ok]
        · rw [t_M_swamp_0, c_M_isHire (by omega) mh, clI_ok, hx, itT, c_M_isIn, clI_ok, hy, itT, ml, if_pos (show (400 : Int32) ≤ nI 400 from by decide)]
theorem call_cushions (x y z : Int32) (h : MH) (q : RHire h) : Both L scr (d + 40) WHr RHire 136 261 [vR 900011 0, vI x, vI y, vI z] [vR 900012 0, vI x, vI y, vI z] h := by
  obtain ⟨q1, q2, q3, q4, q5, n, t, nb, hn, ht, hnb, ch, mh, cl, ml, bn, tk, hk, hsep⟩ := id q
  cases hx : ixB x n with
  | false =>
    refine both0 (vI (-1)) (r_P_cushions _ _ _ _ _ (Sm.ret ?_)) (r_M_cushions _ _ _ _ _ (Sm.ret ?_)) q
    · rw [t_P_cushions_0, c_P_isHire ch, clI_ok, hx, itF]
    · rw [t_M_cushions_0, c_M_isHire (by omega) mh, clI_ok, hx, itF]
  | true =>
    cases hy : inB y 0 9 with
    | false =>
      refine both0 (vI (-1)) (r_P_cushions _ _ _ _ _ (Sm.ret ?_)) (r_M_cushions _ _ _ _ _ (Sm.ret ?_)) q
      · rw [t_P_cushions_0, c_P_isHire ch, clI_ok, hx, itT, c_P_within, clI_ok, hy, itF]
      · rw [t_M_cushions_0, c_M_isHire (by omega) mh, clI_ok, hx, itT, c_M_isIn, clI_ok, hy, itF]
    | true =>
      cases hz : inB z 0 9 with
      | false =>
        refine both0 (vI (-1)) (r_P_cushions _ _ _ _ _ (Sm.ret ?_)) (r_M_cushions _ _ _ _ _ (Sm.ret ?_)) q
        · rw [t_P_cushions_0, c_P_isHire ch, clI_ok, hx, itT, c_P_within, clI_ok, hy, itT, c_P_within, clI_ok, hz, itF]
        · rw [t_M_cushions_0, c_M_isHire (by omega) mh, clI_ok, hx, itT, c_M_isIn, clI_ok, hy, itT, c_M_isIn, clI_ok, hz, itF]
      | true =>
        rcases Nat.lt_or_ge t 400 with hl | hl
        · obtain ⟨i, hi, hi2, rfl⟩ := ixB_t hx
          obtain ⟨a, ha, rfl⟩ := inB_t (n := 9) rfl hy
          obtain ⟨b, hb, rfl⟩ := inB_t (n := 9) rfl hz
          have ev : nI a * 10 + nI b = nI (10 * a + b) := by rw [show (10 : Int32) = nI 10 from rfl, nI_mul, nI_add, Nat.mul_comm]
          refine ⟨vI (nI (t + 1)), tlL h t 3 (nI i) (nI (10 * a + b)), tmL (tlL h t 3 (nI i) (nI (10 * a + b))) t 3 (nI i) (nI a) (nI b), r_P_cushions _ _ _ _ _ (Sm.ret ?_), r_M_cushions _ _ _ _ _ (Sm.ret ?_), tl_Upd (fun _ z => z) (Upd.rf _ h), hire_tell (nb := nb) q cl hl ch hn hi (Or.inr (Or.inr ⟨rfl, a, b, ha, hb, rfl, rfl, rfl⟩)) (fun z => absurd z (by decide))⟩
          · rw [t_P_cushions_0, c_P_isHire ch, clI_ok, hx, itT, c_P_within, clI_ok, hy, itT, c_P_within, clI_ok, hz, itT, ev, c_tell hl _ _ _ cl, clI_ok]
          · have m1 : hI (tlL h t 3 (nI i) (nI (10 * a + b))) 1336 0 0 = nI n := by rw [hI_rn (by decide), hI_rn (by decide), hI_rn (by decide), hI_rn (by decide)]; exact mh
            have m2 : hI (tlL h t 3 (nI i) (nI (10 * a + b))) 1337 0 0 = nI t := by rw [hI_rn (by decide), hI_rn (by decide), hI_rn (by decide), hI_rn (by decide)]; exact ml
            rw [t_M_cushions_0, c_M_isHire (by omega) m1, clI_ok, hx, itT, c_M_isIn, clI_ok, hy, itT, c_M_isIn, clI_ok, hz, itT, m2, if_neg (show ¬ (400 : Int32) ≤ nI t from nI_ge (b := 400) hl (by decide)), c_tells hl _ _ _ _ m2, clI_ok]
        · have et : t = 400 := by omega
          subst et
          refine both0 (vI (-1)) (r_P_cushions _ _ _ _ _ (Sm.ret ?_)) (r_M_cushions _ _ _ _ _ (Sm.ret ?_)) q
          · rw [t_P_cushions_0, c_P_isHire ch, clI_ok, hx, itT, c_P_within, clI_ok, hy, itT, c_P_within, clI_ok, hz, itT, c_tell_full _ _ _ cl, clI_ok]
          · rw [t_M_cushions_0, c_M_isHire (by omega) mh, clI_ok, hx, itT, c_M_isIn, clI_ok, hy, itT, c_M_isIn, clI_ok, hz, itT, ml, if_pos (show (400 : Int32) ≤ nI 400 from by decide)]
end Tell

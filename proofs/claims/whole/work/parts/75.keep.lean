/-! CALLS: keep, least -/
theorem euT_n0 {s : Nat × Nat} (h : s.1 ≠ 0 ∨ s.2 ≠ 0) : (euT s).1 ≠ 0 ∨ (euT s).2 ≠ 0 := by
  unfold euT
  by_cases c : s.2 = 0
  · rw [if_pos c]; exact h
  · rw [if_neg c]; exact Or.inl c
theorem euI_n0 {s : Nat × Nat} (h : s.1 ≠ 0 ∨ s.2 ≠ 0) : ∀ n, (euI n s).1 ≠ 0 ∨ (euI n s).2 ≠ 0
  | 0 => h
  | n + 1 => euT_n0 (euI_n0 h n)
theorem gcE_n0 {a b : Nat} (hb : b ≠ 0) (hb2 : b < 2 ^ 63) : gcE a b ≠ 0 := by
  have e := gcE_end (a := a) hb2
  have e2 := euI_stay e (n := 200) (by decide)
  have h := euI_n0 (s := (a, b)) (Or.inr hb) 200
  unfold gcE
  rcases h with h | h
  · exact h
  · rw [e2] at h; exact absurd e h
theorem gcE_lt {a b : Nat} (ha : a < 2 ^ 63) (hb : b < 2 ^ 63) : gcE a b < 2 ^ 63 := (euI_lt ha hb 200).1
theorem wnI_le {c : Nat → Nat} (hc : ∀ k, c k ≤ 10) (i : Nat) : wnI c i 6 ≤ 300 := sumN_le (p := fun _ => true) (m := 50) (n := 6) (fun j hj => by
  have := Nat.mul_le_mul (show j ≤ 5 by omega) (hc (6 * i + j))
  exact this)
theorem wnN_le {c : Nat → Nat} (hc : ∀ k, c k ≤ 10) : wnN c 12 ≤ 3600 := sumN_le (p := fun _ => true) (m := 300) (n := 12) (fun i _ => wnI_le hc i)
theorem wh_of {c : Nat → Nat} (h : (!anyB (fun i => !whB c i) 12) = true) : Wh c := by
  intro i hi
  rw [roS_hr]
  cases e : whB c i with
  | true => exact of_decide_eq_true e
  | false =>
    have : anyB (fun i => !whB c i) 12 = true := anyB_iff.mpr ⟨i, hi, by rw [e]; rfl⟩
    rw [this] at h; cases h
def BothJ (L : Nat) (scr : Nat → Int32) (d : Nat) (jx jm : Nat) (ax am : List MV) (h : MH) : Prop :=
  ∃ (r : MV) (h1 h2 : MH), E L scr d jx ax h = some (some r, h1) ∧ E L scr d jm am h1 = some (some r, h2) ∧ UpdJ h h2
theorem bothJ0 {L : Nat} {scr : Nat → Int32} {jx jm : Nat} {ax am : List MV} {h : MH} {D : Nat} (r : MV) (a : E L scr D jx ax h = some (some r, h)) (b : E L scr D jm am h = some (some r, h)) : BothJ L scr D jx jm ax am h := ⟨r, h, h, a, b, UpdJ.rf h⟩
section Keep
variable {L : Nat} {scr : Nat → Int32} {d : Nat}
theorem inB_lu {x : Int32} {a n : Nat} (ha : a < 2 ^ 31) (hn : n < 2 ^ 31) (h : inB x (nI a) (nI n) = true) : ∃ k, a ≤ k ∧ k ≤ n ∧ x = nI k := by
  unfold inB at h
  have h := of_decide_eq_true h
  obtain ⟨h1, h2⟩ := h
  rw [Int32.le_iff_toInt_le, nI_toInt ha] at h1
  obtain ⟨k, hk, rfl⟩ := nI_of2 (nI_toInt hn) (show ¬ x < 0 by rw [Int32.lt_iff_toInt_lt]; show ¬ x.toInt < 0; omega) h2
  rw [nI_toInt (by omega)] at h1
  exact ⟨k, by omega, hk, rfl⟩
/-- what both do with what is above and below -/
theorem keepTail {lx : List (Option MV)} {h : MH} {a b : Nat} (w : Int32) (ha : a < 2 ^ 63) (hb : b < 2 ^ 63) (hb0 : b ≠ 0) (o0 : Nat) (l1 l2 : Int32) (z5 z6 z7 z8 z9 : Option MV) : dn L scr (E L scr (d + 2)) B_P_keep C_P_keep 6 [some (vR 900011 o0), some (vI l1), some (vI l2), some (vI w), some (vL (lN a)), z5, z6, z7, z8, z9] [vL (lN b)] h = some (.inr (some (vL (if w % 2 = 0 then lN a / lN (gcE a b) else lN b / lN (gcE a b))), h)) ∧ dn L scr (E L scr (d + 2)) B_M_keep C_M_keep 6 [some (vR 900012 o0), some (vI l1), some (vI l2), some (vI w), some (vL (lN a)), z5, z6, z7] [vL (lN b)] h = some (.inr (some (vL (if w % 2 = 0 then lN a / lN (gcE a b) else lN b / lN (gcE a b))), h)) := by
  have g0 := gcE_n0 (a := a) hb0 hb
  have gl := gcE_lt ha hb
  have hne : lN (gcE a b) ≠ 0 := fun z => g0 ((lN0 gl).mp z)
  constructor
  · rw [t_P_keep_6, c_commonDivisor ha hb, clJ_ok, lNsg gl, if_neg g0, if_pos (by decide), dvI_ok (by decide)]
    by_cases c : w % 2 = 0
    · rw [if_pos c, if_pos c, dvJ_ok hne]
    · rw [if_neg c, if_neg c, dvJ_ok hne]
  · rw [t_M_keep_6, dvI_ok (by decide), c_M_divisor ha hb, clJ_ok]
    by_cases c : w % 2 = 0
    · rw [if_pos c, if_pos c, dvJ_ok hne]
    · rw [if_neg c, if_neg c, clJ_ok, dvJ_ok hne]
theorem call_keep (x y z : Int32) (h : MH) (q : RChance h) : BothJ L scr (d + 40) 153 295 [vR 900011 0, vI x, vI y, vI z] [vR 900012 0, vI x, vI y, vI z] h := by
  obtain ⟨q1, q2⟩ := q
  cases hx : inB x 0 12 with
  | false =>
    refine bothJ0 (vL (-1)) (r_P_keep _ _ _ _ _ (Sm.ret ?_)) (r_M_keep _ _ _ _ _ (Sm.ret ?_))
    · rw [t_P_keep_0, c_P_within, clI_ok, hx, itF]
    · rw [t_M_keep_0, c_M_isIn, clI_ok, hx, itF]
  | true =>
    cases hy : inB y 1 3 with
    | false =>
      refine bothJ0 (vL (-1)) (r_P_keep _ _ _ _ _ (Sm.ret ?_)) (r_M_keep _ _ _ _ _ (Sm.ret ?_))
      · rw [t_P_keep_0, c_P_within, clI_ok, hx, itT, c_P_within, clI_ok, hy, itF]
      · rw [t_M_keep_0, c_M_isIn, clI_ok, hx, itT, c_M_isIn, clI_ok, hy, itF]
    | true =>
      cases hz : inB z 0 3 with
      | false =>
        refine bothJ0 (vL (-1)) (r_P_keep _ _ _ _ _ (Sm.ret ?_)) (r_M_keep _ _ _ _ _ (Sm.ret ?_))
        · rw [t_P_keep_0, c_P_within, clI_ok, hx, itT, c_P_within, clI_ok, hy, itT, c_P_within, clI_ok, hz, itF]
        · rw [t_M_keep_0, c_M_isIn, clI_ok, hx, itT, c_M_isIn, clI_ok, hy, itT, c_M_isIn, clI_ok, hz, itF]
      | true =>
        obtain ⟨c, hcd⟩ : ∃ c : Nat → Nat, c = fun k => nn (hI h 300000072 0 k) := ⟨_, rfl⟩
        have hc : ∀ k, hI h 300000072 0 k = nI (c k) ∧ c k ≤ 10 := fun k => by
          rw [hcd]
          obtain ⟨v, hv, ev⟩ := q2 k
          exact nn_ex (by decide) ⟨v, hv, ev⟩
        have hcm : ∀ k, hI h 1357000072 0 k = nI (c k) ∧ c k ≤ 10 := fun k => by rw [← q1]; exact hc k
        obtain ⟨k, hk, rfl⟩ := inB_t (n := 12) rfl hx
        obtain ⟨n, hn, hn3, rfl⟩ := inB_lu (a := 1) (n := 3) (by decide) (by decide) hy
        have e1 := c_isWhole (L := L) (scr := scr) (d := d + 38) hc
        have e2 := fun (h' : MH) (u : UpdJ h h') => c_M_areWhole (L := L) (scr := scr) (d := d + 38) (h := h') (c := c) (by rw [u.I]; exact hcm)
        rw [whole_any] at e1
        cases hw : !anyB (fun i => !whB c i) 12 with
        | false =>
          rw [hw] at e1 e2
          refine bothJ0 (vL (-1)) (r_P_keep _ _ _ _ _ (Sm.ret ?_)) (r_M_keep _ _ _ _ _ (Sm.ret ?_))
          · rw [t_P_keep_0, c_P_within, clI_ok, hx, itT, c_P_within, clI_ok, hy, itT, c_P_within, clI_ok, hz, itT, e1, clI_ok, itF]
          · rw [t_M_keep_0, c_M_isIn, clI_ok, hx, itT, c_M_isIn, clI_ok, hy, itT, c_M_isIn, clI_ok, hz, itT, e2 _ (UpdJ.rf h), clI_ok, itF]
        | true =>
          have W := wh_of hw
          rw [hw] at e1 e2
          have wl := wnN_le (c := c) (fun k => (hc k).2)
          by_cases c2 : (2 : Int32) ≤ z
          · have T := fun z5 z6 z7 z8 z9 => keepTail (L := L) (scr := scr) (d := d + 37) (lx := []) (h := h) (a := wnN c 12) (b := 10) z (by omega) (by decide) (by decide) 0 (nI k) (nI n) z5 z6 z7 z8 z9
            refine bothJ0 _ (r_P_keep _ _ _ _ _ (Sm.step (t' := 6) (lo' := [some (vR 900011 0), some (vI (nI k)), some (vI (nI n)), some (vI z), some (vL (lN (wnN c 12))), none, none, none, none, none]) (st' := [vL (lN 10)]) (h' := h) ?_ (Sm.ret (T _ _ _ _ _).1))) (r_M_keep _ _ _ _ _ (Sm.step (t' := 6) (lo' := [some (vR 900012 0), some (vI (nI k)), some (vI (nI n)), some (vI z), some (vL (lN (wnN c 12))), none, none, none]) (st' := [vL (lN 10)]) (h' := h) ?_ (Sm.ret (T none none none none none).2)))
            · rw [t_P_keep_0, c_P_within, clI_ok, hx, itT, c_P_within, clI_ok, hy, itT, c_P_within, clI_ok, hz, itT, e1, clI_ok, itT, if_pos c2, c_wanted (fun k => (hc k).1), clI_ok, if_pos c2, i2l_nI (by omega)]; rfl
            · rw [t_M_keep_0, c_M_isIn, clI_ok, hx, itT, c_M_isIn, clI_ok, hy, itT, c_M_isIn, clI_ok, hz, itT, e2 _ (UpdJ.rf h), clI_ok, itT, if_pos c2, c_M_wantedNow (fun k => (hcm k).1), clI_ok, if_pos c2, i2l_nI (by omega)]; rfl
          · obtain ⟨h1, s1, u1⟩ := c_served (L := L) (scr := scr) (d := d + 36) hc W hk hn hn3
            obtain ⟨h2, s2, u2⟩ := c_M_served (L := L) (scr := scr) (d := d + 37) (h := h1) (c := c) (by rw [u1.I]; exact hcm) W hk hn hn3
            have vl : vaP c (nxC n k) (thC k) 12 0 < 2 ^ 63 := Nat.lt_of_le_of_lt (va_lt W) (by decide)
            have T := fun hh z5 z6 z7 z8 z9 => keepTail (L := L) (scr := scr) (d := d + 37) (lx := []) (h := hh) (a := vaP c (nxC n k) (thC k) 12 0) (b := 1000000000000) z vl (by decide) (by decide) 0 (nI k) (nI n) z5 z6 z7 z8 z9
            refine ⟨_, h1, h2, r_P_keep _ _ _ _ _ (Sm.step (t' := 6) (lo' := [some (vR 900011 0), some (vI (nI k)), some (vI (nI n)), some (vI z), some (vL (lN (vaP c (nxC n k) (thC k) 12 0))), none, none, none, none, none]) (st' := [vL (lN 1000000000000)]) (h' := h1) ?_ (Sm.ret (T h1 _ _ _ _ _).1)), r_M_keep _ _ _ _ _ (Sm.step (t' := 6) (lo' := [some (vR 900012 0), some (vI (nI k)), some (vI (nI n)), some (vI z), some (vL (lN (vaP c (nxC n k) (thC k) 12 0))), none, none, none]) (st' := [vL (lN 1000000000000)]) (h' := h2) ?_ (Sm.ret (T h2 none none none none none).2)), u1.tr u2⟩
            · rw [t_P_keep_0, c_P_within, clI_ok, hx, itT, c_P_within, clI_ok, hy, itT, c_P_within, clI_ok, hz, itT, e1, clI_ok, itT, if_neg c2, s1, clJ_ok, if_neg c2]; rfl
            · rw [t_M_keep_0, c_M_isIn, clI_ok, hx, itT, c_M_isIn, clI_ok, hy, itT, c_M_isIn, clI_ok, hz, itT, e2 _ u1, clI_ok, itT, if_neg c2, s2, clJ_ok, if_neg c2]; rfl
/-- a loop to some end -/
def Sx (L : Nat) (scr : Nat → Int32) (d : Nat) (bs : List Blk) (cs : List Nat) (t : Nat) (lo : List (Option MV)) (h : MH) (Q : RT → Prop) : Prop := ∃ r, Sm L scr d bs cs t lo [] h r ∧ Q r
theorem Sx.step {bs : List Blk} {cs : List Nat} {t t' : Nat} {lo lo' : List (Option MV)} {h h' : MH} {Q : RT → Prop} (e : dn L scr (E L scr d) bs cs t lo [] h = some (.inl (t', lo', [], h'))) (k : Sx L scr d bs cs t' lo' h' Q) : Sx L scr d bs cs t lo h Q := by
  obtain ⟨r, k, q⟩ := k
  exact ⟨r, Sm.step e k, q⟩
theorem Sx.ret {bs : List Blk} {cs : List Nat} {t : Nat} {lo : List (Option MV)} {h : MH} {Q : RT → Prop} {r : RT} (e : dn L scr (E L scr d) bs cs t lo [] h = some (.inr r)) (q : Q r) : Sx L scr d bs cs t lo h Q := ⟨r, Sm.ret e, q⟩
theorem Sx.inv {bs : List Blk} {cs : List Nat} {t : Nat} {Q : RT → Prop} (P : Nat → List (Option MV) → MH → Prop) (n : Nat) (st : ∀ k, k < n → ∀ lo h, P k lo h → (∀ lo' h', P (k + 1) lo' h' → Sx L scr d bs cs t lo' h' Q) → Sx L scr d bs cs t lo h Q) (fin : ∀ lo h, P n lo h → Sx L scr d bs cs t lo h Q) : ∀ j, j ≤ n → ∀ lo h, P (n - j) lo h → Sx L scr d bs cs t lo h Q
  | 0, _, lo, h, p => fin lo h p
  | j + 1, hj, lo, h, p => st (n - (j + 1)) (by omega) lo h p (fun lo' h' p' => Sx.inv P n st fin j (by omega) lo' h' (by rw [show n - j = n - (j + 1) + 1 by omega]; exact p'))
theorem Sx.inv0 {bs : List Blk} {cs : List Nat} {t : Nat} {Q : RT → Prop} (P : Nat → List (Option MV) → MH → Prop) (n : Nat) {lo : List (Option MV)} {h : MH} (p : P 0 lo h) (st : ∀ k, k < n → ∀ lo h, P k lo h → (∀ lo' h', P (k + 1) lo' h' → Sx L scr d bs cs t lo' h' Q) → Sx L scr d bs cs t lo h Q) (fin : ∀ lo h, P n lo h → Sx L scr d bs cs t lo h Q) : Sx L scr d bs cs t lo h Q := Sx.inv P n st fin n (Nat.le_refl n) lo h (by rw [Nat.sub_self]; exact p)
theorem cmpJ_lt {a b : Nat} (ha : a < 2 ^ 63) (hb : b < 2 ^ 63) : (if lN a < lN b then (-1 : Int32) else if lN b < lN a then 1 else 0) < 0 ↔ a < b := by
  by_cases c : lN a < lN b
  · rw [if_pos c]
    rw [Int64.lt_iff_toInt_lt, lNi ha, lNi hb] at c
    exact ⟨fun _ => by omega, fun _ => by decide⟩
  · rw [if_neg c]
    rw [Int64.lt_iff_toInt_lt, lNi ha, lNi hb] at c
    refine ⟨fun z => ?_, fun z => by omega⟩
    split at z
    · exact absurd z (by decide)
    · exact absurd z (by decide)
theorem call_least (y z : Int32) (h : MH) (q : RChance h) : BothJ L scr (d + 40) 154 296 [vR 900011 0, vI y, vI z] [vR 900012 0, vI y, vI z] h := by
  obtain ⟨q1, q2⟩ := q
  cases hy : inB y 1 3 with
  | false =>
    refine bothJ0 (vI (-1)) (r_P_least _ _ _ _ (Sm.ret ?_)) (r_M_least _ _ _ _ (Sm.ret ?_))
    · rw [t_P_least_0, c_P_within, clI_ok, hy, itF]
    · rw [t_M_least_0, c_M_isIn, clI_ok, hy, itF]
  | true =>
    cases hz : inB z 0 100 with
    | false =>
      refine bothJ0 (vI (-1)) (r_P_least _ _ _ _ (Sm.ret ?_)) (r_M_least _ _ _ _ (Sm.ret ?_))
      · rw [t_P_least_0, c_P_within, clI_ok, hy, itT, c_P_within, clI_ok, hz, itF]
      · rw [t_M_least_0, c_M_isIn, clI_ok, hy, itT, c_M_isIn, clI_ok, hz, itF]
    | true =>
      obtain ⟨c, hcd⟩ : ∃ c : Nat → Nat, c = fun k => nn (hI h 300000072 0 k) := ⟨_, rfl⟩
      have hc : ∀ k, hI h 300000072 0 k = nI (c k) ∧ c k ≤ 10 := fun k => by
        rw [hcd]
        obtain ⟨v, hv, ev⟩ := q2 k
        exact nn_ex (by decide) ⟨v, hv, ev⟩
      have hcm : ∀ k, hI h 1357000072 0 k = nI (c k) ∧ c k ≤ 10 := fun k => by rw [← q1]; exact hc k
      obtain ⟨n, hn, hn3, rfl⟩ := inB_lu (a := 1) (n := 3) (by decide) (by decide) hy
      obtain ⟨m, hm, rfl⟩ := inB_t (n := 100) rfl hz
      have e1 := c_isWhole (L := L) (scr := scr) (d := d + 38) hc
      have e2 := fun (h' : MH) (u : UpdJ h h') => c_M_areWhole (L := L) (scr := scr) (d := d + 38) (h := h') (c := c) (by rw [u.I]; exact hcm)
      rw [whole_any] at e1
      cases hw : !anyB (fun i => !whB c i) 12 with
      | false =>
        rw [hw] at e1 e2
        refine bothJ0 (vI (-1)) (r_P_least _ _ _ _ (Sm.ret ?_)) (r_M_least _ _ _ _ (Sm.ret ?_))
        · rw [t_P_least_0, c_P_within, clI_ok, hy, itT, c_P_within, clI_ok, hz, itT, e1, clI_ok, itF]
        · rw [t_M_least_0, c_M_isIn, clI_ok, hy, itT, c_M_isIn, clI_ok, hz, itT, e2 _ (UpdJ.rf h), clI_ok, itF]
      | true =>
        have W := wh_of hw
        rw [hw] at e1 e2
        have wl := wnN_le (c := c) (fun k => (hc k).2)
        obtain ⟨w, hwd⟩ : ∃ w, w = wnN c 12 := ⟨_, rfl⟩
        obtain ⟨S, hS⟩ : ∃ S : Nat → Nat, S = fun k => vaP c (nxC n k) (thC k) 12 0 := ⟨_, rfl⟩
        have Sl : ∀ k, S k ≤ 60000000000000 := fun k => by rw [hS]; exact va_lt W
        have mw : m * w ≤ 360000 := by rw [hwd]; exact Nat.mul_le_mul hm wl
        obtain ⟨D, hD⟩ : ∃ D, D = m * w := ⟨_, rfl⟩
        obtain ⟨p, hp⟩ : ∃ p : Nat → Bool, p = fun k => decide (D * 1000000000 ≤ S k) := ⟨_, rfl⟩
        have hp0 : ∀ k, p k = decide (D * 1000000000 ≤ S k) := fun k => by rw [hp]
        obtain ⟨res, hres⟩ : ∃ res : Int32, res = match ffst p 13 with | some k => nI k | none => -1 := ⟨_, rfl⟩
        have rs : ∀ k, k < 13 → p k = true → (∀ j, j < k → p j = false) → res = nI k := fun k hk h1 h2 => by rw [hres, ffst_is hk h1 h2]
        have rn : (∀ j, j < 13 → p j = false) → res = -1 := fun h1 => by rw [hres, ffst_no h1]
        have A : Sx L scr (d + 39) B_P_least C_P_least 0 [some (vR 900011 0), some (vI (nI n)), some (vI (nI m)), none, none, none] h (fun r => ∃ h', r = (some (vI res), h') ∧ UpdJ h h') := by
          refine Sx.step (t' := 3) (lo' := [some (vR 900011 0), some (vI (nI n)), some (vI (nI m)), some (vL (lN (D * 100000000000))), none, some (vI (nI 0))]) (h' := h) ?_ (Sx.inv0 (P := fun k lo h' => ∃ z4, lo = [some (vR 900011 0), some (vI (nI n)), some (vI (nI m)), some (vL (lN (D * 100000000000))), z4, some (vI (nI k))] ∧ UpdJ h h' ∧ ∀ j, j < k → p j = false) 13 ⟨_, rfl, UpdJ.rf h, fun j hj => absurd hj (Nat.not_lt_zero j)⟩ ?_ ?_)
          · rw [t_P_least_0, c_P_within, clI_ok, hy, itT, c_P_within, clI_ok, hz, itT, e1, clI_ok, itT, c_wanted (fun k => (hc k).1), clI_ok, ← hwd, nI_mul, ← hD, i2l_nI (by omega), lNmulR]; rfl
          · rintro k hk _ h' ⟨z4, rfl, u, hf⟩ kk
            obtain ⟨h1, s1, u1⟩ := c_served (L := L) (scr := scr) (d := d + 36) (h := h') (c := c) (by rw [u.I]; exact hc) W (k := k) (by omega) hn hn3
            have sl := Sl k
            have es : vaP c (nxC n k) (thC k) 12 0 = S k := by rw [hS]
            have cm := cmpJ_lt (a := S k * 100) (b := D * 100000000000) (by omega) (by omega)
            by_cases c1 : S k * 100 < D * 100000000000
            · refine Sx.step (t' := 3) (lo' := [some (vR 900011 0), some (vI (nI n)), some (vI (nI m)), some (vL (lN (D * 100000000000))), cond (isL z4) none z4, some (vI (nI (k + 1)))]) (h' := h1) ?_ (kk _ _ ⟨_, rfl, u.tr u1, fun j hj => ?_⟩)
              · rw [t_P_least_3, if_neg (show ¬ (12 : Int32) < nI k from nI_nlt (a := 12) (by omega) (by decide)), s1, clJ_ok, es, show lN (S k) * 100 = lN (S k * 100) by rw [lNmulR]; rfl, if_pos (cm.mpr c1), nI_1]
              · rcases Nat.lt_succ_iff_lt_or_eq.mp hj with e | e
                · exact hf j e
                · rw [e, hp0]; exact decide_eq_false (by omega)
            · refine Sx.ret (r := (some (vI res), h1)) ?_ ⟨_, rfl, u.tr u1⟩
              rw [t_P_least_3, if_neg (show ¬ (12 : Int32) < nI k from nI_nlt (a := 12) (by omega) (by decide)), s1, clJ_ok, es, show lN (S k) * 100 = lN (S k * 100) by rw [lNmulR]; rfl, if_neg (fun z => c1 (cm.mp z)), rs k hk (by rw [hp0]; exact decide_eq_true (by omega)) hf]
          · rintro _ h' ⟨z4, rfl, u, hf⟩
            refine Sx.ret (r := (some (vI res), h')) ?_ ⟨_, rfl, u⟩
            rw [t_P_least_3, if_pos (by decide), rn hf]
        obtain ⟨_, A1, h1, rfl, u1⟩ := A
        have B : Sx L scr (d + 39) B_M_least C_M_least 0 [some (vR 900012 0), some (vI (nI n)), some (vI (nI m)), none] h1 (fun r => ∃ h', r = (some (vI res), h') ∧ UpdJ h h') := by
          refine Sx.step (t' := 3) (lo' := [some (vR 900012 0), some (vI (nI n)), some (vI (nI m)), some (vI (nI 0))]) (h' := h1) ?_ (Sx.inv0 (P := fun k lo h' => lo = [some (vR 900012 0), some (vI (nI n)), some (vI (nI m)), some (vI (nI k))] ∧ UpdJ h h' ∧ ∀ j, j < k → p j = false) 13 ⟨rfl, u1, fun j hj => absurd hj (Nat.not_lt_zero j)⟩ ?_ ?_)
          · rw [t_M_least_0, c_M_isIn, clI_ok, hy, itT, c_M_isIn, clI_ok, hz, itT, e2 _ u1, clI_ok, itT]; rfl
          · rintro k hk _ h' ⟨rfl, u, hf⟩ kk
            obtain ⟨h2, s1, u2⟩ := c_M_served (L := L) (scr := scr) (d := d + 37) (h := h') (c := c) (by rw [u.I]; exact hcm) W (k := k) (by omega) hn hn3
            have sl := Sl k
            have es : vaP c (nxC n k) (thC k) 12 0 = S k := by rw [hS]
            have cm := cmpJ_lt (a := S k) (b := D * 1000000000) (by omega) (by omega)
            have el : ((1000000000 : Int64) * lN m) * lN w = lN (D * 1000000000) := by
              rw [hD, Nat.mul_comm (m * w), ← Nat.mul_assoc, lNmulR, lNmulR]; rfl
            have uu := u.tr u2
            have ew : E L scr (d + 39) 293 [vR 900012 0] h2 = some (some (vI (nI w)), h2) := by
              rw [hwd]; exact c_M_wantedNow (d := d + 38) (fun k => by rw [uu.I]; exact (hcm k).1)
            by_cases c1 : S k < D * 1000000000
            · refine Sx.step (t' := 3) (lo' := [some (vR 900012 0), some (vI (nI n)), some (vI (nI m)), some (vI (nI (k + 1)))]) (h' := h2) ?_ (kk _ _ ⟨rfl, uu, fun j hj => ?_⟩)
              · rw [t_M_least_3, if_neg (show ¬ (12 : Int32) < nI k from nI_nlt (a := 12) (by omega) (by decide)), s1, clJ_ok, es, ew, clI_ok, i2l_nI (by omega), i2l_nI (by omega), el, if_pos (cm.mpr c1), nI_1]
              · rcases Nat.lt_succ_iff_lt_or_eq.mp hj with e | e
                · exact hf j e
                · rw [e, hp0]; exact decide_eq_false (by omega)
            · refine Sx.ret (r := (some (vI res), h2)) ?_ ⟨_, rfl, uu⟩
              rw [t_M_least_3, if_neg (show ¬ (12 : Int32) < nI k from nI_nlt (a := 12) (by omega) (by decide)), s1, clJ_ok, es, ew, clI_ok, i2l_nI (by omega), i2l_nI (by omega), el, if_neg (fun z => c1 (cm.mp z)), rs k hk (by rw [hp0]; exact decide_eq_true (by omega)) hf]
          · rintro _ h' ⟨rfl, u, hf⟩
            refine Sx.ret (r := (some (vI res), h')) ?_ ⟨_, rfl, u⟩
            rw [t_M_least_3, if_pos (by decide), rn hf]
        obtain ⟨_, B1, h2, rfl, u2⟩ := B
        exact ⟨vI res, h1, h2, r_P_least _ _ _ _ A1, r_M_least _ _ _ _ B1, u2⟩
end Keep

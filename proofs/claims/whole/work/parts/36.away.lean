/-! WHO IS AWAY: the class's view and the reference's rows, read -/
/-- what the class's facts give for what is known by t tellings -/
abbrev bkS (h : MH) (t i : Nat) : Int32 := lastF 1 (-1) (hI h 211000400 0) (hI h 212000400 0) (hI h 213000400 0) t i
abbrev swS (h : MH) (t i : Nat) : Int32 := lastF 2 0 (hI h 211000400 0) (hI h 212000400 0) (hI h 213000400 0) t i
abbrev cuS (h : MH) (t i : Nat) : Int32 := lastF 3 0 (hI h 211000400 0) (hI h 212000400 0) (hI h 213000400 0) t i
abbrev tkS (h : MH) (t i : Nat) : Int32 := lastF 3 0 (hI h 211000400 0) (hI h 212000400 0) (sh (hI h 1348000401 0)) t i
abbrev brS (h : MH) (t i : Nat) : Int32 := lastF 3 0 (hI h 211000400 0) (hI h 212000400 0) (sh (hI h 1349000401 0)) t i
abbrev cnS (h : MH) (t : Nat) : Nat := cntW (hI h 211000400 0) t
theorem TellOk.bk {dd sj vl md ms m1 m2 oa : Nat → Int32} {t n : Nat} (h : TellOk dd sj vl md ms m1 m2 oa t n) : BkC dd sj t := by
  intro k hk
  obtain ⟨-, -, i, h1, h2, h3⟩ := h.1 k hk
  refine ⟨i, h1, h2, ?_⟩
  rcases h3 with h3 | ⟨h3, h4 | h4 | h4⟩
  · exact Or.inl h3
  · exact Or.inr ⟨Or.inl h4.1, h3⟩
  · exact Or.inr ⟨Or.inr (Or.inl h4.1), h3⟩
  · exact Or.inr ⟨Or.inr (Or.inr h4.1), h3⟩
section Away
variable {L : Nat} {scr : Nat → Int32} {d : Nat}
theorem see_ok {o n t T : Nat} {h : MH} (hT : T ≤ 400) (eT : hI h 210 0 0 = nI T) (ht : t ≤ T) (hn : n ≤ 120) (hk : TellOk (hI h 211000400 0) (hI h 212000400 0) (hI h 213000400 0) (hI h 1346000401 0) (hI h 1347000401 0) (hI h 1348000401 0) (hI h 1349000401 0) (hI h 205000120 0) T n) : cnS h t ≤ n ∧ ∃ B S C : Nat → Int32, E L scr (d + 2) 108 [vR 900010 o, vI (nI t)] h = some (none, withR h (vwL h o B S C (cnS h t))) ∧ ∀ i, i < cnS h t → B i = bkS h t i ∧ S i = swS h t i ∧ C i = cuS h t i := by
  have hm : cnS h t ≤ n := by rw [← hk.2]; exact cntW_mono _ ht
  refine ⟨hm, _, _, _, c_View_see hT eT ht hk.bk, fun i hi => ⟨?_, ?_, ?_⟩⟩
  · exact seeR_last hk.bk (by decide) ht hi (Nat.lt_of_le_of_lt hm (by omega))
  · exact seeR_last hk.bk (by decide) ht hi (Nat.lt_of_le_of_lt hm (by omega))
  · exact seeR_last hk.bk (by decide) ht hi (Nat.lt_of_le_of_lt hm (by omega))
theorem knows_at {n t T : Nat} {h g : MH} (hT : T ≤ 400) (ht : t ≤ T) (hn : n ≤ 120) (en : hI g 1336 0 0 = nI n) (u1 : hI g 1346000401 0 = hI h 1346000401 0) (u2 : hI g 1347000401 0 = hI h 1347000401 0) (u3 : hI g 1348000401 0 = hI h 1348000401 0) (u4 : hI g 1349000401 0 = hI h 1349000401 0) (hk : TellOk (hI h 211000400 0) (hI h 212000400 0) (hI h 213000400 0) (hI h 1346000401 0) (hI h 1347000401 0) (hI h 1348000401 0) (hI h 1349000401 0) (hI h 205000120 0) T n) : ∃ B S C D : Nat → Int32, E L scr (d + 1) 245 [vR 900012 0, vI (nI t)] g = some (none, withR g (knL g B S C D (nI t))) ∧ ∀ i, i < n → B i = bkS h t i ∧ S i = swS h t i ∧ C i = tkS h t i ∧ D i = brS h t i := by
  have hb : ∀ k, k < T → ∃ j, sh (hI h 1347000401 0) k = nI j ∧ j < 120 := by
    intro k hk2
    obtain ⟨-, h2, i, h3, h4, -⟩ := hk.1 k hk2
    exact ⟨i, by show hI h 1347000401 0 (k + 1) = nI i; rw [h2, h3], h4⟩
  have base : ∀ (f : Nat → Int32) (v : Int32) (i : Nat), i < n → filF f v n i = v := fun f v i hi => if_pos hi
  have cg : ∀ (w v0 : Int32) (vl vl2 : Nat → Int32) (i : Nat), (∀ k, k < T → hI h 211000400 0 k = w → vl k = vl2 k) → lastF w v0 (sh (hI h 1346000401 0)) (sh (hI h 1347000401 0)) vl t i = lastF w v0 (hI h 211000400 0) (hI h 212000400 0) vl2 t i := by
    intro w v0 vl vl2 i hv
    refine lastF_congr (T := T) (fun k hk2 => ?_) ht
    obtain ⟨h1, h2, -⟩ := hk.1 k hk2
    exact ⟨h1, h2, fun z => hv k hk2 (by rw [← h1]; exact z)⟩
  have hc := c_M_knows (L := L) (scr := scr) (d := d) (h := g) hn en hT ht (by rw [u2]; exact hb)
  rw [u1, u2, u3, u4] at hc
  refine ⟨_, _, _, _, hc, fun i hi => ⟨?_, ?_, ?_, ?_⟩⟩
  · rw [mknR_last (by omega) (base _ _ i hi) hb ht]
    refine cg _ _ _ _ i (fun k hk2 hd => ?_)
    obtain ⟨-, -, j, -, -, h5⟩ := hk.1 k hk2
    rcases h5 with h5 | ⟨-, h5 | h5 | h5⟩
    · rw [h5.1] at hd; exact absurd hd (by decide)
    · exact h5.2.1.symm
    · rw [h5.1] at hd; exact absurd hd (by decide)
    · rw [h5.1] at hd; exact absurd hd (by decide)
  · rw [mknR_last (by omega) (base _ _ i hi) hb ht]
    refine cg _ _ _ _ i (fun k hk2 hd => ?_)
    obtain ⟨-, -, j, -, -, h5⟩ := hk.1 k hk2
    rcases h5 with h5 | ⟨-, h5 | h5 | h5⟩
    · rw [h5.1] at hd; exact absurd hd (by decide)
    · rw [h5.1] at hd; exact absurd hd (by decide)
    · exact h5.2.1.symm
    · rw [h5.1] at hd; exact absurd hd (by decide)
  · rw [mknR_last (by omega) (base _ _ i hi) hb ht]
    exact cg _ _ _ _ i (fun k hk2 hd => rfl)
  · rw [mknR_last (by omega) (base _ _ i hi) hb ht]
    exact cg _ _ _ _ i (fun k hk2 hd => rfl)
theorem knows_ok {n t T : Nat} {h : MH} (hT : T ≤ 400) (ht : t ≤ T) (hn : n ≤ 120) (en : hI h 1336 0 0 = nI n) (hk : TellOk (hI h 211000400 0) (hI h 212000400 0) (hI h 213000400 0) (hI h 1346000401 0) (hI h 1347000401 0) (hI h 1348000401 0) (hI h 1349000401 0) (hI h 205000120 0) T n) : ∃ B S C D : Nat → Int32, E L scr (d + 1) 245 [vR 900012 0, vI (nI t)] h = some (none, withR h (knL h B S C D (nI t))) ∧ ∀ i, i < n → B i = bkS h t i ∧ S i = swS h t i ∧ C i = tkS h t i ∧ D i = brS h t i := knows_at hT ht hn en rfl rfl rfl rfl hk
/-- is it known: told by then -/
theorem told_iff {bo wo oa bk tb dd : Nat → Int32} {n T nb i : Nat} (hT : T ≤ 400) (hh : HiresOk bo wo oa bk tb dd n T nb) (hi : i < n) : ∃ k, tb i = nI (k + 1) ∧ k < T ∧ (∀ t, t ≤ T → (k + 1 ≤ t ↔ i < cntW dd t)) := by
  obtain ⟨-, ⟨k, hk, hk2, hk3, hk4⟩, -⟩ := hh i hi
  refine ⟨k, hk2, hk, fun t ht => ⟨fun h1 => ?_, fun h1 => ?_⟩⟩
  · have h2 := cntW_mono dd (k := k + 1) (m := t) h1
    have h3 : cntW dd (k + 1) = cntW dd k + 1 := if_pos hk3
    omega
  · rcases Nat.lt_or_ge t (k + 1) with q | q
    · have := cntW_mono dd (k := t) (m := k) (by omega)
      omega
    · exact q
def awayB (oa bk : Nat → Int32) (x : Int32) (i : Nat) : Bool := decide (oa i ≤ x ∧ (bk i = -1 ∨ x < bk i))
theorem c_isAway {o i : Nat} (hi : i < 120) (x : Int32) (h : MH) : E L scr (d + 1) 112 [vR 900010 o, vI (nI i), vI x] h = some (some (vI (zb (awayB (hI h 205000120 0) (hI h 1102000120 o) x i))), h) := by
  refine r_View_isAway o _ _ h (Sm.ret ?_)
  rw [t_View_isAway_0, rd_Book_outAt (oob_nI hi (by decide)), ix_nI (by omega)]
  unfold awayB
  by_cases h1 : x < hI h 205000120 0 i
  · rw [if_pos h1, rtZ0, zb_f (decide_eq_false (fun q => nlt_i.mpr q.1 h1))]
  · rw [if_neg h1, rd_View_backAt (oob_nI hi (by decide)), ix_nI (by omega)]
    by_cases h2 : hI h 1102000120 o i = -1
    · rw [if_pos h2, rtZ1, zb_t (decide_eq_true ⟨nlt_i.mp h1, Or.inl h2⟩)]
    · rw [if_neg h2, rd_View_backAt (oob_nI hi (by decide)), ix_nI (by omega)]
      by_cases h3 : hI h 1102000120 o i ≤ x
      · rw [if_pos h3, rtZ0, zb_f (decide_eq_false (fun q => q.2.elim h2 (nlt_i.mpr h3)))]
      · rw [if_neg h3, rtZ1, zb_t (decide_eq_true ⟨nlt_i.mp h1, Or.inr (nle_i.mp h3)⟩)]
def outF (p : Nat → Bool) (bo : Nat → Int32) (k : Nat) (x : Int32) : Int32 := if p k = true then x ||| ((1 : Int32) <<< (bo k &&& 31)) else x
theorem outF_t {p : Nat → Bool} {bo : Nat → Int32} {k : Nat} {x : Int32} (h : p k = true) : outF p bo k x = x ||| ((1 : Int32) <<< (bo k &&& 31)) := if_pos h
theorem outF_f {p : Nat → Bool} {bo : Nat → Int32} {k : Nat} {x : Int32} (h : p k = false) : outF p bo k x = x := if_neg (by rw [h]; decide)
theorem c_outBits {o m : Nat} (hm : m ≤ 120) (x : Int32) {h : MH} (em : hI h 1101 o 0 = nI m) : E L scr (d + 2) 113 [vR 900010 o, vI x] h = some (some (vI (fold (outF (awayB (hI h 205000120 0) (hI h 1102000120 o) x) (hI h 203000120 0)) 0 m)), h) := by
  refine r_View_outBits o x h (Sm.step (t_View_outBits_0 ..) ?_)
  refine Sm.for (lo := fun k => [some (vR 900010 o), some (vI x), some (vI (fold (outF (awayB (hI h 205000120 0) (hI h 1102000120 o) x) (hI h 203000120 0)) 0 k)), some (vI (nI k))]) (hh := fun _ => h) m (fun k hk => ?_) (Sm.ret ?_)
  · rw [t_View_outBits_1, em, if_neg (nI_ge hk (by omega)), c_isAway (by omega), clI_ok]
    show _ = some (Sum.inl (1, [some (vR 900010 o), some (vI x), some (vI (outF (awayB (hI h 205000120 0) (hI h 1102000120 o) x) (hI h 203000120 0) k (fold (outF (awayB (hI h 205000120 0) (hI h 1102000120 o) x) (hI h 203000120 0)) 0 k))), some (vI (nI (k + 1)))], [], h))
    unfold outF
    cases awayB (hI h 205000120 0) (hI h 1102000120 o) x k with
    | false => rw [itF, if_neg (by decide), nI_1]
    | true => rw [itT, if_pos rfl, rd_Book_boatOf (oob_nI (by omega) (by decide)), ix_nI (by omega), nI_1]
  · rw [t_View_outBits_1, em, if_pos (nI_le (Nat.le_refl _) (by omega))]
def backB (oa bk bo : Nat → Int32) (b x : Int32) (i : Nat) : Bool := decide (bo i = b ∧ (bk i = -1 ∨ x < bk i))
theorem c_allBackBy {o m : Nat} (hm : m ≤ 120) (b x : Int32) {h : MH} (em : hI h 1101 o 0 = nI m) : E L scr (d + 1) 114 [vR 900010 o, vI b, vI x] h = some (some (vI (zb (!anyB (backB (hI h 205000120 0) (hI h 1102000120 o) (hI h 203000120 0) b x) m))), h) := by
  refine r_View_allBackBy o b x h (Sm.step (t_View_allBackBy_0 ..) ?_)
  rw [← ffst_any]
  refine Sm.find (lo := fun k => [some (vR 900010 o), some (vI b), some (vI x), some (vI (nI k))]) (hh := fun _ => h) (r := fun q => (some (vI (zb (!q.isSome))), h)) _ m (fun k hk hp => ?_) (fun k hk hp _ => Sm.ret ?_) (fun _ => Sm.ret ?_)
  · have hp := of_decide_eq_false hp
    rw [t_View_allBackBy_1, em, if_neg (nI_ge hk (by omega)), rd_Book_boatOf (oob_nI (by omega) (by decide)), ix_nI (by omega)]
    by_cases h1 : hI h 203000120 0 k = b
    · rw [if_pos h1, rd_View_backAt (oob_nI (by omega) (by decide)), ix_nI (by omega)]
      by_cases h2 : hI h 1102000120 o k = -1
      · exact absurd ⟨h1, Or.inl h2⟩ hp
      · rw [if_neg h2, rd_View_backAt (oob_nI (by omega) (by decide)), ix_nI (by omega)]
        by_cases h3 : hI h 1102000120 o k ≤ x
        · rw [if_pos h3, nI_1]
        · exact absurd ⟨h1, Or.inr (nle_i.mp h3)⟩ hp
    · rw [if_neg h1, nI_1]
  · have hp := of_decide_eq_true hp
    rw [t_View_allBackBy_1, em, if_neg (nI_ge hk (by omega)), rd_Book_boatOf (oob_nI (by omega) (by decide)), ix_nI (by omega), if_pos hp.1, rd_View_backAt (oob_nI (by omega) (by decide)), ix_nI (by omega)]
    by_cases h2 : hI h 1102000120 o k = -1
    · rw [if_pos h2, rtZ0]; rfl
    · rw [if_neg h2, rd_View_backAt (oob_nI (by omega) (by decide)), ix_nI (by omega), if_neg (nle_i.mpr (hp.2.resolve_left h2)), rtZ0]; rfl
  · rw [t_View_allBackBy_1, em, if_pos (nI_le (Nat.le_refl _) (by omega)), rtZ1]; rfl
theorem c_isBack {o i : Nat} (hi : i < 120) (h : MH) : E L scr (d + 1) 110 [vR 900010 o, vI (nI i)] h = some (some (vI (zb (!decide (hI h 1102000120 o i = -1)))), h) := by
  refine r_View_isBack o _ h (Sm.ret ?_)
  rw [t_View_isBack_0, rd_View_backAt (oob_nI hi (by decide)), ix_nI (by omega)]
  by_cases h1 : hI h 1102000120 o i = -1
  · rw [if_pos h1, rtZ0, decide_eq_true h1]; rfl
  · rw [if_neg h1, rtZ1, decide_eq_false h1]; rfl
theorem c_M_isKnown {i : Nat} (hi : i < 120) (h : MH) : E L scr (d + 1) 246 [vR 900012 0, vI (nI i)] h = some (some (vI (zb (decide (hI h 1343000120 0 i ≤ hI h 1354 0 0)))), h) := by
  refine r_M_isKnown 0 _ h (Sm.ret ?_)
  rw [t_M_isKnown_0, rd_M_toldBy (oob_nI hi (by decide)), ix_nI (by omega)]
  by_cases h1 : hI h 1354 0 0 < hI h 1343000120 0 i
  · rw [if_pos h1, rtZ0, decide_eq_false (nle_i.mpr h1)]; rfl
  · rw [if_neg h1, rtZ1, decide_eq_true (nlt_i.mp h1)]; rfl
theorem c_M_isBack {i : Nat} (hi : i < 120) (h : MH) : E L scr (d + 2) 247 [vR 900012 0, vI (nI i)] h = some (some (vI (zb (decide (hI h 1343000120 0 i ≤ hI h 1354 0 0) && !decide (hI h 1350000120 0 i = -1)))), h) := by
  refine r_M_isBack 0 _ h (Sm.ret ?_)
  rw [t_M_isBack_0, c_M_isKnown hi, clI_ok]
  cases decide (hI h 1343000120 0 i ≤ hI h 1354 0 0) with
  | false => rw [itF, rtZ0]; rfl
  | true =>
    rw [itT, rd_M_backAt (oob_nI hi (by decide)), ix_nI (by omega)]
    by_cases h1 : hI h 1350000120 0 i = -1
    · rw [if_pos h1, rtZ0, decide_eq_true h1]; rfl
    · rw [if_neg h1, rtZ1, decide_eq_false h1]; rfl
theorem c_M_isOut {i : Nat} (hi : i < 120) (x : Int32) (h : MH) : E L scr (d + 2) 248 [vR 900012 0, vI (nI i), vI x] h = some (some (vI (zb (decide (hI h 1343000120 0 i ≤ hI h 1354 0 0) && awayB (hI h 1341000120 0) (hI h 1350000120 0) x i))), h) := by
  refine r_M_isOut 0 _ _ h (Sm.ret ?_)
  rw [t_M_isOut_0, c_M_isKnown hi, clI_ok]
  cases decide (hI h 1343000120 0 i ≤ hI h 1354 0 0) with
  | false => rw [itF, rtZ0]; rfl
  | true =>
    rw [itT, rd_M_outAt (oob_nI hi (by decide)), ix_nI (by omega), Bool.true_and]
    unfold awayB
    by_cases h1 : x < hI h 1341000120 0 i
    · rw [if_pos h1, rtZ0, zb_f (decide_eq_false (fun q => nlt_i.mpr q.1 h1))]
    · rw [if_neg h1, rd_M_backAt (oob_nI hi (by decide)), ix_nI (by omega)]
      by_cases h2 : hI h 1350000120 0 i = -1
      · rw [if_pos h2, rtZ1, zb_t (decide_eq_true ⟨nlt_i.mp h1, Or.inl h2⟩)]
      · rw [if_neg h2, rd_M_backAt (oob_nI hi (by decide)), ix_nI (by omega)]
        by_cases h3 : hI h 1350000120 0 i ≤ x
        · rw [if_pos h3, rtZ0, zb_f (decide_eq_false (fun q => q.2.elim h2 (nlt_i.mpr h3)))]
        · rw [if_neg h3, rtZ1, zb_t (decide_eq_true ⟨nlt_i.mp h1, Or.inr (nle_i.mp h3)⟩)]
theorem c_M_outSet {n : Nat} (hn : n ≤ 120) (x : Int32) {h : MH} (en : hI h 1336 0 0 = nI n) : E L scr (d + 3) 249 [vR 900012 0, vI x] h = some (some (vI (fold (outF (fun i => decide (hI h 1343000120 0 i ≤ hI h 1354 0 0) && awayB (hI h 1341000120 0) (hI h 1350000120 0) x i) (hI h 1339000120 0)) 0 n)), h) := by
  refine r_M_outSet 0 x h (Sm.step (t_M_outSet_0 ..) ?_)
  refine Sm.for (lo := fun k => [some (vR 900012 0), some (vI x), some (vI (fold (outF (fun i => decide (hI h 1343000120 0 i ≤ hI h 1354 0 0) && awayB (hI h 1341000120 0) (hI h 1350000120 0) x i) (hI h 1339000120 0)) 0 k)), some (vI (nI k))]) (hh := fun _ => h) n (fun k hk => ?_) (Sm.ret ?_)
  · rw [t_M_outSet_1, en, if_neg (nI_ge hk (by omega)), c_M_isOut (by omega), clI_ok]
    show _ = some (Sum.inl (1, [some (vR 900012 0), some (vI x), some (vI (outF (fun i => decide (hI h 1343000120 0 i ≤ hI h 1354 0 0) && awayB (hI h 1341000120 0) (hI h 1350000120 0) x i) (hI h 1339000120 0) k (fold (outF (fun i => decide (hI h 1343000120 0 i ≤ hI h 1354 0 0) && awayB (hI h 1341000120 0) (hI h 1350000120 0) x i) (hI h 1339000120 0)) 0 k))), some (vI (nI (k + 1)))], [], h))
    cases e : (decide (hI h 1343000120 0 k ≤ hI h 1354 0 0) && awayB (hI h 1341000120 0) (hI h 1350000120 0) x k) with
    | false => rw [itF, outF_f (by exact e), nI_1]
    | true => rw [itT, outF_t (by exact e), rd_M_boatOf (oob_nI (by omega) (by decide)), ix_nI (by omega), nI_1]
  · rw [t_M_outSet_1, en, if_pos (nI_le (Nat.le_refl _) (by omega))]
end Away

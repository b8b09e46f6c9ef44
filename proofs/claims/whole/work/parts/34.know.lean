/-! WHAT IS KNOWN BY A TELLING: the class's view, the reference's rows -/
theorem lastF_new {w v0 : Int32} {dd sj vl : Nat → Int32} {T : Nat} (hb : BkC dd sj T) (hw : w ≠ 0) : ∀ {k i : Nat}, k ≤ T → i < 2 ^ 31 → cntW dd k ≤ i → lastF w v0 dd sj vl k i = v0
  | 0, _, _, _, _ => rfl
  | k + 1, i, hk, hi, hc => by
    obtain ⟨j, hj, hj2, hcase⟩ := hb k (by omega)
    unfold lastF
    rcases hcase with ⟨h0, h1⟩ | ⟨h0, h1⟩
    · rw [if_neg (fun z => hw (by rw [← z.1, h0]))]
      refine lastF_new hb hw (by omega) hi ?_
      have : cntW dd (k + 1) = cntW dd k + 1 := if_pos h0
      omega
    · have hle : cntW dd k ≤ cntW dd (k + 1) := by
        show _ ≤ (if dd k = 0 then cntW dd k + 1 else cntW dd k)
        split <;> omega
      rw [if_neg (fun z => by
        have := z.2
        rw [hj] at this
        have := (nI_eq (by omega) hi).mp this
        omega)]
      exact lastF_new hb hw (by omega) hi (by omega)
theorem cntW_mono (dd : Nat → Int32) {k m : Nat} (h : k ≤ m) : cntW dd k ≤ cntW dd m := by
  induction m with
  | zero => have : k = 0 := by omega
            rw [this]; exact Nat.le_refl _
  | succ m ih =>
    rcases Nat.lt_or_ge k (m + 1) with q | q
    · refine Nat.le_trans (ih (by omega)) ?_
      show _ ≤ (if dd m = 0 then cntW dd m + 1 else cntW dd m)
      split <;> omega
    · have : k = m + 1 := by omega
      rw [this]; exact Nat.le_refl _
section See
variable (dd sj vl : Nat → Int32)
/-- the class's rows behind k tellings -/
def seeR (w v0 : Int32) (f0 : Nat → Int32) : Nat → (Nat → Int32)
  | 0 => f0
  | k + 1 => if dd k = 0 then up (seeR w v0 f0 k) (ix (sj k)) v0 else if dd k = w then up (seeR w v0 f0 k) (ix (sj k)) (vl k) else seeR w v0 f0 k
end See
theorem seeR_last {dd sj vl : Nat → Int32} {T : Nat} {w v0 : Int32} {f0 : Nat → Int32} (hb : BkC dd sj T) (hw : w ≠ 0) : ∀ {k i : Nat}, k ≤ T → i < cntW dd k → cntW dd k < 2 ^ 31 → seeR dd sj vl w v0 f0 k i = lastF w v0 dd sj vl k i
  | 0, _, _, hi, _ => absurd hi (Nat.not_lt_zero _)
  | k + 1, i, hk, hi, hc => by
    obtain ⟨j, hj, hj2, hcase⟩ := hb k (by omega)
    have hm : cntW dd k ≤ cntW dd (k + 1) := cntW_mono dd (Nat.le_succ k)
    unfold seeR lastF
    rw [hj, ix_nI (by omega)]
    rcases hcase with ⟨h0, h1⟩ | ⟨h0, h1⟩
    · rw [if_pos h0, if_neg (fun z => hw (by rw [← z.1, h0]))]
      have hc1 : cntW dd (k + 1) = cntW dd k + 1 := if_pos h0
      by_cases hij : i = j
      · subst hij
        rw [up_s, lastF_new hb hw (by omega) (by omega) (by omega)]
      · rw [up_n hij]
        exact seeR_last hb hw (by omega) (by omega) (by omega)
    · have hn0 : ¬ dd k = 0 := by rcases h0 with q | q | q <;> (rw [q]; decide)
      have hc1 : cntW dd (k + 1) = cntW dd k := if_neg hn0
      rw [if_neg hn0]
      by_cases hdw : dd k = w
      · rw [if_pos hdw]
        by_cases hij : i = j
        · subst hij
          rw [up_s, if_pos ⟨hdw, rfl⟩]
        · rw [up_n hij, if_neg (fun z => hij ((nI_eq (by omega) (by omega)).mp z.2).symm)]
          exact seeR_last hb hw (by omega) (by omega) (by omega)
      · rw [if_neg hdw, if_neg (fun z => hdw z.1)]
        exact seeR_last hb hw (by omega) (by omega) (by omega)
section Know
variable {L : Nat} {scr : Nat → Int32} {d : Nat}
abbrev vwL (h : MH) (o : Nat) (B S C : Nat → Int32) (n : Nat) : RW := [(1102000120, o, B), (1103000120, o, S), (1104000120, o, C), (1101, o, up (hI h 1101 o) 0 (nI n))]
theorem vwx_miss {h : MH} {o : Nat} {B S C : Nat → Int32} {n a b : Nat} (h1 : a ≠ 1102000120) (h2 : a ≠ 1103000120) (h3 : a ≠ 1104000120) (h4 : a ≠ 1101) : hI (withR h (vwL h o B S C n)) a b = hI h a b := by
  rw [withR_miss (fun z => h1 z.1), withR_miss (fun z => h2 z.1), withR_miss (fun z => h3 z.1), withR_miss (fun z => h4 z.1), withR_nil]
theorem vwx_B {h : MH} {o : Nat} {B S C : Nat → Int32} {n : Nat} : hI (withR h (vwL h o B S C n)) 1102000120 o = B := withR_hit
theorem vwx_S {h : MH} {o : Nat} {B S C : Nat → Int32} {n : Nat} : hI (withR h (vwL h o B S C n)) 1103000120 o = S := by rw [withR_miss (by omega)]; exact withR_hit
theorem vwx_C {h : MH} {o : Nat} {B S C : Nat → Int32} {n : Nat} : hI (withR h (vwL h o B S C n)) 1104000120 o = C := by rw [withR_miss (by omega), withR_miss (by omega)]; exact withR_hit
theorem vwx_n {h : MH} {o : Nat} {B S C : Nat → Int32} {n : Nat} : hI (withR h (vwL h o B S C n)) 1101 o 0 = nI n := by rw [withR_miss (by omega), withR_miss (by omega), withR_miss (by omega), withR_hit, up_s]
theorem vwx_setB {h : MH} {o i : Nat} {B S C : Nat → Int32} {n : Nat} {v : Int32} : sI (withR h (vwL h o B S C n)) 1102000120 o i v = withR h (vwL h o (up B i v) S C n) := withR_set
theorem vwx_setS {h : MH} {o i : Nat} {B S C : Nat → Int32} {n : Nat} {v : Int32} : sI (withR h (vwL h o B S C n)) 1103000120 o i v = withR h (vwL h o B (up S i v) C n) := withR_sI (by omega) withR_set
theorem vwx_setC {h : MH} {o i : Nat} {B S C : Nat → Int32} {n : Nat} {v : Int32} : sI (withR h (vwL h o B S C n)) 1104000120 o i v = withR h (vwL h o B S (up C i v) n) := withR_sI (by omega) (withR_sI (by omega) withR_set)
theorem up_up (f : Nat → Int32) (i : Nat) (v w : Int32) : up (up f i v) i w = up f i w := by
  funext c
  unfold up
  split
  · rfl
  · rfl
theorem vwx_setn {h : MH} {o : Nat} {B S C : Nat → Int32} {n : Nat} {m : Nat} : sI (withR h (vwL h o B S C n)) 1101 o 0 (nI m) = withR h (vwL h o B S C m) := by
  refine Eq.trans (withR_sI (by omega) (withR_sI (by omega) (withR_sI (by omega) withR_set))) ?_
  rw [up_up]
theorem vwx_0 {h : MH} {o : Nat} : withR h (vwL h o (hI h 1102000120 o) (hI h 1103000120 o) (hI h 1104000120 o) 0) = sI h 1101 o 0 0 := by
  have e : sI (withR h [(1102000120, o, hI h 1102000120 o), (1103000120, o, hI h 1103000120 o), (1104000120, o, hI h 1104000120 o), (1101, o, hI h 1101 o)]) 1101 o 0 (nI 0) = withR h (vwL h o (hI h 1102000120 o) (hI h 1103000120 o) (hI h 1104000120 o) 0) := withR_sI (by omega) (withR_sI (by omega) (withR_sI (by omega) withR_set))
  rw [← e, withR_id]
  · rfl
  · intro q hq
    simp only [List.mem_cons, List.not_mem_nil, or_false] at hq
    rcases hq with rfl | rfl | rfl | rfl <;> rfl
theorem c_learn0 {o i : Nat} (hi : i < 120) (v : Int32) {h : MH} {B S C : Nat → Int32} {n : Nat} : E L scr (d + 1) 109 [vR 900010 o, vI 0, vI (nI i), vI v] (withR h (vwL h o B S C n)) = some (none, withR h (vwL h o (up B i (-1)) (up S i 0) (up C i 0) (i + 1))) := by
  refine r_View_learn o _ _ _ _ (Sm.ret ?_)
  rw [t_View_learn_0, if_pos rfl, wr_View_backAt (oob_nI hi (by decide)), ix_nI (by omega), vwx_setB, wr_View_swamped (oob_nI hi (by decide)), ix_nI (by omega), vwx_setS, wr_View_cushioned (oob_nI hi (by decide)), ix_nI (by omega), vwx_setC, nI_1, vwx_setn]
theorem c_learn1 {o i : Nat} (hi : i < 120) (v : Int32) {h : MH} {B S C : Nat → Int32} {n : Nat} : E L scr (d + 1) 109 [vR 900010 o, vI 1, vI (nI i), vI v] (withR h (vwL h o B S C n)) = some (none, withR h (vwL h o (up B i v) S C n)) := by
  refine r_View_learn o _ _ _ _ (Sm.ret ?_)
  rw [t_View_learn_0, if_neg (by decide), if_pos rfl, wr_View_backAt (oob_nI hi (by decide)), ix_nI (by omega), vwx_setB]
theorem c_learn2 {o i : Nat} (hi : i < 120) (v : Int32) {h : MH} {B S C : Nat → Int32} {n : Nat} : E L scr (d + 1) 109 [vR 900010 o, vI 2, vI (nI i), vI v] (withR h (vwL h o B S C n)) = some (none, withR h (vwL h o B (up S i v) C n)) := by
  refine r_View_learn o _ _ _ _ (Sm.ret ?_)
  rw [t_View_learn_0, if_neg (by decide), if_neg (by decide), if_pos rfl, wr_View_swamped (oob_nI hi (by decide)), ix_nI (by omega), vwx_setS]
theorem c_learn3 {o i : Nat} (hi : i < 120) (v : Int32) {h : MH} {B S C : Nat → Int32} {n : Nat} : E L scr (d + 1) 109 [vR 900010 o, vI 3, vI (nI i), vI v] (withR h (vwL h o B S C n)) = some (none, withR h (vwL h o B S (up C i v) n)) := by
  refine r_View_learn o _ _ _ _ (Sm.ret ?_)
  rw [t_View_learn_0, if_neg (by decide), if_neg (by decide), if_neg (by decide), wr_View_cushioned (oob_nI hi (by decide)), ix_nI (by omega), vwx_setC]
theorem c_View_see {o t T : Nat} {h : MH} (hT : T ≤ 400) (e : hI h 210 0 0 = nI T) (ht : t ≤ T) (hb : BkC (hI h 211000400 0) (hI h 212000400 0) T) : E L scr (d + 2) 108 [vR 900010 o, vI (nI t)] h = some (none, withR h (vwL h o
    (seeR (hI h 211000400 0) (hI h 212000400 0) (hI h 213000400 0) 1 (-1) (hI h 1102000120 o) t)
    (seeR (hI h 211000400 0) (hI h 212000400 0) (hI h 213000400 0) 2 0 (hI h 1103000120 o) t)
    (seeR (hI h 211000400 0) (hI h 212000400 0) (hI h 213000400 0) 3 0 (hI h 1104000120 o) t) (cntW (hI h 211000400 0) t))) := by
  refine r_View_see o _ h (Sm.step (t_View_see_0 ..) ?_)
  rw [← vwx_0]
  refine Sm.for (L := L) (scr := scr) (d := d + 1) (bs := B_View_see) (cs := C_View_see) (t := 1) (lo := fun k => [some (vR 900010 o), some (vI (nI t)), some (vI (nI k))]) (hh := fun k => withR h (vwL h o
    (seeR (hI h 211000400 0) (hI h 212000400 0) (hI h 213000400 0) 1 (-1) (hI h 1102000120 o) k)
    (seeR (hI h 211000400 0) (hI h 212000400 0) (hI h 213000400 0) 2 0 (hI h 1103000120 o) k)
    (seeR (hI h 211000400 0) (hI h 212000400 0) (hI h 213000400 0) 3 0 (hI h 1104000120 o) k) (cntW (hI h 211000400 0) k))) t (fun k hk => ?_) (Sm.ret ?_)
  · obtain ⟨i, hi, hi2, hc⟩ := hb k (by omega)
    rw [t_View_see_1, if_neg (nI_ge hk (by omega)), vwx_miss (by decide) (by decide) (by decide) (by decide), e, if_neg (nI_ge (by omega) (by omega)), rd_Book_deed (oob_nI (by omega) (by decide)), vwx_miss (by decide) (by decide) (by decide) (by decide), rd_Book_subject (oob_nI (by omega) (by decide)), vwx_miss (by decide) (by decide) (by decide) (by decide), rd_Book_value (oob_nI (by omega) (by decide)), vwx_miss (by decide) (by decide) (by decide) (by decide), ix_nI (by omega), hi]
    have s1 : ∀ w v0 f0, seeR (hI h 211000400 0) (hI h 212000400 0) (hI h 213000400 0) w v0 f0 (k + 1) = if hI h 211000400 0 k = 0 then up (seeR (hI h 211000400 0) (hI h 212000400 0) (hI h 213000400 0) w v0 f0 k) i v0 else if hI h 211000400 0 k = w then up (seeR (hI h 211000400 0) (hI h 212000400 0) (hI h 213000400 0) w v0 f0 k) i (hI h 213000400 0 k) else seeR (hI h 211000400 0) (hI h 212000400 0) (hI h 213000400 0) w v0 f0 k := by
      intro w v0 f0
      rw [show seeR (hI h 211000400 0) (hI h 212000400 0) (hI h 213000400 0) w v0 f0 (k + 1) = if hI h 211000400 0 k = 0 then up (seeR (hI h 211000400 0) (hI h 212000400 0) (hI h 213000400 0) w v0 f0 k) (ix (hI h 212000400 0 k)) v0 else if hI h 211000400 0 k = w then up (seeR (hI h 211000400 0) (hI h 212000400 0) (hI h 213000400 0) w v0 f0 k) (ix (hI h 212000400 0 k)) (hI h 213000400 0 k) else seeR (hI h 211000400 0) (hI h 212000400 0) (hI h 213000400 0) w v0 f0 k from rfl, hi, ix_nI (by omega)]
    have s2 : cntW (hI h 211000400 0) (k + 1) = if hI h 211000400 0 k = 0 then cntW (hI h 211000400 0) k + 1 else cntW (hI h 211000400 0) k := rfl
    rw [s1, s1, s1, s2]
    rcases hc with ⟨h0, h1⟩ | ⟨h0 | h0 | h0, h1⟩
    · rw [h0, c_learn0 hi2, clV_ok, nI_1, if_pos rfl, if_pos rfl, if_pos rfl, if_pos rfl, h1]
    · rw [h0, c_learn1 hi2, clV_ok, nI_1]
      rfl
    · rw [h0, c_learn2 hi2, clV_ok, nI_1]
      rfl
    · rw [h0, c_learn3 hi2, clV_ok, nI_1]
      rfl
  · rw [t_View_see_1, if_pos (nI_le (Nat.le_refl _) (by omega))]
end Know

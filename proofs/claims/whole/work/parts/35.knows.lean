/-! WHAT IS KNOWN BY A TELLING: the reference's rows -/
/-- the reference's rows behind k tellings (its tellings begin with 1: dd, sj, vl are shifted) -/
def mknR (dd sj vl : Nat → Int32) (w : Int32) (f0 : Nat → Int32) : Nat → (Nat → Int32)
  | 0 => f0
  | k + 1 => if dd k = w then up (mknR dd sj vl w f0 k) (ix (sj k)) (vl k) else mknR dd sj vl w f0 k
theorem mknR_last {dd sj vl : Nat → Int32} {T : Nat} {w v0 : Int32} {f0 : Nat → Int32} {i : Nat} (hi : i < 2 ^ 31) (h0 : f0 i = v0) (hb : ∀ k, k < T → ∃ j, sj k = nI j ∧ j < 120) : ∀ {k : Nat}, k ≤ T → mknR dd sj vl w f0 k i = lastF w v0 dd sj vl k i
  | 0, _ => h0
  | k + 1, hk => by
    obtain ⟨j, hj, hj2⟩ := hb k (by omega)
    have ih := mknR_last (dd := dd) (vl := vl) (w := w) hi h0 hb (k := k) (by omega)
    unfold mknR lastF
    rw [hj, ix_nI (by omega)]
    by_cases hd : dd k = w
    · rw [if_pos hd]
      by_cases e : i = j
      · subst e
        rw [up_s, if_pos ⟨hd, rfl⟩]
      · rw [up_n e, if_neg (fun z => e ((nI_eq (by omega) hi).mp z.2).symm)]
        exact ih
    · rw [if_neg hd, if_neg (fun z => hd z.1)]
      exact ih
theorem lastF_congr {w v0 : Int32} {dd sj vl dd2 sj2 vl2 : Nat → Int32} {T : Nat} (h : ∀ k, k < T → dd k = dd2 k ∧ sj k = sj2 k ∧ (dd k = w → vl k = vl2 k)) : ∀ {k i : Nat}, k ≤ T → lastF w v0 dd sj vl k i = lastF w v0 dd2 sj2 vl2 k i
  | 0, _, _ => rfl
  | k + 1, i, hk => by
    obtain ⟨h1, h2, h3⟩ := h k (by omega)
    have ih := lastF_congr (v0 := v0) h (k := k) (i := i) (by omega)
    unfold lastF
    rw [← h1, ← h2]
    by_cases c : dd k = w ∧ sj k = nI i
    · rw [if_pos c, if_pos c, h3 c.1]
    · rw [if_neg c, if_neg c, ih]
section Knows
variable {L : Nat} {scr : Nat → Int32} {d : Nat}
abbrev knL (h : MH) (B S C D : Nat → Int32) (t : Int32) : RW := [(1350000120, 0, B), (1351000120, 0, S), (1352000120, 0, C), (1353000120, 0, D), (1354, 0, up (hI h 1354 0) 0 t)]
theorem kn_miss {h : MH} {B S C D : Nat → Int32} {t : Int32} {a b : Nat} (h1 : a ≠ 1350000120) (h2 : a ≠ 1351000120) (h3 : a ≠ 1352000120) (h5 : a ≠ 1353000120) (h4 : a ≠ 1354) : hI (withR h (knL h B S C D t)) a b = hI h a b := by
  rw [withR_miss (fun z => h1 z.1), withR_miss (fun z => h2 z.1), withR_miss (fun z => h3 z.1), withR_miss (fun z => h5 z.1), withR_miss (fun z => h4 z.1), withR_nil]
theorem kn_B {h : MH} {B S C D : Nat → Int32} {t : Int32} : hI (withR h (knL h B S C D t)) 1350000120 0 = B := withR_hit
theorem kn_S {h : MH} {B S C D : Nat → Int32} {t : Int32} : hI (withR h (knL h B S C D t)) 1351000120 0 = S := by rw [withR_miss (by omega)]; exact withR_hit
theorem kn_C {h : MH} {B S C D : Nat → Int32} {t : Int32} : hI (withR h (knL h B S C D t)) 1352000120 0 = C := by rw [withR_miss (by omega), withR_miss (by omega)]; exact withR_hit
theorem kn_D {h : MH} {B S C D : Nat → Int32} {t : Int32} : hI (withR h (knL h B S C D t)) 1353000120 0 = D := by rw [withR_miss (by omega), withR_miss (by omega), withR_miss (by omega)]; exact withR_hit
theorem kn_t {h : MH} {B S C D : Nat → Int32} {t : Int32} : hI (withR h (knL h B S C D t)) 1354 0 0 = t := by rw [withR_miss (by omega), withR_miss (by omega), withR_miss (by omega), withR_miss (by omega), withR_hit, up_s]
theorem kn_setB {h : MH} {B S C D : Nat → Int32} {t v : Int32} {i : Nat} : sI (withR h (knL h B S C D t)) 1350000120 0 i v = withR h (knL h (up B i v) S C D t) := withR_set
theorem kn_setS {h : MH} {B S C D : Nat → Int32} {t v : Int32} {i : Nat} : sI (withR h (knL h B S C D t)) 1351000120 0 i v = withR h (knL h B (up S i v) C D t) := withR_sI (by omega) withR_set
theorem kn_setC {h : MH} {B S C D : Nat → Int32} {t v : Int32} {i : Nat} : sI (withR h (knL h B S C D t)) 1352000120 0 i v = withR h (knL h B S (up C i v) D t) := withR_sI (by omega) (withR_sI (by omega) withR_set)
theorem kn_setD {h : MH} {B S C D : Nat → Int32} {t v : Int32} {i : Nat} : sI (withR h (knL h B S C D t)) 1353000120 0 i v = withR h (knL h B S C (up D i v) t) := withR_sI (by omega) (withR_sI (by omega) (withR_sI (by omega) withR_set))
theorem kn_0 {h : MH} {t : Int32} : withR h (knL h (hI h 1350000120 0) (hI h 1351000120 0) (hI h 1352000120 0) (hI h 1353000120 0) t) = sI h 1354 0 0 t := by
  have e : sI (withR h [(1350000120, 0, hI h 1350000120 0), (1351000120, 0, hI h 1351000120 0), (1352000120, 0, hI h 1352000120 0), (1353000120, 0, hI h 1353000120 0), (1354, 0, hI h 1354 0)]) 1354 0 0 t = withR h (knL h (hI h 1350000120 0) (hI h 1351000120 0) (hI h 1352000120 0) (hI h 1353000120 0) t) := withR_sI (by omega) (withR_sI (by omega) (withR_sI (by omega) (withR_sI (by omega) withR_set)))
  rw [← e, withR_id]
  intro q hq
  simp only [List.mem_cons, List.not_mem_nil, or_false] at hq
  rcases hq with rfl | rfl | rfl | rfl | rfl <;> rfl
def sh (f : Nat → Int32) : Nat → Int32 := fun k => f (k + 1)
theorem knows_step {t k j : Nat} {h : MH} {B S C D : Nat → Int32} {z : Option MV} {r : RT} (hk : k < t) (ht : t ≤ 400) (ej : hI h 1347000401 0 (k + 1) = nI j) (hj2 : j < 120) (kk : Sm L scr d B_M_knows C_M_knows 3 [some (vR 900012 0), some (vI (nI t)), some (vI (nI (k + 1 + 1))), some (vI (nI j))] [] (withR h (knL h (if hI h 1346000401 0 (k + 1) = 1 then up B j (hI h 1348000401 0 (k + 1)) else B) (if hI h 1346000401 0 (k + 1) = 2 then up S j (hI h 1348000401 0 (k + 1)) else S) (if hI h 1346000401 0 (k + 1) = 3 then up C j (hI h 1348000401 0 (k + 1)) else C) (if hI h 1346000401 0 (k + 1) = 3 then up D j (hI h 1349000401 0 (k + 1)) else D) (nI t))) r) : Sm L scr d B_M_knows C_M_knows 3 [some (vR 900012 0), some (vI (nI t)), some (vI (nI (k + 1))), z] [] (withR h (knL h B S C D (nI t))) r := by
  have ek : ∀ (B S C D : Nat → Int32) (f : Int32 → Option Exit), rdI 0 (withR h (knL h B S C D (nI t))) 1346000401 0 (nI (k + 1)) f = f (hI h 1346000401 0 (k + 1)) := by
    intro B S C D f
    rw [rd_M_tellKind (oob_nI (by omega) (by decide)), kn_miss (by decide) (by decide) (by decide) (by decide) (by decide), ix_nI (by omega)]
  have eh : ∀ (B S C D : Nat → Int32) (f : Int32 → Option Exit), rdI 0 (withR h (knL h B S C D (nI t))) 1347000401 0 (nI (k + 1)) f = f (nI j) := by
    intro B S C D f
    rw [rd_M_tellHire (oob_nI (by omega) (by decide)), kn_miss (by decide) (by decide) (by decide) (by decide) (by decide), ix_nI (by omega), ej]
  have eo : ∀ (B S C D : Nat → Int32) (f : Int32 → Option Exit), rdI 0 (withR h (knL h B S C D (nI t))) 1348000401 0 (nI (k + 1)) f = f (hI h 1348000401 0 (k + 1)) := by
    intro B S C D f
    rw [rd_M_tellOne (oob_nI (by omega) (by decide)), kn_miss (by decide) (by decide) (by decide) (by decide) (by decide), ix_nI (by omega)]
  have et : ∀ (B S C D : Nat → Int32) (f : Int32 → Option Exit), rdI 0 (withR h (knL h B S C D (nI t))) 1349000401 0 (nI (k + 1)) f = f (hI h 1349000401 0 (k + 1)) := by
    intro B S C D f
    rw [rd_M_tellTwo (oob_nI (by omega) (by decide)), kn_miss (by decide) (by decide) (by decide) (by decide) (by decide), ix_nI (by omega)]
  generalize hI h 1346000401 0 (k + 1) = kd at kk ek
  generalize hI h 1348000401 0 (k + 1) = v1 at kk eo
  generalize hI h 1349000401 0 (k + 1) = v2 at kk et
  by_cases h1 : kd = 1
  · subst h1
    rw [if_pos rfl, if_neg (by decide), if_neg (by decide), if_neg (by decide)] at kk
    refine Sm.step (t' := 5) (lo' := [some (vR 900012 0), some (vI (nI t)), some (vI (nI (k + 1))), some (vI (nI j))]) (st' := []) (h' := withR h (knL h (up B j v1) S C D (nI t))) ?_ (Sm.step ?_ kk)
    · rw [t_M_knows_3, if_neg (nI_nlt (by omega) (by omega)), eh, ek, if_pos rfl, eo, wr_M_backAt (oob_nI hj2 (by decide)), ix_nI (by omega), kn_setB, ek, if_neg (by decide)]
    · rw [t_M_knows_5, ek, if_neg (by decide), nI_1]
  · by_cases h2 : kd = 2
    · subst h2
      rw [if_neg (by decide), if_pos rfl, if_neg (by decide), if_neg (by decide)] at kk
      refine Sm.step (t' := 5) (lo' := [some (vR 900012 0), some (vI (nI t)), some (vI (nI (k + 1))), some (vI (nI j))]) (st' := []) (h' := withR h (knL h B (up S j v1) C D (nI t))) ?_ (Sm.step ?_ kk)
      · rw [t_M_knows_3, if_neg (nI_nlt (by omega) (by omega)), eh, ek, if_neg (by decide), ek, if_pos rfl, eo, wr_M_swamped (oob_nI hj2 (by decide)), ix_nI (by omega), kn_setS]
      · rw [t_M_knows_5, ek, if_neg (by decide), nI_1]
    · by_cases h3 : kd = 3
      · subst h3
        rw [if_neg (by decide), if_neg (by decide), if_pos rfl, if_pos rfl] at kk
        refine Sm.step (t' := 5) (lo' := [some (vR 900012 0), some (vI (nI t)), some (vI (nI (k + 1))), some (vI (nI j))]) (st' := []) (h' := withR h (knL h B S C D (nI t))) ?_ (Sm.step ?_ kk)
        · rw [t_M_knows_3, if_neg (nI_nlt (by omega) (by omega)), eh, ek, if_neg (by decide), ek, if_neg (by decide)]
        · rw [t_M_knows_5, ek, if_pos rfl, eo, wr_M_taken (oob_nI hj2 (by decide)), ix_nI (by omega), kn_setC, et, wr_M_brought (oob_nI hj2 (by decide)), ix_nI (by omega), kn_setD, nI_1]
      · rw [if_neg h1, if_neg h2, if_neg h3, if_neg h3] at kk
        refine Sm.step (t' := 5) (lo' := [some (vR 900012 0), some (vI (nI t)), some (vI (nI (k + 1))), some (vI (nI j))]) (st' := []) (h' := withR h (knL h B S C D (nI t))) ?_ (Sm.step ?_ kk)
        · rw [t_M_knows_3, if_neg (nI_nlt (by omega) (by omega)), eh, ek, if_neg h1, ek, if_neg h2]
        · rw [t_M_knows_5, ek, if_neg h3, nI_1]
theorem c_M_knows {n t T : Nat} {h : MH} (hn : n ≤ 120) (en : hI h 1336 0 0 = nI n) (hT : T ≤ 400) (ht : t ≤ T) (hb : ∀ k, k < T → ∃ j, sh (hI h 1347000401 0) k = nI j ∧ j < 120) : E L scr (d + 1) 245 [vR 900012 0, vI (nI t)] h = some (none, withR h (knL h
    (mknR (sh (hI h 1346000401 0)) (sh (hI h 1347000401 0)) (sh (hI h 1348000401 0)) 1 (filF (hI h 1350000120 0) (-1) n) t)
    (mknR (sh (hI h 1346000401 0)) (sh (hI h 1347000401 0)) (sh (hI h 1348000401 0)) 2 (filF (hI h 1351000120 0) 0 n) t)
    (mknR (sh (hI h 1346000401 0)) (sh (hI h 1347000401 0)) (sh (hI h 1348000401 0)) 3 (filF (hI h 1352000120 0) 0 n) t)
    (mknR (sh (hI h 1346000401 0)) (sh (hI h 1347000401 0)) (sh (hI h 1349000401 0)) 3 (filF (hI h 1353000120 0) 0 n) t) (nI t))) := by
  refine r_M_knows 0 _ h (Sm.step (t_M_knows_0 ..) ?_)
  rw [← kn_0]
  have h0 : withR h (knL h (hI h 1350000120 0) (hI h 1351000120 0) (hI h 1352000120 0) (hI h 1353000120 0) (nI t)) = withR h (knL h (filF (hI h 1350000120 0) (-1) 0) (filF (hI h 1351000120 0) 0 0) (filF (hI h 1352000120 0) 0 0) (filF (hI h 1353000120 0) 0 0) (nI t)) := by
    rw [filF_0, filF_0, filF_0, filF_0]
  rw [h0]
  refine Sm.for (L := L) (scr := scr) (d := d) (bs := B_M_knows) (cs := C_M_knows) (t := 1) (lo := fun k => [some (vR 900012 0), some (vI (nI t)), some (vI (nI k)), none]) (hh := fun k => withR h (knL h (filF (hI h 1350000120 0) (-1) k) (filF (hI h 1351000120 0) 0 k) (filF (hI h 1352000120 0) 0 k) (filF (hI h 1353000120 0) 0 k) (nI t))) n (fun k hk => ?_) (Sm.step (t' := 3) (lo' := [some (vR 900012 0), some (vI (nI t)), some (vI (nI 1)), none]) (st' := []) (h' := withR h (knL h (filF (hI h 1350000120 0) (-1) n) (filF (hI h 1351000120 0) 0 n) (filF (hI h 1352000120 0) 0 n) (filF (hI h 1353000120 0) 0 n) (nI t))) ?_ ?_)
  · rw [t_M_knows_1, kn_miss (by decide) (by decide) (by decide) (by decide) (by decide), en, if_neg (nI_ge hk (by omega)), wr_M_backAt (oob_nI (by omega) (by decide)), ix_nI (by omega), kn_setB, wr_M_swamped (oob_nI (by omega) (by decide)), ix_nI (by omega), kn_setS, wr_M_taken (oob_nI (by omega) (by decide)), ix_nI (by omega), kn_setC, wr_M_brought (oob_nI (by omega) (by decide)), ix_nI (by omega), kn_setD, nI_1, filF_s, filF_s, filF_s, filF_s]
  · rw [t_M_knows_1, kn_miss (by decide) (by decide) (by decide) (by decide) (by decide), en, if_pos (nI_le (Nat.le_refl _) (by omega))]
    rfl
  · refine Sm.iter (L := L) (scr := scr) (d := d) (bs := B_M_knows) (cs := C_M_knows) (t := 3) (lo := fun k => [some (vR 900012 0), some (vI (nI t)), some (vI (nI (k + 1))), match k with | 0 => none | k + 1 => some (vI (sh (hI h 1347000401 0) k))]) (hh := fun k => withR h (knL h
      (mknR (sh (hI h 1346000401 0)) (sh (hI h 1347000401 0)) (sh (hI h 1348000401 0)) 1 (filF (hI h 1350000120 0) (-1) n) k)
      (mknR (sh (hI h 1346000401 0)) (sh (hI h 1347000401 0)) (sh (hI h 1348000401 0)) 2 (filF (hI h 1351000120 0) 0 n) k)
      (mknR (sh (hI h 1346000401 0)) (sh (hI h 1347000401 0)) (sh (hI h 1348000401 0)) 3 (filF (hI h 1352000120 0) 0 n) k)
      (mknR (sh (hI h 1346000401 0)) (sh (hI h 1347000401 0)) (sh (hI h 1349000401 0)) 3 (filF (hI h 1353000120 0) 0 n) k) (nI t))) t (fun k hk kk => ?_) (Sm.ret ?_)
    · obtain ⟨j, hj, hj2⟩ := hb k (by omega)
      have ej : hI h 1347000401 0 (k + 1) = nI j := hj
      have s1 : ∀ vl w f0, mknR (sh (hI h 1346000401 0)) (sh (hI h 1347000401 0)) vl w f0 (k + 1) = if hI h 1346000401 0 (k + 1) = w then up (mknR (sh (hI h 1346000401 0)) (sh (hI h 1347000401 0)) vl w f0 k) j (vl k) else mknR (sh (hI h 1346000401 0)) (sh (hI h 1347000401 0)) vl w f0 k := by
        intro vl w f0
        rw [show mknR (sh (hI h 1346000401 0)) (sh (hI h 1347000401 0)) vl w f0 (k + 1) = if sh (hI h 1346000401 0) k = w then up (mknR (sh (hI h 1346000401 0)) (sh (hI h 1347000401 0)) vl w f0 k) (ix (sh (hI h 1347000401 0) k)) (vl k) else mknR (sh (hI h 1346000401 0)) (sh (hI h 1347000401 0)) vl w f0 k from rfl, hj, ix_nI (by omega)]
        rfl
      rw [s1, s1, s1, s1] at kk
      have hsh : sh (hI h 1347000401 0) k = nI j := hj
      refine knows_step hk (by omega) ej hj2 ?_
      have kk2 := kk
      dsimp only at kk2
      rw [hsh] at kk2
      exact kk2
    · rw [t_M_knows_3, if_pos (nI_lt (Nat.lt_succ_self t) (by omega))]
end Knows

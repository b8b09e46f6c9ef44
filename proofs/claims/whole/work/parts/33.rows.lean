/-! ROWS REPLACED, loops over rows, rain and weed -/
def anyB (p : Nat → Bool) : Nat → Bool
  | 0 => false
  | n + 1 => anyB p n || p n
theorem ffst_any {p : Nat → Bool} : ∀ n, (ffst p n).isSome = anyB p n
  | 0 => rfl
  | n + 1 => by
    have ih := ffst_any (p := p) n
    unfold ffst anyB
    cases e : ffst p n with
    | some k => rw [e] at ih; rw [← ih]; rfl
    | none =>
      rw [e] at ih
      rw [← ih]
      cases p n <;> rfl
theorem anyB_congr {p q : Nat → Bool} : ∀ {n : Nat}, (∀ k, k < n → p k = q k) → anyB p n = anyB q n
  | 0, _ => rfl
  | n + 1, h => by
    unfold anyB
    rw [anyB_congr (n := n) (fun k hk => h k (Nat.lt_succ_of_lt hk)), h n (Nat.lt_succ_self n)]
theorem anyB_iff {p : Nat → Bool} : ∀ {n : Nat}, anyB p n = true ↔ ∃ k, k < n ∧ p k = true
  | 0 => ⟨fun h => (by cases h), fun ⟨k, hk, _⟩ => absurd hk (Nat.not_lt_zero k)⟩
  | n + 1 => by
    unfold anyB
    rw [Bool.or_eq_true, anyB_iff (n := n)]
    constructor
    · rintro (⟨k, hk, hp⟩ | hp)
      · exact ⟨k, Nat.lt_succ_of_lt hk, hp⟩
      · exact ⟨n, Nat.lt_succ_self n, hp⟩
    · rintro ⟨k, hk, hp⟩
      rcases Nat.lt_succ_iff_lt_or_eq.mp hk with e | e
      · exact Or.inl ⟨k, e, hp⟩
      · rw [← e]; exact Or.inr hp
/-- rows replaced: the first of the list that fits -/
abbrev RW : Type := List (Nat × Nat × (Nat → Int32))
def lkR (g : Nat → Nat → Nat → Int32) : RW → Nat → Nat → Nat → Int32
  | [], a, b => g a b
  | (s, n, f) :: r, a, b => if a = s ∧ b = n then f else lkR g r a b
def withR (h : MH) (l : RW) : MH := (lkR h.1 l, h.2)
theorem withR_hI (h : MH) (s n : Nat) (f : Nat → Int32) (r : RW) (a b : Nat) : hI (withR h ((s, n, f) :: r)) a b = if a = s ∧ b = n then f else hI (withR h r) a b := rfl
theorem withR_nil (h : MH) : withR h [] = h := rfl
theorem withR_2 (h : MH) (l : RW) : (withR h l).2 = h.2 := rfl
theorem withR_hit {h : MH} {s n : Nat} {f : Nat → Int32} {r : RW} : hI (withR h ((s, n, f) :: r)) s n = f := if_pos ⟨rfl, rfl⟩
theorem withR_miss {h : MH} {s n : Nat} {f : Nat → Int32} {r : RW} {a b : Nat} (q : ¬ (a = s ∧ b = n)) : hI (withR h ((s, n, f) :: r)) a b = hI (withR h r) a b := if_neg q
theorem sI_ext (h : MH) (s n i : Nat) (v : Int32) : sI h s n i v = (fun a b => if a = s ∧ b = n then up (hI h s n) i v else hI h a b, h.2) := by
  show (_, h.2) = (_, h.2)
  refine congrArg (fun z => (z, h.2)) ?_
  funext a b
  exact hI_row h s n i v a b
theorem withR_set {h : MH} {s n i : Nat} {f : Nat → Int32} {r : RW} {v : Int32} : sI (withR h ((s, n, f) :: r)) s n i v = withR h ((s, n, up f i v) :: r) := by
  rw [sI_ext, withR_hit]
  refine congrArg (fun z => (z, h.2)) ?_
  funext a b
  show (if a = s ∧ b = n then up f i v else (if a = s ∧ b = n then f else lkR h.1 r a b)) = if a = s ∧ b = n then up f i v else lkR h.1 r a b
  by_cases q : a = s ∧ b = n
  · rw [if_pos q, if_pos q]
  · rw [if_neg q, if_neg q, if_neg q]
theorem withR_sI {h : MH} {s n t m i : Nat} {f : Nat → Int32} {r r2 : RW} {v : Int32} (q : ¬ (t = s ∧ m = n)) (e : sI (withR h r) t m i v = withR h r2) : sI (withR h ((s, n, f) :: r)) t m i v = withR h ((s, n, f) :: r2) := by
  have e1 := congrArg (fun z => z.1) e
  have e2 : ∀ a b, (if a = t ∧ b = m then up (hI (withR h r) t m) i v else hI (withR h r) a b) = lkR h.1 r2 a b := by
    intro a b
    have := congrFun (congrFun e1 a) b
    rw [sI_ext] at this
    exact this
  rw [sI_ext, withR_miss q]
  refine congrArg (fun z => (z, h.2)) ?_
  funext a b
  show (if a = t ∧ b = m then up (hI (withR h r) t m) i v else (if a = s ∧ b = n then f else lkR h.1 r a b)) = if a = s ∧ b = n then f else lkR h.1 r2 a b
  by_cases c1 : a = s ∧ b = n
  · rw [if_pos c1, if_pos c1, if_neg (fun z => q ⟨by rw [← z.1, c1.1], by rw [← z.2, c1.2]⟩)]
  · rw [if_neg c1, if_neg c1]
    exact e2 a b
theorem withR_id {h : MH} : ∀ {l : RW}, (∀ q ∈ l, q.2.2 = hI h q.1 q.2.1) → withR h l = h
  | [], _ => rfl
  | (s, n, f) :: r, hl => by
    have ih := withR_id (h := h) (l := r) (fun q hq => hl q (List.mem_cons_of_mem _ hq))
    have ef : f = hI h s n := hl (s, n, f) List.mem_cons_self
    have e1 : ∀ a b, lkR h.1 r a b = h.1 a b := fun a b => congrFun (congrFun (congrArg (fun z => z.1) ih) a) b
    show (_, h.2) = h
    refine Eq.trans (congrArg (fun z => (z, h.2)) ?_) (show (h.1, h.2) = h from rfl)
    funext a b
    show (if a = s ∧ b = n then f else lkR h.1 r a b) = h.1 a b
    split
    · rename_i c; rw [c.1, c.2, ef]; rfl
    · exact e1 a b
theorem withR_Upd {W : List (Nat × Nat)} {h : MH} : ∀ {l : RW}, (∀ q ∈ l, (q.1, q.2.1) ∈ W) → Upd W h (withR h l)
  | [], _ => Upd.rf W h
  | (s, n, f) :: r, hl => by
    have ih := withR_Upd (W := W) (h := h) (l := r) (fun q hq => hl q (List.mem_cons_of_mem _ hq))
    refine ⟨rfl, fun a b hab => ?_⟩
    rw [withR_miss (fun z => hab (by rw [z.1, z.2]; exact hl (s, n, f) List.mem_cons_self))]
    exact ih.2 a b hab
theorem nI_m1 (n : Nat) : nI (n + 1) + (-1) = nI n := by
  have := nI_pred n
  rw [Int32.sub_eq_add_neg] at this
  exact this
/-- the first n places of a row are v -/
def filF (f : Nat → Int32) (v : Int32) (n : Nat) : Nat → Int32 := fun c => if c < n then v else f c
theorem filF_0 (f : Nat → Int32) (v : Int32) : filF f v 0 = f := by funext c; exact if_neg (Nat.not_lt_zero c)
theorem filF_s (f : Nat → Int32) (v : Int32) (n : Nat) : up (filF f v n) n v = filF f v (n + 1) := by
  funext c
  unfold up filF
  by_cases h1 : c = n
  · rw [if_pos h1, if_pos (by omega)]
  · rw [if_neg h1]
    by_cases h2 : c < n
    · rw [if_pos h2, if_pos (by omega)]
    · rw [if_neg h2, if_neg (by omega)]
section Rows
variable {L : Nat} {scr : Nat → Int32} {d : Nat}
theorem c_fill {s o N : Nat} (hr : isRow s 0 = true) (hN : lenOf s = N) (hN2 : N < 2 ^ 31) (v : Int32) (h : MH) : E L scr (d + 1) 339 [vR s o, vI v] h = some (none, withR h [(s, o, filF (hI h s o) v N)]) := by
  refine r_Arrays_fill_1 s o v h (Sm.step ((t_Arrays_fill_1_0 ..).trans (if_pos hr)) ?_)
  rw [hN]
  have key := Sm.for (L := L) (scr := scr) (d := d) (bs := B_Arrays_fill_1) (cs := C_Arrays_fill_1) (t := 1) (lo := fun k => [some (vR s o), some (vI v), some (vI (nI k)), some (vI (nI N))]) (hh := fun k => withR h [(s, o, filF (hI h s o) v k)]) (r := (none, withR h [(s, o, filF (hI h s o) v N)])) N (fun k hk => by
    rw [t_Arrays_fill_1_1, if_neg (nI_ge hk hN2), wr_ok hr hN (oob_nI hk hN2), ix_nI (by omega), withR_set, filF_s, nI_1]) (Sm.ret (by rw [t_Arrays_fill_1_1, if_pos (nI_le (Nat.le_refl _) hN2)]))
  have e0 : withR h [(s, o, filF (hI h s o) v 0)] = h := by
    rw [filF_0]
    exact withR_id (fun q hq => by rw [List.mem_singleton] at hq; subst hq; rfl)
  rw [e0] at key
  exact key
def rainP (sd sf st : Nat → Int32) (x y : Int32) (k : Nat) : Bool := decide (sd k = x ∧ sf k ≤ y ∧ y ≤ st k)
theorem c_River_rains {o n : Nat} (x y : Int32) {h : MH} (hn : n ≤ 40) (e : hI h 801 o 0 = nI n) : E L scr (d + 1) 95 [vR 900007 o, vI x, vI y] h = some (some (vI (zb (anyB (rainP (hI h 802000040 o) (hI h 803000040 o) (hI h 804000040 o) x y) n))), h) := by
  refine r_River_rains o x y h (Sm.step (t_River_rains_0 ..) ?_)
  rw [← ffst_any]
  refine Sm.find (lo := fun k => [some (vR 900007 o), some (vI x), some (vI y), some (vI (nI k))]) (hh := fun _ => h) (r := fun q => (some (vI (zb q.isSome)), h)) _ n (fun k hk hp => ?_) (fun k hk hp _ => Sm.ret ?_) (fun _ => Sm.ret ?_)
  · have hp := of_decide_eq_false hp
    rw [t_River_rains_1, e, if_neg (nI_ge hk (by omega)), rd_River_spellDay (oob_nI (by omega) (by decide)), ix_nI (by omega)]
    by_cases h1 : hI h 802000040 o k = x
    · rw [if_pos h1, rd_River_spellFrom (oob_nI (by omega) (by decide)), ix_nI (by omega)]
      by_cases h2 : y < hI h 803000040 o k
      · rw [if_pos h2, nI_1]
      · rw [if_neg h2, rd_River_spellTo (oob_nI (by omega) (by decide)), ix_nI (by omega)]
        by_cases h3 : hI h 804000040 o k < y
        · rw [if_pos h3, nI_1]
        · exact absurd ⟨h1, nlt_i.mp h2, nlt_i.mp h3⟩ hp
    · rw [if_neg h1, nI_1]
  · have hp := of_decide_eq_true hp
    rw [t_River_rains_1, e, if_neg (nI_ge hk (by omega)), rd_River_spellDay (oob_nI (by omega) (by decide)), ix_nI (by omega), if_pos hp.1, rd_River_spellFrom (oob_nI (by omega) (by decide)), ix_nI (by omega), if_neg (nlt_i.mpr hp.2.1), rd_River_spellTo (oob_nI (by omega) (by decide)), ix_nI (by omega), if_neg (nlt_i.mpr hp.2.2), rtZ1]
    rfl
  · rw [t_River_rains_1, e, if_pos (nI_le (Nat.le_refl _) (by omega)), rtZ0]
    rfl
theorem c_M_rains {n : Nat} (x y : Int32) {h : MH} (hn : n ≤ 40) (e : hI h 1326 0 0 = nI n) : E L scr (d + 2) 237 [vR 900012 0, vI x, vI y] h = some (some (vI (zb (anyB (rainP (hI h 1332000040 0) (hI h 1333000040 0) (hI h 1334000040 0) x y) n))), h) := by
  refine r_M_rains 0 x y h (Sm.step (t_M_rains_0 ..) ?_)
  refine Sm.for (lo := fun k => [some (vR 900012 0), some (vI x), some (vI y), some (vI (zb (anyB (rainP (hI h 1332000040 0) (hI h 1333000040 0) (hI h 1334000040 0) x y) k))), some (vI (nI k))]) (hh := fun _ => h) n (fun k hk => ?_) (Sm.ret ?_)
  · rw [t_M_rains_1, e, if_neg (nI_ge hk (by omega))]
    show _ = some (Sum.inl (1, [some (vR 900012 0), some (vI x), some (vI y), some (vI (zb (anyB (rainP (hI h 1332000040 0) (hI h 1333000040 0) (hI h 1334000040 0) x y) k || rainP (hI h 1332000040 0) (hI h 1333000040 0) (hI h 1334000040 0) x y k))), some (vI (nI (k + 1)))], [], h))
    cases ha : anyB (rainP (hI h 1332000040 0) (hI h 1333000040 0) (hI h 1334000040 0) x y) k with
    | true => rw [if_neg (by decide), Bool.true_or, nI_1]; rfl
    | false =>
      rw [if_pos (by decide), Bool.false_or, rd_M_spellDay (oob_nI (by omega) (by decide)), ix_nI (by omega)]
      unfold rainP
      by_cases h1 : hI h 1332000040 0 k = x
      · rw [if_pos h1, rd_M_spellFrom (oob_nI (by omega) (by decide)), ix_nI (by omega), rd_M_spellTo (oob_nI (by omega) (by decide)), ix_nI (by omega), c_M_isIn, clI_ok]
        unfold inB
        by_cases h2 : hI h 1333000040 0 k ≤ y ∧ y ≤ hI h 1334000040 0 k
        · rw [decide_eq_true h2, decide_eq_true (show _ ∧ _ from ⟨h1, h2⟩), if_neg (by decide), nI_1]; rfl
        · rw [decide_eq_false h2, decide_eq_false (fun z => h2 z.2), if_pos (by decide), nI_1]; rfl
      · rw [if_neg h1, decide_eq_false (fun z => h1 z.1), nI_1]; rfl
  · rw [t_M_rains_1, e, if_pos (nI_le (Nat.le_refl _) (by omega)), rtZ_ok]
/-- days since the last cut, back from a day -/
def wkF (c : Nat → Int32) : Nat → Nat
  | 0 => 0
  | k + 1 => if c (k + 1) = 0 then wkF c k + 1 else 0
def weedF (r : Int32) (w : Nat) : Int32 := if 999 < r * nI w then 999 else r * nI w
theorem min_swap (x y : Int32) : (if x < y then x else y) = if y < x then y else x := by
  by_cases h1 : x < y
  · by_cases h2 : y < x
    · rw [Int32.lt_iff_toInt_lt] at h1 h2; omega
    · rw [if_pos h1, if_neg h2]
  · by_cases h2 : y < x
    · rw [if_neg h1, if_pos h2]
    · rw [if_neg h1, if_neg h2]
      rw [Int32.lt_iff_toInt_lt] at h1 h2
      exact Int32.toInt_inj.mp (by omega)
theorem wk_le (c : Nat → Int32) : ∀ k, wkF c k ≤ k
  | 0 => Nat.le_refl _
  | k + 1 => by
    unfold wkF
    split
    · exact Nat.succ_le_succ (wk_le c k)
    · exact Nat.zero_le _
theorem c_River_weedOf {o k : Nat} (hk : k < 100) (h : MH) : E L scr (d + 2) 97 [vR 900007 o, vI (nI k)] h = some (some (vI (weedF (hI h 805 o 0) (wkF (hI h 806000100 o) k))), h) := by
  refine r_River_weedOf o _ h (Sm.step (t_River_weedOf_0 ..) ?_)
  have fin : ∀ j : Nat, (clI (E L scr (d + 1) 337 [vI (hI h 805 o 0 * nI j), vI 999] h) (fun x2 h1 => some (.inr (some (vI x2), h1))) : Option Exit) = some (.inr (some (vI (weedF (hI h 805 o 0) j)), h)) := by
    intro j
    rw [c_min, clI_ok]
    rfl
  have key : ∀ (e j : Nat), e < 100 → Sm L scr (d + 1) B_River_weedOf C_River_weedOf 1 [some (vR 900007 o), some (vI (nI k)), some (vI (nI j)), some (vI (nI e))] [] h (some (vI (weedF (hI h 805 o 0) (j + wkF (hI h 806000100 o) e))), h) := by
    intro e
    induction e with
    | zero =>
      intro j _
      refine Sm.ret ?_
      rw [t_River_weedOf_1, if_pos (by decide)]
      exact fin j
    | succ e ih =>
      intro j he
      by_cases hc : hI h 806000100 o (e + 1) = 0
      · refine Sm.step (t' := 1) (lo' := [some (vR 900007 o), some (vI (nI k)), some (vI (nI (j + 1))), some (vI (nI e))]) (st' := []) (h' := h) ?_ ?_
        · rw [t_River_weedOf_1, if_neg (nI_nle (by omega) (by omega)), rd_River_cuts (oob_nI he (by decide)), ix_nI (by omega), if_pos hc, nI_1, nI_m1]
        · have := ih (j + 1) (by omega)
          rw [show wkF (hI h 806000100 o) (e + 1) = wkF (hI h 806000100 o) e + 1 from if_pos hc, show j + (wkF (hI h 806000100 o) e + 1) = j + 1 + wkF (hI h 806000100 o) e by omega]
          exact this
      · refine Sm.ret ?_
        rw [t_River_weedOf_1, if_neg (nI_nle (by omega) (by omega)), rd_River_cuts (oob_nI he (by decide)), ix_nI (by omega), if_neg hc, show wkF (hI h 806000100 o) (e + 1) = 0 from if_neg hc]
        exact fin j
  have := key k 0 hk
  rw [Nat.zero_add] at this
  exact this
theorem c_M_weedOn {k : Nat} (hk : k < 100) (h : MH) : E L scr (d + 2) 240 [vR 900012 0, vI (nI k)] h = some (some (vI (weedF (hI h 1327 0 0) (wkF (hI h 1331000100 0) k))), h) := by
  refine r_M_weedOn 0 _ h (Sm.step (t_M_weedOn_0 ..) ?_)
  have fin : ∀ j : Nat, j ≤ k → (clI (E L scr (d + 1) 337 [vI 999, vI (hI h 1327 0 0 * (nI k - nI j))] h) (fun x2 h1 => some (.inr (some (vI x2), h1))) : Option Exit) = some (.inr (some (vI (weedF (hI h 1327 0 0) (k - j))), h)) := by
    intro j hj
    rw [c_min, clI_ok, nI_sub hj, min_swap]
    rfl
  have key : ∀ (e : Nat), e ≤ k → Sm L scr (d + 1) B_M_weedOn C_M_weedOn 1 [some (vR 900012 0), some (vI (nI k)), some (vI (nI e))] [] h (some (vI (weedF (hI h 1327 0 0) (k - e + wkF (hI h 1331000100 0) e))), h) := by
    intro e
    induction e with
    | zero =>
      intro _
      refine Sm.ret ?_
      rw [t_M_weedOn_1, if_pos (by decide)]
      exact fin 0 (Nat.zero_le _)
    | succ e ih =>
      intro he
      by_cases hc : hI h 1331000100 0 (e + 1) = 0
      · refine Sm.step (t' := 1) (lo' := [some (vR 900012 0), some (vI (nI k)), some (vI (nI e))]) (st' := []) (h' := h) ?_ ?_
        · rw [t_M_weedOn_1, if_neg (nI_nle (by omega) (by omega)), rd_M_cutOn (oob_nI (by omega) (by decide)), ix_nI (by omega), if_pos hc, nI_m1]
        · have := ih (by omega)
          rw [show wkF (hI h 1331000100 0) (e + 1) = wkF (hI h 1331000100 0) e + 1 from if_pos hc, show k - (e + 1) + (wkF (hI h 1331000100 0) e + 1) = k - e + wkF (hI h 1331000100 0) e by omega]
          exact this
      · refine Sm.ret ?_
        rw [t_M_weedOn_1, if_neg (nI_nle (by omega) (by omega)), rd_M_cutOn (oob_nI (by omega) (by decide)), ix_nI (by omega), if_neg hc, show wkF (hI h 1331000100 0) (e + 1) = 0 from if_neg hc]
        exact fin (e + 1) he
  have := key k (Nat.le_refl _)
  rw [Nat.sub_self, Nat.zero_add] at this
  exact this
end Rows
theorem Sm.iter {L : Nat} {scr : Nat → Int32} {d : Nat} {bs : List Blk} {cs : List Nat} {t : Nat} {lo : Nat → List (Option MV)} {hh : Nat → MH} {r : RT} : ∀ (n : Nat), (∀ k, k < n → Sm L scr d bs cs t (lo (k + 1)) [] (hh (k + 1)) r → Sm L scr d bs cs t (lo k) [] (hh k) r) → Sm L scr d bs cs t (lo n) [] (hh n) r → Sm L scr d bs cs t (lo 0) [] (hh 0) r
  | 0, _, e => e
  | n + 1, s, e => Sm.iter n (fun k hk => s k (Nat.lt_succ_of_lt hk)) (s n (Nat.lt_succ_self n) e)

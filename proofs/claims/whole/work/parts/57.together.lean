/-! CALL: together -/
theorem anyB_trunc {p q : Nat → Bool} {m : Nat} : ∀ {n : Nat}, m ≤ n → (∀ k, k < m → p k = q k) → (∀ k, m ≤ k → k < n → q k = false) → anyB q n = anyB p m
  | 0, h, _, _ => by have : m = 0 := by omega
                     rw [this]; rfl
  | n + 1, h, h1, h2 => by
    rcases Nat.lt_or_ge n m with c | c
    · have : m = n + 1 := by omega
      subst this
      exact anyB_congr (fun k hk => (h1 k hk).symm)
    · show (anyB q n || q n) = _
      rw [h2 n c (Nat.lt_succ_self n), Bool.or_false]
      exact anyB_trunc c h1 (fun k k1 k2 => h2 k k1 (by omega))
/-- places a .. b-1 of a row with a bit more -/
def orO (f : Nat → Int32) (a : Nat) (v : Int32) (b : Nat) : Nat → Int32 := fun c => if a ≤ c ∧ c < b then f c ||| v else f c
theorem orO_0 {f : Nat → Int32} {a b : Nat} {v : Int32} (h : b ≤ a) : orO f a v b = f := by funext c; exact if_neg (by omega)
theorem orO_at {f : Nat → Int32} {a b : Nat} {v : Int32} : orO f a v b b = f b := if_neg (by omega)
theorem orO_s {f : Nat → Int32} {a b : Nat} {v : Int32} (h : a ≤ b) : up (orO f a v b) b (f b ||| v) = orO f a v (b + 1) := by
  funext c
  unfold up orO
  by_cases h1 : c = b
  · rw [if_pos h1, if_pos (by omega), h1]
  · rw [if_neg h1]
    by_cases h2 : a ≤ c ∧ c < b
    · rw [if_pos h2, if_pos (by omega)]
    · rw [if_neg h2, if_neg (by omega)]
/-- a row after the first i hires have marked it -/
def rowM (f : Nat → Int32) (v : Int32) (p : Nat → Nat → Bool) (i : Nat) : Nat → Int32 := fun j => if j < 720 ∧ anyB (p j) i = true then f j ||| v else f j
theorem rowM_0 {f : Nat → Int32} {v : Int32} {p : Nat → Nat → Bool} : rowM f v p 0 = f := by funext j; exact if_neg (fun z => by cases z.2)
theorem rowM_s {f : Nat → Int32} {v : Int32} {p : Nat → Nat → Bool} {i a b : Nat} (h : ∀ j, (a ≤ j ∧ j < b) ↔ (j < 720 ∧ p j i = true)) : orO (rowM f v p i) a v b = rowM f v p (i + 1) := by
  funext j
  unfold orO rowM
  have e : anyB (p j) (i + 1) = (anyB (p j) i || p j i) := rfl
  rw [e]
  by_cases c : a ≤ j ∧ j < b
  · have c2 := (h j).mp c
    rw [if_pos c, if_pos (show j < 720 ∧ (anyB (p j) i || p j i) = true from ⟨c2.1, by rw [c2.2, Bool.or_true]⟩)]
    by_cases c3 : j < 720 ∧ anyB (p j) i = true
    · rw [if_pos c3, Int32.or_assoc, Int32.or_self]
    · rw [if_neg c3]
  · rw [if_neg c]
    by_cases c3 : j < 720 ∧ anyB (p j) i = true
    · rw [if_pos c3, if_pos ⟨c3.1, by rw [c3.2]; rfl⟩]
    · rw [if_neg c3, if_neg (fun z => by
        rcases Bool.or_eq_true _ _ ▸ z.2 with q | q
        · exact c3 ⟨z.1, q⟩
        · exact c ((h j).mpr ⟨z.1, q⟩))]
section Together
variable {L : Nat} {scr : Nat → Int32} {d : Nat}
/-- whether the i-th hire is who's and away at x -/
def whoB (wo oa B : Nat → Int32) (w : Int32) (x : Int32) (i : Nat) : Bool := decide (wo i = w) && awayB oa B x i
theorem c_markOut {g : MH} {m day : Nat} {B oa wo ro : Nat → Int32} (w v : Int32) (hm : m ≤ 120) (hd : day < 100) (em : hI g 1101 0 0 = nI m) (eB : hI g 1102000120 0 = B) (eo : hI g 205000120 0 = oa) (ew : hI g 204000120 0 = wo) (ho : ∀ i, i < m → ∃ a, a < 72000 ∧ oa i = nI a ∧ (B i = -1 ∨ ∃ b, B i = nI b ∧ b < 72000)) : E L scr (d + 2) 119 [vR 900010 0, vI w, vI v, vI (nI day), vR 1213002304 0] (withR g [(1213002304, 0, ro)]) = some (none, withR g [(1213002304, 0, rowM ro v (fun j => whoB wo oa B w (nI (720 * day + j))) m)]) := by
  obtain ⟨p, hp⟩ : ∃ p : Nat → Nat → Bool, p = fun j => whoB wo oa B w (nI (720 * day + j)) := ⟨_, rfl⟩
  rw [← hp]
  obtain ⟨hh, hhh⟩ : ∃ hh : (Nat → Int32) → MH, hh = fun r => withR g [(1213002304, 0, r)] := ⟨_, rfl⟩
  have hm1 : ∀ r s, s ≠ 1213002304 → hI (hh r) s 0 = hI g s 0 := fun r s hs => by rw [hhh]; show hI (withR g [(_, 0, r)]) s 0 = _; rw [withR_miss (fun z => hs z.1)]; rfl
  have hwk : ∀ r, hI (hh r) 1213002304 0 = r := fun r => by rw [hhh]; exact withR_hit
  have hset : ∀ r i x, sI (hh r) 1213002304 0 i x = hh (up r i x) := fun r i x => by rw [hhh]; exact withR_set
  have eh : ∀ r, withR g [(1213002304, 0, r)] = hh r := fun r => by rw [hhh]
  rw [eh, eh]
  have e5 : nI day * 720 = nI (720 * day) := by rw [show (720 : Int32) = nI 720 from rfl, nI_mul, Nat.mul_comm]
  have e6 : nI (720 * day) + 720 = nI (720 * day + 720) := nI_add _ 720
  have Q : ∀ i, i ≤ m → ∃ z8 z9 z10 : Option MV, ∀ r, Sm L scr (d + 1) B_View_markOut C_View_markOut 1 [some (vR 900010 0), some (vI w), some (vI v), some (vI (nI day)), some (vR 1213002304 0), some (vI (nI (720 * day))), some (vI (nI (720 * day + 720))), some (vI (nI i)), z8, z9, z10] [] (hh (rowM ro v p i)) r → Sm L scr (d + 1) B_View_markOut C_View_markOut 1 [some (vR 900010 0), some (vI w), some (vI v), some (vI (nI day)), some (vR 1213002304 0), some (vI (nI (720 * day))), some (vI (nI (720 * day + 720))), some (vI 0), none, none, none] [] (hh ro) r := by
    intro i
    induction i with
    | zero => exact fun _ => ⟨none, none, none, fun r kk => by rw [rowM_0] at kk; exact kk⟩
    | succ i ih =>
      intro hi
      obtain ⟨z8, z9, z10, k1⟩ := ih (by omega)
      have ob : ¬ oob (nI i) 120 := oob_nI (by omega) (by decide)
      have i31 : i < 2 ^ 31 := by omega
      obtain ⟨a, ha, ea, hb⟩ := ho i (by omega)
      by_cases cw : wo i = w
      · -- from and until
        obtain ⟨u, hu, hu2, ku⟩ : ∃ u, u ≤ 720 * day + 720 ∧ (∀ j, (awayB oa B (nI (720 * day + j)) i = true ∧ j < 720) ↔ (a ≤ 720 * day + j ∧ 720 * day + j < u)) ∧ dn L scr (E L scr (d + 1)) B_View_markOut C_View_markOut 1 [some (vR 900010 0), some (vI w), some (vI v), some (vI (nI day)), some (vR 1213002304 0), some (vI (nI (720 * day))), some (vI (nI (720 * day + 720))), some (vI (nI i)), z8, z9, z10] [] (hh (rowM ro v p i)) = some (Sum.inl (4, [some (vR 900010 0), some (vI w), some (vI v), some (vI (nI day)), some (vR 1213002304 0), some (vI (nI (720 * day))), some (vI (nI (720 * day + 720))), some (vI (nI i)), some (vI (nI (max a (720 * day)))), some (vI (nI u)), some (vI (nI (max a (720 * day))))], [], hh (rowM ro v p i))) := by
          have pre : ∀ {X : Option ((Nat × List (Option MV) × List MV × MH) ⊕ RT)}, clI (E L scr (d + 1) 110 [vR 900010 0, vI (nI i)] (hh (rowM ro v p i))) (fun x6 h5 => if x6 = (0 : Int32) then some (.inl (4, [some (vR 900010 0), some (vI w), some (vI v), some (vI (nI day)), some (vR 1213002304 0), some (vI (nI (720 * day))), some (vI (nI (720 * day + 720))), some (vI (nI i)), some (vI (nI (max a (720 * day)))), some (vI (nI (720 * day + 720))), some (vI (nI (max a (720 * day))))], [], h5)) else rdI 0 h5 1102000120 0 (nI i) (fun x7 => clI (E L scr (d + 1) 337 [vI x7, vI (nI (720 * day + 720))] h5) (fun x9 h8 => some (.inl (4, [some (vR 900010 0), some (vI w), some (vI v), some (vI (nI day)), some (vR 1213002304 0), some (vI (nI (720 * day))), some (vI (nI (720 * day + 720))), some (vI (nI i)), some (vI (nI (max a (720 * day)))), some (vI x9), some (vI (nI (max a (720 * day))))], [], h8))))) = X → dn L scr (E L scr (d + 1)) B_View_markOut C_View_markOut 1 [some (vR 900010 0), some (vI w), some (vI v), some (vI (nI day)), some (vR 1213002304 0), some (vI (nI (720 * day))), some (vI (nI (720 * day + 720))), some (vI (nI i)), z8, z9, z10] [] (hh (rowM ro v p i)) = X := by
            intro X hX
            rw [t_View_markOut_1, hm1 _ 1101 (by decide), em, if_neg (nI_ge (by omega) (by omega)), rd_Book_whoOf ob, ix_nI i31, hm1 _ 204000120 (by decide), ew, if_pos cw, rd_Book_outAt ob, ix_nI i31, hm1 _ 205000120 (by decide), eo, ea, c_max, clI_ok, max_nI (by omega) (by omega)]
            exact hX
          have aw : ∀ j, awayB oa B (nI (720 * day + j)) i = true ↔ (nI a ≤ nI (720 * day + j) ∧ (B i = -1 ∨ nI (720 * day + j) < B i)) := fun j => by
            unfold awayB
            rw [ea]
            exact ⟨fun z => of_decide_eq_true z, fun z => decide_eq_true z⟩
          by_cases cB : B i = -1
          · refine ⟨720 * day + 720, Nat.le_refl _, fun j => ?_, ?_⟩
            · constructor
              · rintro ⟨h1, h2⟩
                have := (nI_leI (by omega) (by omega)).mp ((aw j).mp h1).1
                omega
              · rintro ⟨h1, h2⟩
                exact ⟨(aw j).mpr ⟨nI_le h1 (by omega), Or.inl cB⟩, by omega⟩
            · apply pre
              rw [c_isBack (by omega), clI_ok, hm1 _ 1102000120 (by decide), eB, decide_eq_true cB, Bool.not_true, itF]
          · rcases hb with q | ⟨b, eb, hb2⟩
            · exact absurd q cB
            · refine ⟨min b (720 * day + 720), Nat.min_le_right _ _, fun j => ?_, ?_⟩
              · constructor
                · rintro ⟨h1, h2⟩
                  have h3 := (aw j).mp h1
                  have h4 := (nI_leI (by omega) (by omega)).mp h3.1
                  rcases h3.2 with q | q
                  · exact absurd q cB
                  · rw [eb] at q
                    have := (nI_ltI (by omega) (by omega)).mp q
                    omega
                · rintro ⟨h1, h2⟩
                  refine ⟨(aw j).mpr ⟨nI_le h1 (by omega), Or.inr ?_⟩, by omega⟩
                  rw [eb]
                  exact nI_lt (by omega) (by omega)
              · apply pre
                rw [c_isBack (by omega), clI_ok, hm1 _ 1102000120 (by decide), eB, decide_eq_false cB, Bool.not_false, itT, rd_View_backAt ob, ix_nI i31, hm1 _ 1102000120 (by decide), eB, eb, c_min, clI_ok, min_nI (by omega) (by omega)]
        obtain ⟨s, hs⟩ : ∃ s, s = max a (720 * day) - 720 * day := ⟨_, rfl⟩
        have hs2 : max a (720 * day) = 720 * day + s := by omega
        obtain ⟨N, hN⟩ : ∃ N, N = u - (720 * day + s) := ⟨_, rfl⟩
        have fin : orO (rowM ro v p i) s v (s + N) = rowM ro v p (i + 1) := by
          refine rowM_s (fun j => ?_)
          have k := hu2 j
          have pj : p j i = awayB oa B (nI (720 * day + j)) i := by
            rw [hp]
            show (decide (wo i = w) && awayB oa B (nI (720 * day + j)) i) = _
            rw [decide_eq_true cw, Bool.true_and]
          rw [pj]
          constructor
          · intro q
            have := k.mpr (by omega)
            exact ⟨this.2, this.1⟩
          · intro q
            have := k.mp ⟨q.2, q.1⟩
            omega
        refine ⟨some (vI (nI (720 * day + s))), some (vI (nI u)), some (vI (nI (720 * day + s + N))), fun r kk => k1 r (Sm.step ku ?_)⟩
        rw [hs2]
        have r0 : rowM ro v p i = orO (rowM ro v p i) s v (s + 0) := (orO_0 (by omega)).symm
        have key := Sm.for (L := L) (scr := scr) (d := d + 1) (bs := B_View_markOut) (cs := C_View_markOut) (t := 4) (lo := fun k => [some (vR 900010 0), some (vI w), some (vI v), some (vI (nI day)), some (vR 1213002304 0), some (vI (nI (720 * day))), some (vI (nI (720 * day + 720))), some (vI (nI i)), some (vI (nI (720 * day + s))), some (vI (nI u)), some (vI (nI (720 * day + s + k)))]) (hh := fun k => hh (orO (rowM ro v p i) s v (s + k))) (r := r) N (fun k hk => by
          have ix : nI (720 * day + s + k) - nI (720 * day) = nI (s + k) := by
            rw [nI_sub (by omega)]; exact congrArg nI (by omega)
          have o1 : ¬ oob (nI (s + k)) 2304 := oob_nI (by omega) (by decide)
          rw [t_View_markOut_4, if_neg (nI_ge (by omega) (by omega)), ix, rd_P_work o1, wr_P_work o1, ix_nI (by omega), hwk, orO_at, hset, orO_s (by omega), nI_1]
          rfl) (Sm.step (t' := 1) (lo' := [some (vR 900010 0), some (vI w), some (vI v), some (vI (nI day)), some (vR 1213002304 0), some (vI (nI (720 * day))), some (vI (nI (720 * day + 720))), some (vI (nI (i + 1))), some (vI (nI (720 * day + s))), some (vI (nI u)), some (vI (nI (720 * day + s + N)))]) (st' := []) (h' := hh (rowM ro v p (i + 1))) (by
            rw [t_View_markOut_4, if_pos (nI_le (by omega) (by omega)), nI_1, fin]) kk)
        show Sm L scr (d + 1) B_View_markOut C_View_markOut 4 [some (vR 900010 0), some (vI w), some (vI v), some (vI (nI day)), some (vR 1213002304 0), some (vI (nI (720 * day))), some (vI (nI (720 * day + 720))), some (vI (nI i)), some (vI (nI (720 * day + s))), some (vI (nI u)), some (vI (nI (720 * day + s + 0)))] [] (hh (rowM ro v p i)) r
        rw [r0]
        exact key
      · refine ⟨z8, z9, z10, fun r kk => k1 r (Sm.step ?_ kk)⟩
        have fin : rowM ro v p i = rowM ro v p (i + 1) := by
          rw [← rowM_s (a := 0) (b := 0) (fun j => ?_)]
          · exact (orO_0 (Nat.le_refl _)).symm
          · constructor
            · intro q; omega
            · intro q
              have : p j i = false := by rw [hp]; show (decide (wo i = w) && _) = false; rw [decide_eq_false cw]; rfl
              rw [this] at q
              cases q.2
        rw [t_View_markOut_1, hm1 _ 1101 (by decide), em, if_neg (nI_ge (by omega) (by omega)), rd_Book_whoOf ob, ix_nI i31, hm1 _ 204000120 (by decide), ew, if_neg cw, nI_1, ← fin]
  obtain ⟨z8, z9, z10, k1⟩ := Q m (Nat.le_refl _)
  refine r_View_markOut _ _ _ _ _ _ _ (Sm.step (t' := 1) (lo' := [some (vR 900010 0), some (vI w), some (vI v), some (vI (nI day)), some (vR 1213002304 0), some (vI (nI (720 * day))), some (vI (nI (720 * day + 720))), some (vI 0), none, none, none]) (st' := []) (h' := hh ro) (by rw [t_View_markOut_0, e5, e6]) (k1 _ (Sm.ret ?_)))
  rw [t_View_markOut_1, hm1 _ 1101 (by decide), em, if_pos (nI_le (Nat.le_refl _) (by omega))]
theorem c_M_hasOut {f : MH} {n : Nat} (hn : n ≤ 120) (w x : Int32) (en : hI f 1336 0 0 = nI n) : E L scr (d + 3) 282 [vR 900012 0, vI w, vI x] f = some (some (vI (zb (anyB (fun i => decide (hI f 1340000120 0 i = w) && (decide (hI f 1343000120 0 i ≤ hI f 1354 0 0) && awayB (hI f 1341000120 0) (hI f 1350000120 0) x i)) n))), f) := by
  obtain ⟨p, hp⟩ : ∃ p : Nat → Bool, p = fun i => decide (hI f 1340000120 0 i = w) && (decide (hI f 1343000120 0 i ≤ hI f 1354 0 0) && awayB (hI f 1341000120 0) (hI f 1350000120 0) x i) := ⟨_, rfl⟩
  rw [← hp]
  refine r_M_hasOut _ _ _ _ (Sm.step (t' := 1) (lo' := [some (vR 900012 0), some (vI w), some (vI x), some (vI 0), some (vI 0)]) (st' := []) (h' := f) (t_M_hasOut_0 ..) ?_)
  refine Sm.for (lo := fun k => [some (vR 900012 0), some (vI w), some (vI x), some (vI (zb (anyB p k))), some (vI (nI k))]) (hh := fun _ => f) n (fun k hk => ?_) (Sm.ret ?_)
  · have e : anyB p (k + 1) = (anyB p k || p k) := rfl
    have pk : p k = (decide (hI f 1340000120 0 k = w) && (decide (hI f 1343000120 0 k ≤ hI f 1354 0 0) && awayB (hI f 1341000120 0) (hI f 1350000120 0) x k)) := by rw [hp]
    rw [t_M_hasOut_1, en, if_neg (nI_ge hk (by omega)), nI_1, e]
    cases anyB p k with
    | true => rw [itT, Bool.true_or]; rfl
    | false =>
      rw [itF, rd_M_whoOf (oob_nI (by omega) (by decide)), ix_nI (by omega), Bool.false_or, pk]
      by_cases c : hI f 1340000120 0 k = w
      · rw [if_pos c, c_M_isOut (by omega), clI_ok, decide_eq_true c, Bool.true_and]
        cases (decide (hI f 1343000120 0 k ≤ hI f 1354 0 0) && awayB (hI f 1341000120 0) (hI f 1350000120 0) x k) with
        | true => rw [itT]; rfl
        | false => rw [itF]; rfl
      · rw [if_neg c, decide_eq_false c, Bool.false_and]; rfl
  · rw [t_M_hasOut_1, en, if_pos (nI_le (Nat.le_refl _) (by omega)), rtZ_ok]
end Together

/-! LAWS read, on the class's side -/
theorem setN_R {S : LSt} {i x : Nat} : (setN S i x).2.1 = S.2.1 := rfl
theorem bd_i {A B : Type} {x : A ⊕ Nat} {f : A → B ⊕ Nat} {b : B} (h : bdP x f = .inl b) : ∃ a, x = .inl a ∧ f a = .inl b := by
  cases x with
  | inl a => exact ⟨a, rfl, h⟩
  | inr g => cases h
theorem pNum_i {lo hi : Nat} {l r : List (Nat × Nat)} {x : Nat} (h : pNum lo hi l = .inl (r, x)) : lo ≤ x ∧ x ≤ hi := by
  cases l with
  | nil => cases h
  | cons y l =>
    obtain ⟨t, g⟩ := y
    replace h : (if isNm lo hi t = true then (.inl (l, t - 1000) : (List (Nat × Nat) × Nat) ⊕ Nat) else .inr g) = .inl (r, x) := h
    by_cases n : isNm lo hi t = true
    · rw [if_pos n] at h
      injection h with h; injection h with h1 h2
      have := of_decide_eq_true n
      omega
    · rw [if_neg n] at h; cases h
theorem LB.set {f : Nat → Nat} {i x : Nat} (q : LB f) (h1 : x ≤ 999) (h2 : 4 ≤ i → i < 8 → 1 ≤ x ∧ x ≤ 240) (h3 : i = 13 → 1 ≤ x) (h4 : i = 15 → x ≤ 100) : LB (upN f i x) := by
  obtain ⟨q1, q2, q3, q4⟩ := q
  refine ⟨fun j => ?_, fun j hj => ?_, ?_, ?_⟩
  · unfold upN; split
    · exact h1
    · exact q1 j
  · unfold upN; split
    · exact h2 (by omega) (by omega)
    · exact q2 j hj
  · unfold upN; split
    · exact h3 (by omega)
    · exact q3
  · unfold upN; split
    · exact h4 (by omega)
    · exact q4
/-- numbers stay in their bounds, rules are one more at most -/
theorem pRule_ok {S S2 : LSt} {l r : List (Nat × Nat)} (hl : LB S.1) (h : pRule S l = .inl (r, S2)) : LB S2.1 ∧ S2.2.1 ≤ S.2.1 + 1 := by
  have fin : ∀ {T : LSt} {l2 : List (Nat × Nat)}, LB T.1 → T.2.1 ≤ S.2.1 + 1 → (.inl (l2, T) : PR) = .inl (r, S2) → LB S2.1 ∧ S2.2.1 ≤ S.2.1 + 1 := fun a b e => by
    injection e with e; injection e with _ e; rw [← e]; exact ⟨a, b⟩
  cases l with
  | nil => cases h
  | cons y l =>
    obtain ⟨t, g⟩ := y
    replace h : (if t = 8 then pPrice S l else if t = 9 then pBusy S l else if t = 10 then pDeposit S l else if t = 11 then pLate S l else if t = 1 then pOneN 15 100 S l else if t = 12 then pRight S l else if t = 13 then pOneN 16 999 S l else if t = 14 then pHarm S l else if t = 15 then pShutR S l else .inr g) = .inl (r, S2) := h
    by_cases t8 : t = 8
    · rw [if_pos t8] at h
      obtain ⟨a, a1, h⟩ := bd_i h
      obtain ⟨b, b1, h⟩ := bd_i h
      obtain ⟨c, c1, h⟩ := bd_i h
      obtain ⟨e, e1, h⟩ := bd_i h
      have a2 := pNum_i a1
      have b2 := pNum_i b1
      have e2 := pNum_i e1
      exact fin (T := setN (setN S a.2 b.2) (4 + a.2) e.2) (LB.set (LB.set hl (by omega) (by omega) (by omega) (by omega)) (by omega) (by omega) (by omega) (by omega)) (Nat.le_succ _) h
    · rw [if_neg t8] at h
      by_cases t9 : t = 9
      · rw [if_pos t9] at h
        obtain ⟨a, a1, h⟩ := bd_i h
        obtain ⟨b, b1, h⟩ := bd_i h
        obtain ⟨c, c1, h⟩ := bd_i h
        obtain ⟨e, e1, h⟩ := bd_i h
        exact fin (T := addR S 0 e.2 a.2 c.2 _) hl (Nat.le_refl _) h
      · rw [if_neg t9] at h
        by_cases t10 : t = 10
        · rw [if_pos t10] at h
          obtain ⟨a, a1, h⟩ := bd_i h
          obtain ⟨b, b1, h⟩ := bd_i h
          have a2 := pNum_i a1
          have b2 := pNum_i b1
          exact fin (T := setN S (8 + a.2) b.2) (LB.set hl (by omega) (by omega) (by omega) (by omega)) (Nat.le_succ _) h
        · rw [if_neg t10] at h
          by_cases t11 : t = 11
          · rw [if_pos t11] at h
            obtain ⟨a, a1, h⟩ := bd_i h
            obtain ⟨b, b1, h⟩ := bd_i h
            obtain ⟨c, c1, h⟩ := bd_i h
            obtain ⟨e, e1, h⟩ := bd_i h
            obtain ⟨f, f1, h⟩ := bd_i h
            have a2 := pNum_i a1
            have c2 := pNum_i c1
            have f2 := pNum_i f1
            exact fin (T := setN (setN (setN S 12 a.2) 13 c.2) 14 f.2) (LB.set (LB.set (LB.set hl (by omega) (by omega) (by omega) (by omega)) (by omega) (by omega) (by omega) (by omega)) (by omega) (by omega) (by omega) (by omega)) (Nat.le_succ _) h
          · rw [if_neg t11] at h
            by_cases t1 : t = 1
            · rw [if_pos t1] at h
              obtain ⟨a, a1, h⟩ := bd_i h
              have a2 := pNum_i a1
              exact fin (T := setN S 15 a.2) (LB.set hl (by omega) (by omega) (by omega) (by omega)) (Nat.le_succ _) h
            · rw [if_neg t1] at h
              by_cases t12 : t = 12
              · rw [if_pos t12] at h
                obtain ⟨a, a1, h⟩ := bd_i h
                obtain ⟨b, b1, h⟩ := bd_i h
                obtain ⟨c, c1, h⟩ := bd_i h
                have c2 := pNum_i c1
                exact fin (T := setN S (20 + 4 * a.2 + b.2) c.2) (LB.set hl (by omega) (by omega) (by omega) (by omega)) (Nat.le_succ _) h
              · rw [if_neg t12] at h
                by_cases t13 : t = 13
                · rw [if_pos t13] at h
                  obtain ⟨a, a1, h⟩ := bd_i h
                  have a2 := pNum_i a1
                  exact fin (T := setN S 16 a.2) (LB.set hl (by omega) (by omega) (by omega) (by omega)) (Nat.le_succ _) h
                · rw [if_neg t13] at h
                  by_cases t14 : t = 14
                  · rw [if_pos t14] at h
                    obtain ⟨a, a1, h⟩ := bd_i h
                    obtain ⟨l2, p⟩ := a
                    cases l2 with
                    | nil => exact fin (T := addR S 1 p 1 0 (fun _ => true)) hl (Nat.le_refl _) h
                    | cons y l3 =>
                      obtain ⟨t2, g2⟩ := y
                      by_cases c : t2 = 19
                      · subst c
                        obtain ⟨b, b1, h⟩ := bd_i h
                        exact fin (T := addR S 1 p 0 0 b.2) hl (Nat.le_refl _) h
                      · replace h : (match (t2, g2) :: l3 with
                          | (19, _) :: r => bdP (pAny (pOne 8) r) fun c => (.inl (c.1, addR S 1 p 0 0 c.2) : PR)
                          | r => .inl (r, addR S 1 p 1 0 (fun _ => true))) = .inl (r, S2) := h
                        split at h
                        · rename_i y
                          injection y with y1 y2
                          injection y1 with y3 y4
                          exact absurd y3 c
                        · exact fin (T := addR S 1 p 1 0 (fun _ => true)) hl (Nat.le_refl _) h
                  · rw [if_neg t14] at h
                    by_cases t15 : t = 15
                    · rw [if_pos t15] at h
                      obtain ⟨a, a1, h⟩ := bd_i h
                      obtain ⟨b, b1, h⟩ := bd_i h
                      exact fin (T := addR S 2 0 0 0 b.2) hl (Nat.le_refl _) h
                    · rw [if_neg t15] at h; cases h
def rfI : LSt ⊕ Nat → Int32
  | .inl _ => -1
  | .inr g => nI g
/-- one rule with its sign -/
def pStep (S : LSt) (l : List (Nat × Nat)) : PR := bdP (pRule S l) fun x => bdP (pTk 59 x.1) fun r => .inl (r, x.2)
def lawO (k : Nat) (x : PR) : LSt ⊕ Nat := bdP x fun y => pLaw k y.2 y.1
theorem pLaw_4 {k : Nat} {S : LSt} {g : Nat} {r : List (Nat × Nat)} : pLaw k S ((4000, g) :: r) = .inl S := by
  cases k <;> exact if_pos rfl
theorem pLaw_0 {S : LSt} {t g : Nat} {r : List (Nat × Nat)} (h : t ≠ 4000) : pLaw 0 S ((t, g) :: r) = .inr g := if_neg h
theorem pLaw_s {k : Nat} {S : LSt} {t g : Nat} {r : List (Nat × Nat)} (h : t ≠ 4000) : pLaw (k + 1) S ((t, g) :: r) = lawO k (pStep S ((t, g) :: r)) := by
  have e : pLaw (k + 1) S ((t, g) :: r) = bdP (pRule S ((t, g) :: r)) fun x => bdP (pTk 59 x.1) fun r2 => pLaw k x.2 r2 := if_neg h
  rw [e]
  unfold lawO pStep
  cases pRule S ((t, g) :: r) with
  | inr g => rfl
  | inl x =>
    show bdP (pTk 59 x.1) _ = bdP (bdP (pTk 59 x.1) _) _
    cases pTk 59 x.1 <;> rfl
theorem pStep_ok {S S2 : LSt} {l r : List (Nat × Nat)} (hl : LB S.1) (h : pStep S l = .inl (r, S2)) : LB S2.1 ∧ S2.2.1 ≤ S.2.1 + 1 := by
  obtain ⟨a, a1, h⟩ := bd_i h
  obtain ⟨b, b1, h⟩ := bd_i h
  injection h with h; injection h with _ h
  obtain ⟨r1, S1⟩ := a
  subst h
  exact pRule_ok hl a1
abbrev WRx (m : Nat) : List (Nat × Nat) := (701, 0) :: WRu m
section CRead
variable {L : Nat} {scr : Nat → Int32} {d : Nat}
theorem WRu_sz {m : Nat} : (701, 0) ∉ WRu m := by simp [WRu, WOne, WRd, WLw, WAr]
theorem c_take1R {h : MH} {ls : List (Nat × Nat)} {g : Nat} (c : CP h ls (.inr g)) : E L scr (d + 1) 77 [vR 900006 0, vI (-1)] h = some (none, h) := c_takeR c (-1)
theorem rd_end {h : MH} {m b : Nat} {S : LSt} (lw : LwC h m b S) : LwC (sI h 701 0 0 0) m b S := lw.same (fun s hs => hI_rn (fun z => (by decide : ∀ s, s ∈ lwA → s ≠ 701) s hs z.1))
theorem rd_run {ls : List (Nat × Nat)} {m : Nat} (l1 : Int32) : ∀ (k i : Nat) (h : MH) (x : PR), i + k = 40 → (∀ l S, x = .inl (l, S) → LB S.1 ∧ S.2.1 ≤ i) → KO h ls m x → ∃ h2, Sm L scr (d + 31) B_Reader_read C_Reader_read 1 [some (vR 900006 0), some (vI l1), some (vR 900005 m), some (vI (nI i))] [] h (some (vI (rfI (lawO k x))), h2) ∧ Upd (WRx m) h h2 ∧ hI h2 701 0 0 = 0 ∧ (∀ S, lawO k x = .inl S → LB S.1 ∧ ∃ b, LwC h2 m b S) ∧ ∀ g, lawO k x = .inr g → g ≤ 900 := by
  intro k
  induction k with
  | zero =>
    intro i h x hi hx ko
    have l40 : (40 : Int32) ≤ nI i := nI_le (a := 40) (by omega) (by omega)
    have us : Upd (WRx m) h (sI h 701 0 0 0) := (Upd.rf _ h).sI (List.mem_cons_self ..)
    have rs : ∀ g : MH, hI (sI g 701 0 0 0) 701 0 0 = 0 := fun g => by rw [hI_rs, up_s]
    have rr : ∀ g : MH, hI (sI g 701 0 0 0) 705 0 0 = hI g 705 0 0 := fun g => by rw [hI_rn (by decide)]
    cases x with
    | inr g =>
      obtain ⟨c, rf⟩ := ko
      refine ⟨sI h 701 0 0 0, Sm.ret ?_, us, rs h, fun S z => (by replace z : (.inr g : LSt ⊕ Nat) = .inl S := z; cases z), fun g2 z => by replace z : (.inr g : LSt ⊕ Nat) = .inr g2 := z; injection z with z; rw [← z]; exact c.2.2.1⟩
      rw [t_Reader_read_1, if_pos l40, c_take1R c, clV_ok, rr, c.2.2.2.1]; rfl
    | inl y =>
      obtain ⟨l, S⟩ := y
      obtain ⟨c, gp, b, b3, lw⟩ := ko
      obtain ⟨j, t, ea, j9, et, tt, cu⟩ := id c.cur
      obtain ⟨g, r, rfl⟩ := cu _ rfl
      have ob : ¬ oob (nI j) 901 := oob_nI j9 (by decide)
      have ixj : ix (nI j) = j := ix_nI (by omega)
      have rf : hI h 705 0 0 = -1 := by obtain ⟨-, -, i, -, -, -, c6⟩ := c; exact c6
      by_cases t4 : t = 4000
      · subst t4
        refine ⟨sI h 701 0 0 0, Sm.ret ?_, us, rs h, fun S2 z => ?_, fun g2 z => ?_⟩
        · have e1 : E L scr (d + 31) 77 [vR 900006 0, vI (-1)] h = some (none, h) := r_Reader_take (d := d + 30) _ _ _ (Sm.ret (by
            rw [t_Reader_take_0, rf, if_pos rfl, ea, rd_Reader_tokens ob, ixj, et, if_pos (show tkI 4000 = -1 from rfl), if_pos rfl, if_pos rfl]))
          rw [t_Reader_read_1, if_pos l40, e1, clV_ok, rr, rf]
          have le : lawO 0 (.inl ((4000, g) :: r, S)) = .inl S := pLaw_4 (k := 0) (g := g) (r := r)
          rw [le]; rfl
        · replace z : pLaw 0 S ((4000, g) :: r) = .inl S2 := z
          rw [pLaw_4] at z
          injection z with z
          subst z
          exact ⟨(hx _ _ rfl).1, b, rd_end lw⟩
        · replace z : pLaw 0 S ((4000, g) :: r) = .inr g2 := z
          rw [pLaw_4] at z; cases z
      · have ne : ¬ tkI t = -1 := fun z => by
          rcases tk_small tt with ⟨-, y⟩ | ⟨y, -⟩ | ⟨y1, y⟩
          · rw [y] at z; revert z; decide
          · exact t4 y
          · rw [y] at z; exact nI_ne1 (by omega) z
        have hp := c.hd
        have pl : hI h 703000901 0 j = nI g := by
          obtain ⟨c1, c2, i2, c3, c4, c5, c6⟩ := c
          obtain ⟨d1, -, d3⟩ := drop_h c3
          have := (c2 i2 _ d1).2
          rw [Nat.zero_add] at this
          have ij : i2 = j := (nI_eq (by omega) (by omega)).mp (by rw [← c5, ea])
          rw [← ij]; exact this
        obtain ⟨h1, hh⟩ : ∃ h1, h1 = sI h 705 0 0 (nI g) := ⟨_, rfl⟩
        have e1 : E L scr (d + 31) 77 [vR 900006 0, vI (-1)] h = some (none, h1) := r_Reader_take (d := d + 30) _ _ _ (Sm.ret (by
          rw [t_Reader_take_0, rf, if_pos rfl, ea, rd_Reader_tokens ob, ixj, et, if_neg ne, rd_Reader_places ob, ixj, pl, hh]))
        refine ⟨sI h1 701 0 0 0, Sm.ret ?_, ?_, rs h1, fun S2 z => ?_, fun g2 z => ?_⟩
        · rw [t_Reader_read_1, if_pos l40, e1, clV_ok, rr, hh, hI_rs, up_s]
          have le : lawO 0 (.inl ((t, g) :: r, S)) = .inr g := pLaw_0 (r := r) t4
          rw [le]; rfl
        · rw [hh]
          exact ((Upd.rf _ h).sI (List.mem_cons_of_mem _ (WRu_rd _ (by decide)))).sI (List.mem_cons_self ..)
        · replace z : pLaw 0 S ((t, g) :: r) = .inl S2 := z
          rw [pLaw_0 t4] at z; cases z
        · replace z : pLaw 0 S ((t, g) :: r) = .inr g2 := z
          rw [pLaw_0 t4] at z
          injection z with z
          rw [← z]; exact hp.1
  | succ k ih =>
    intro i h x hi hx ko
    have l40 : ¬ (40 : Int32) ≤ nI i := nI_ge (b := 40) (by omega) (by decide)
    have us : Upd (WRx m) h (sI h 701 0 0 0) := (Upd.rf _ h).sI (List.mem_cons_self ..)
    have rs : ∀ g : MH, hI (sI g 701 0 0 0) 701 0 0 = 0 := fun g => by rw [hI_rs, up_s]
    have rr : ∀ g : MH, hI (sI g 701 0 0 0) 705 0 0 = hI g 705 0 0 := fun g => by rw [hI_rn (by decide)]
    cases x with
    | inr g =>
      obtain ⟨c, rf⟩ := ko
      refine ⟨sI h 701 0 0 0, Sm.ret ?_, us, rs h, fun S z => (by replace z : (.inr g : LSt ⊕ Nat) = .inl S := z; cases z), fun g2 z => by replace z : (.inr g : LSt ⊕ Nat) = .inr g2 := z; injection z with z; rw [← z]; exact c.2.2.1⟩
      have ng : ¬ nI g = -1 := nI_ne1 (by have := c.2.2.1; omega)
      rw [t_Reader_read_1, if_neg l40, c.2.2.2.1, if_neg ng, c_take1R c, clV_ok, rr, c.2.2.2.1]; rfl
    | inl y =>
      obtain ⟨l, S⟩ := y
      obtain ⟨c, gp, b, b3, lw⟩ := ko
      obtain ⟨j, t, ea, j9, et, tt, cu⟩ := id c.cur
      obtain ⟨g, r, rfl⟩ := cu _ rfl
      have ob : ¬ oob (nI j) 901 := oob_nI j9 (by decide)
      have ixj : ix (nI j) = j := ix_nI (by omega)
      have rf : hI h 705 0 0 = -1 := by obtain ⟨-, -, i, -, -, -, c6⟩ := c; exact c6
      obtain ⟨hlb, hR⟩ := hx _ _ rfl
      by_cases t4 : t = 4000
      · subst t4
        have t4e : tkI 4000 = -1 := rfl
        refine ⟨sI h 701 0 0 0, Sm.ret ?_, us, rs h, fun S2 z => ?_, fun g2 z => ?_⟩
        · have e1 : E L scr (d + 31) 77 [vR 900006 0, vI (-1)] h = some (none, h) := r_Reader_take (d := d + 30) _ _ _ (Sm.ret (by
            rw [t_Reader_take_0, rf, if_pos rfl, ea, rd_Reader_tokens ob, ixj, et, if_pos t4e, if_pos rfl, if_pos rfl]))
          rw [t_Reader_read_1, if_neg l40, rf, if_pos rfl, ea, rd_Reader_tokens ob, ixj, et, if_pos t4e, e1, clV_ok, rr, rf]
          have le : lawO (k + 1) (.inl ((4000, g) :: r, S)) = .inl S := pLaw_4 (k := k + 1) (g := g) (r := r)
          rw [le]; rfl
        · replace z : pLaw (k + 1) S ((4000, g) :: r) = .inl S2 := z
          rw [pLaw_4] at z
          injection z with z
          subst z
          exact ⟨hlb, b, rd_end lw⟩
        · replace z : pLaw (k + 1) S ((4000, g) :: r) = .inr g2 := z
          rw [pLaw_4] at z; cases z
      · have ne : ¬ tkI t = -1 := fun z => by
          rcases tk_small tt with ⟨-, y⟩ | ⟨y, -⟩ | ⟨y1, y⟩
          · rw [y] at z; revert z; decide
          · exact t4 y
          · rw [y] at z; exact nI_ne1 (by omega) z
        obtain ⟨h1, e1, u1, k1⟩ := c_readRule (L := L) (scr := scr) (d := d) (b := b) (by omega) c gp b3 lw
        have fin : ∀ h2, E L scr (d + 31) 77 [vR 900006 0, vI (nI 59)] h1 = some (none, h2) → Upd WRd h1 h2 → KO h2 ls m (pStep S ((t, g) :: r)) → ∃ h2, Sm L scr (d + 31) B_Reader_read C_Reader_read 1 [some (vR 900006 0), some (vI l1), some (vR 900005 m), some (vI (nI i))] [] h (some (vI (rfI (lawO (k + 1) (.inl ((t, g) :: r, S))))), h2) ∧ Upd (WRx m) h h2 ∧ hI h2 701 0 0 = 0 ∧ (∀ S2, lawO (k + 1) (.inl ((t, g) :: r, S)) = .inl S2 → LB S2.1 ∧ ∃ b, LwC h2 m b S2) ∧ ∀ g2, lawO (k + 1) (.inl ((t, g) :: r, S)) = .inr g2 → g2 ≤ 900 := fun h2 e2 u2 k2 => by
          obtain ⟨h3, s3, u3, z3, f3⟩ := ih (i + 1) h2 (pStep S ((t, g) :: r)) (by omega) (fun l2 S2 y => by have := pStep_ok hlb y; exact ⟨this.1, by omega⟩) k2
          have le : lawO (k + 1) (.inl ((t, g) :: r, S)) = lawO k (pStep S ((t, g) :: r)) := pLaw_s (r := r) t4
          rw [le]
          refine ⟨h3, Sm.step ?_ s3, ((u1.tr (u2.mono WRu_rd)).mono (fun q hq => List.mem_cons_of_mem _ hq)).tr u3, z3, f3⟩
          rw [t_Reader_read_1, if_neg l40, rf, if_pos rfl, ea, rd_Reader_tokens ob, ixj, et, if_neg ne, e1, clV_ok, show (59 : Int32) = nI 59 from rfl, e2, clV_ok, nI_1]
        cases x : pRule S ((t, g) :: r) with
        | inr g2 =>
          rw [x] at k1
          refine fin h1 (c_takeR (d := d + 30) k1.1 _) (Upd.rf _ _) ?_
          unfold pStep
          rw [x]; exact k1
        | inl y =>
          obtain ⟨l2, S2⟩ := y
          rw [x] at k1
          obtain ⟨c2, gp2, b2, b23, lw2⟩ := k1
          obtain ⟨h2, e2, u2, c3⟩ := c_takeN (L := L) (scr := scr) (d := d + 30) (k := 59) c2 (by decide)
          refine fin h2 e2 u2 ?_
          unfold pStep
          rw [x]
          show KO h2 ls m (bdP (pTk 59 l2) _)
          rcases pk_split (k := 59) (by decide) c2.ok gp2 with ⟨g3, r3, rfl, ok3, gp3, h3', k3, p3⟩ | ⟨g3, k3, p3⟩
          · rw [k3] at c3
            rw [bd_l p3]; exact ⟨c3, gp3, b2, by omega, lw2.rd u2⟩
          · rw [k3] at c3
            rw [bd_r p3]; exact ⟨c3, (lw2.rd u2).rf⟩
end CRead

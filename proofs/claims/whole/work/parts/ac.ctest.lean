/-! CONDITIONS, on the class's side: one test -/
theorem Sm.same {L : Nat} {scr : Nat → Int32} {d : Nat} {bs : List Blk} {cs : List Nat} {t t' : Nat} {lo lo' : List (Option MV)} {st st' : List MV} {h h' : MH} {r : RT} (e : dn L scr (E L scr d) bs cs t lo st h = dn L scr (E L scr d) bs cs t' lo' st' h') (k : Sm L scr d bs cs t' lo' st' h' r) : Sm L scr d bs cs t lo st h r := by
  obtain ⟨N, hN⟩ := k
  cases N with
  | zero => cases hN
  | succ N =>
    refine ⟨N + 1, ?_⟩
    replace hN : (match dn L scr (E L scr d) bs cs t' lo' st' h' with
      | some (.inl (t, l, st, h)) => sem L scr (E L scr d) bs cs N t l st h
      | some (.inr r) => some r
      | none => none) = some r := hN
    show (match dn L scr (E L scr d) bs cs t lo st h with
      | some (.inl (t, l, st, h)) => sem L scr (E L scr d) bs cs N t l st h
      | some (.inr r) => some r
      | none => none) = some r
    rw [e]; exact hN
theorem dcC_tst {w s k : Nat} (hw : w < 8) (hs : 60 ≤ s ∧ s ≤ 62) (hk : 1000 ≤ k ∧ k < 2000) : (nI w * 3 + (nI s - 60)) * 1000 + (nI k - 1000) = nI ((w * 3 + (s - 60)) * 1000 + (k - 1000)) ∧ ∀ v, dcC v (nI ((w * 3 + (s - 60)) * 1000 + (k - 1000))) = (0, tstF w s (k - 1000) v) := by
  constructor
  · rw [show (3 : Int32) = nI 3 from rfl, show (60 : Int32) = nI 60 from rfl, show (1000 : Int32) = nI 1000 from rfl, nI_sub hs.1, nI_sub hk.1, nI_mul, nI_add, nI_mul, nI_add]
  · intro v
    obtain ⟨u, hu⟩ : ∃ u, u = (w * 3 + (s - 60)) * 1000 + (k - 1000) := ⟨_, rfl⟩
    rw [← hu]
    have u31 : u < 2 ^ 31 := by omega
    have e1 : nI u / 3000 = nI w := by rw [show (3000 : Int32) = nI 3000 from rfl, nI_div u31 (by decide), show u / 3000 = w by omega]
    have e2 : nI u / 1000 % 3 = nI (s - 60) := by rw [show (1000 : Int32) = nI 1000 from rfl, show (3 : Int32) = nI 3 from rfl, nI_div u31 (by decide), nI_mod (by omega) (by decide), show u / 1000 % 3 = s - 60 by omega]
    have e3 : nI u % 1000 = nI (k - 1000) := by rw [show (1000 : Int32) = nI 1000 from rfl, nI_mod u31 (by decide), show u % 1000 = k - 1000 by omega]
    unfold dcC
    rw [if_neg (show ¬ nI u < 0 from nlt0.mpr (nI_le (a := 0) (by omega) u31))]
    unfold tstB tstF
    rw [e1, e2, e3, ix_nI (by omega), if_pos (show nI w < 8 from nI_lt (b := 8) hw (by decide))]
    by_cases s0 : s = 60
    · rw [if_pos s0, if_pos (by rw [s0]; rfl)]
    · rw [if_neg s0, if_neg (fun z => by have := (nI_eq (a := s - 60) (b := 0) (by omega) (by decide)).mp z; omega)]
      by_cases s1 : s = 61
      · rw [if_pos (by rw [s1]; rfl), if_neg (by omega)]
      · rw [if_neg (fun z => by have := (nI_eq (a := s - 60) (b := 1) (by omega) (by decide)).mp z; omega), if_pos (by omega)]
/-- what reading a condition leaves -/
def CO (h h2 : MH) (ls : List (Nat × Nat)) (m D b : Nat) (l : List (Nat × Nat)) : PC → Prop
  | .inr g => CP h2 ls (.inr g) ∧ ∃ b2, CdN h2 m b2
  | .inl (r, φ) => CP h2 ls (.inl r) ∧ GapL r ∧ ∃ b2, CdN h2 m b2 ∧ b < b2 ∧ hdP l + 3 * (b2 - b) + 2 ≤ hdP r ∧ (∀ j, j < b → hI h2 616000300 m j = hI h 616000300 m j) ∧ ∀ v, SegL (fun j => dcC v (hI h2 616000300 m j)) D b b2 (φ v)
def parN (c : Nat) (x : PC) : PC := if c % 2 = 1 then pNot x else x
theorem par_i {o c : Nat} (hc : c ≤ 9) : ((nI (o + c) - nI o) % 2 = (1 : Int32)) ↔ c % 2 = 1 := by
  rw [nI_sub (by omega), Nat.add_sub_cancel_left, show (2 : Int32) = nI 2 from rfl, nI_mod (by omega) (by decide)]
  exact nI_eq (b := 1) (by omega) (by decide)
theorem CP.hd {h : MH} {ls r : List (Nat × Nat)} {t g : Nat} (c : CP h ls (.inl ((t, g) :: r))) : g ≤ 900 ∧ ((t = 4000 ∧ r = []) ∨ (TokT t ∧ OkL r)) := by
  obtain ⟨-, -, i, -, c4, -⟩ := c
  exact c4
abbrev WOne (m : Nat) : List (Nat × Nat) := WRd ++ WLw m
theorem WOne_l {m : Nat} : ∀ q ∈ WRd, q ∈ WOne m := fun q hq => List.mem_append_left _ hq
theorem WOne_r {m : Nat} : ∀ q ∈ WLw m, q ∈ WOne m := fun q hq => List.mem_append_right _ hq
theorem WRd_cd {m : Nat} : (616000300, m) ∉ WRd ∧ (615, m) ∉ WRd := by
  constructor <;> (intro z; simp [WRd] at z)
section CTest
variable {L : Nat} {scr : Nat → Int32} {d : Nat}
theorem CdN.rd {h h2 : MH} {m b : Nat} (u : Upd WRd h h2) (n : CdN h m b) : CdN h2 m b := ⟨n.1, by rw [u.2 _ _ WRd_cd.2]; exact n.2⟩
/-- the end of a test: the number, the code, and whether it is turned -/
theorem one_9 {h : MH} {ls r : List (Nat × Nat)} {m b o c w s k g g3 D : Nat} (hc : c ≤ 9) (cp : CP h ls (.inl ((k, g3) :: r))) (hb : CdN h m b) (gp : GapL ((k, g3) :: r)) (hw : w < 8) (hs : 60 ≤ s ∧ s ≤ 62) (b3 : 3 * b + 3 * c ≤ g) (hg : g + 4 ≤ g3) (hD : 1 ≤ D) (x : Int32) (hx : x = if tkI k < 1000 then -3 else tkI k) : ∃ h2, Sm L scr (d + 1) B_Reader_readOne C_Reader_readOne 9 [some (vR 900006 0), some (vR 900005 m), some (vI (nI o)), some (vI (nI (o + c))), some (vI (nI w)), some (vI (nI s)), some (vI (tkI k))] [vI x, vR 900006 0] h (none, h2) ∧ Upd (WOne m) h h2 ∧ (if 1000 ≤ k ∧ k < 2000 then CP h2 ls (.inl r) ∧ GapL r ∧ ∃ b2, CdN h2 m b2 ∧ b2 = b + 1 + c % 2 ∧ g + 5 ≤ hdP r ∧ (∀ j, j < b → hI h2 616000300 m j = hI h 616000300 m j) ∧ ∀ v, SegL (fun j => dcC v (hI h2 616000300 m j)) D b b2 (if c % 2 = 1 then !(tstF w s (k - 1000) v) else tstF w s (k - 1000) v) else CP h2 ls (.inr g3) ∧ ∃ b2, CdN h2 m b2) := by
  obtain ⟨g9, tt⟩ := cp.hd
  have tt2 : k = 4000 ∨ TokT k := tt.elim (fun z => Or.inl z.1) (fun z => Or.inr z.1)
  by_cases kk : 1000 ≤ k ∧ k < 2000
  · simp only [if_pos kk]
    have ek : tkI k = nI k := by unfold tkI; rw [if_neg (by omega), if_neg (by omega)]
    have ex : x = nI k := by
      rw [hx, ek, if_neg (show ¬ nI k < 1000 from fun z => by have := (nI_ltI (b := 1000) (by omega) (by decide)).mp z; omega)]
    obtain ⟨h1, e1, u1, c1⟩ := c_takeN (L := L) (scr := scr) (d := d) cp kk.2
    replace c1 : CP h1 ls (.inl r) := by
      have z : tkP (fun t => decide (t = k)) (.inl ((k, g3) :: r)) = .inl r := by
        show (if decide (k = k) = true then _ else _) = _
        rw [if_pos (decide_eq_true rfl)]
      rw [z] at c1; exact c1
    have n1 := hb.rd u1
    obtain ⟨dc1, dc2⟩ := dcC_tst hw hs kk
    obtain ⟨h2, e2, u2, ⟨b30, n2, k2⟩ | ⟨b30, -⟩⟩ := c_emit (L := L) (scr := scr) (d := d) ((nI w * 3 + (nI s - 60)) * 1000 + (nI k - 1000)) n1
    · obtain ⟨t2, g4, r2, er⟩ : ∃ t2 g4 r2, r = (t2, g4) :: r2 := by
        rcases tt with ⟨z, -⟩ | ⟨-, z⟩
        · omega
        · cases r with
          | nil => exact z.elim
          | cons q r2 => exact ⟨q.1, q.2, r2, rfl⟩
      subst er
      obtain ⟨gp1, gp2⟩ := gp
      have tw : 1 ≤ tkW k := by unfold tkW; rw [if_neg (by omega)]; exact Nat.le_refl _
      have hd : g + 5 ≤ hdP ((t2, g4) :: r2) := by show g + 5 ≤ g4; omega
      have c2 := c1.fr u2 WLw_rd
      have cd1 : hI h1 616000300 m = hI h 616000300 m := u1.2 _ _ WRd_cd.1
      have sg : ∀ v, SegL (fun j => dcC v (hI h2 616000300 m j)) D b (b + 1) (tstF w s (k - 1000) v) := fun v => (SegL.lay (by
        show dcC v (hI h2 616000300 m b) = _
        rw [k2, up_s, dc1]; exact dc2 v)).mono hD
      by_cases p : c % 2 = 1
      · obtain ⟨h3, e3, u3, ⟨b31, n3, k3⟩ | ⟨b31, -⟩⟩ := c_emit (L := L) (scr := scr) (d := d) (-1) (⟨by omega, n2⟩ : CdN h2 m (b + 1))
        · refine ⟨h3, Sm.ret ?_, (u1.mono WOne_l).tr ((u2.mono WOne_r).tr (u3.mono WOne_r)), c2.fr u3 WLw_rd, gp2, b + 1 + 1, ⟨by omega, n3⟩, by omega, hd, fun j hj => ?_, fun v => ?_⟩
          · rw [t_Reader_readOne_9, ex, e1, clV_ok, ek, c_testOf, clI_ok, e2, clV_ok, dvI_ok (by decide), if_pos ((par_i hc).mpr p), e3, clV_ok]
          · rw [k3, up_n (by omega), k2, up_n (by omega), cd1]
          · rw [if_pos p]
            refine SegL.turn (SegL.cong (sg v) (fun i i1 i2 => ?_)) hD ?_
            · show dcC v (hI h3 616000300 m i) = dcC v (hI h2 616000300 m i)
              rw [k3, up_n (by omega)]
            · show (dcC v (hI h3 616000300 m (b + 1))).1 = 1
              rw [k3, up_s]; rfl
        · omega
      · refine ⟨h2, Sm.ret ?_, (u1.mono WOne_l).tr (u2.mono WOne_r), c2, gp2, b + 1, ⟨by omega, n2⟩, by omega, hd, fun j hj => ?_, fun v => ?_⟩
        · rw [t_Reader_readOne_9, ex, e1, clV_ok, ek, c_testOf, clI_ok, e2, clV_ok, dvI_ok (by decide), if_neg (fun z => p ((par_i hc).mp z))]
        · rw [k2, up_n (by omega), cd1]
        · rw [if_neg p]; exact sg v
    · omega
  · simp only [if_neg kk]
    have ex : x = -3 := by
      rw [hx]
      rcases tk_small tt2 with ⟨z1, z2⟩ | ⟨z1, z2⟩ | ⟨z1, z2⟩
      · rw [z2]; rfl
      · rw [z2]; rfl
      · rw [z2, if_pos (show nI k < 1000 from nI_lt (b := 1000) (by omega) (by decide))]
    obtain ⟨h1, e1, u1, c1⟩ := c_takeX (L := L) (scr := scr) (d := d) cp
    replace c1 : CP h1 ls (.inr g3) := c1
    obtain ⟨h2, b2, s2, u2, n2⟩ := one_9R (L := L) (scr := scr) (d := d) c1 (hb.rd u1) (nI o) (nI (o + c)) (nI w) (nI s) (tkI k) (-3)
    refine ⟨h2, Sm.same ?_ s2, (u1.mono WOne_l).tr (u2.mono WOne_r), c1.fr u2 WLw_rd, b2, n2⟩
    rw [t_Reader_readOne_9, t_Reader_readOne_9, ex, e1, c_takeR c1, clV_ok]
end CTest

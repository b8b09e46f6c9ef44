/-! BILLS: the class draws one -/
/-- what a law says, as numbers -/
def LB (f : Nat → Nat) : Prop := (∀ j, f j ≤ 999) ∧ (∀ j, j < 4 → 1 ≤ f (4 + j) ∧ f (4 + j) ≤ 240) ∧ 1 ≤ f 13 ∧ f 15 ≤ 100
/-- rules of the class's law -/
def CR (g : MH) (mm R : Nat) (s p : Nat → Nat) : Prop := R ≤ 40 ∧ hI g 610 mm 0 = nI R ∧ ∀ i, i < R → s i ≤ 2 ∧ p i ≤ 100 ∧ hI g 611000040 mm i = nI (s i) ∧ hI g 612000040 mm i = nI (p i)
def buB (fr to : Nat → Int32) (s : Nat → Nat) (x i : Nat) : Bool := Nat.beq (s i) 0 && inB (nI x) (fr i) (to i)
def bzN (fr to : Nat → Int32) (s p : Nat → Nat) (R x : Nat) : Nat := min (sumN (buB fr to s x) p R) 900
/-- a price with fr minutes free -/
def prN (H : HN) (f : Nat → Nat) (bz i fr : Nat) : Nat := f (H.kd i) * bgn (H.mi i - fr) (f (4 + H.kd i)) + f (H.kd i) * bgn (H.mi i - fr) (f (4 + H.kd i)) * bz / 100
def ltN (f : Nat → Nat) (mi q : Nat) : Nat := if mi ≤ q + f 14 then 0 else f 12 * bgn (mi - q) (f 13)
def wtN (f : Nat → Nat) (pr mi wc : Nat) : Nat := if mi = 0 then 0 else pr * f 15 * wc / (100 * mi)
abbrev WB : List (Nat × Nat) := [(100, 0), (101, 0), (102, 0), (103, 0), (104, 0), (105, 0), (106, 0), (107, 0), (108, 0), (109, 0)]
section Draw
variable {L : Nat} {scr : Nat → Int32} {d : Nat}
theorem c_begun {s e : Nat} (hs : s < 2 ^ 30) (he : 1 ≤ e) (he2 : e < 2 ^ 30) (g : MH) : E L scr (d + 1) 3 [vI (nI s), vI (nI e)] g = some (some (vI (nI (bgn s e))), g) := by
  refine r_Bill_begun _ _ _ (Sm.ret ?_)
  rw [t_Bill_begun_0, if_neg (show ¬ nI e ≤ 0 from nI_ge (a := 0) (b := e) (by omega) (by omega))]
  unfold bgn
  by_cases c : s = 0
  · rw [if_pos c, c, if_pos (by decide)]; rfl
  · rw [if_neg c, if_neg (show ¬ nI s ≤ 0 from nI_ge (a := 0) (b := s) (by omega) (by omega)), dvI_ok (fun z => (show e ≠ 0 by omega) ((nI_eq (b := 0) (by omega) (by decide)).mp z)), show nI s - 1 = nI (s - 1) from nI_sub (b := 1) (by omega), nI_div (by omega) (by omega), nI_1]
theorem c_M_begun {s e : Nat} (hs : s < 2 ^ 29) (he : 1 ≤ e) (he2 : e < 2 ^ 29) (g : MH) : E L scr (d + 1) 205 [vI (nI s), vI (nI e)] g = some (some (vI (nI (bgn s e))), g) := by
  refine r_M_begun _ _ _ (Sm.ret ?_)
  rw [t_M_begun_0]
  unfold bgn
  by_cases c : s = 0
  · rw [if_pos c, c, if_neg (by decide)]; rfl
  · have e1 : (s + e - 1) / e = (s - 1) / e + 1 := by
      rw [show s + e - 1 = (s - 1) + e by omega, Nat.add_div_right _ (by omega)]
    rw [if_neg c, if_pos (show (0 : Int32) < nI s from nI_lt (a := 0) (by omega) (by omega)), dvI_ok (fun z => (show e ≠ 0 by omega) ((nI_eq (b := 0) (by omega) (by decide)).mp z)), nI_add, show nI (s + e) - 1 = nI (s + e - 1) from nI_sub (b := 1) (by omega), nI_div (by omega) (by omega), e1]
theorem c_raised {c b : Nat} (hc : c * b < 2 ^ 31) (g : MH) : E L scr (d + 1) 4 [vI (nI c), vI (nI b)] g = some (some (vI (nI (c + c * b / 100))), g) := by
  refine r_Bill_raised _ _ _ (Sm.ret ?_)
  rw [t_Bill_raised_0, dvI_ok (by decide), nI_mul, show (100 : Int32) = nI 100 from rfl, nI_div hc (by decide), nI_add]
theorem bu_le {fr to : Nat → Int32} {s p : Nat → Nat} {R x : Nat} (h : ∀ i, i < R → p i ≤ 100) (hR : R ≤ 40) : sumN (buB fr to s x) p R ≤ 4000 := by
  have := sumN_le (p := buB fr to s x) (v := p) (m := 100) (n := R) h
  have : R * 100 ≤ 40 * 100 := Nat.mul_le_mul_right _ hR
  omega
theorem c_busyParts {g : MH} {mm R : Nat} {s p : Nat → Nat} {x : Nat} (hx : x < 720) (k : CR g mm R s p) : E L scr (d + 2) 58 [vR 900005 mm, vI (nI x)] g = some (some (vI (nI (bzN (hI g 613000040 mm) (hI g 614000040 mm) s p R x))), g) := by
  obtain ⟨hR, eR, hk⟩ := k
  have bl := bu_le (fr := hI g 613000040 mm) (to := hI g 614000040 mm) (s := s) (x := x) (fun i hi => (hk i hi).2.1) hR
  refine r_Law_busyParts _ _ _ (Sm.step (t' := 1) (lo' := [some (vR 900005 mm), some (vI (nI x)), some (vI (nI (sumN (buB (hI g 613000040 mm) (hI g 614000040 mm) s x) p 0))), some (vI (nI 0))]) (st' := []) (h' := g) (t_Law_busyParts_0 ..) ?_)
  refine Sm.for (lo := fun i => [some (vR 900005 mm), some (vI (nI x)), some (vI (nI (sumN (buB (hI g 613000040 mm) (hI g 614000040 mm) s x) p i))), some (vI (nI i))]) (hh := fun _ => g) R (fun i hi => ?_) (Sm.ret ?_)
  · obtain ⟨h1, h2, e1, e2⟩ := hk i hi
    rw [t_Law_busyParts_1, eR, if_neg (nI_ge hi (by omega)), rd_Law_sort (oob_nI (by omega) (by decide)), ix_nI (by omega), e1, nI_1]
    by_cases c : s i = 0
    · have eb : buB (hI g 613000040 mm) (hI g 614000040 mm) s x i = inB (nI x) (hI g 613000040 mm i) (hI g 614000040 mm i) := by unfold buB; rw [c]; rfl
      rw [if_pos (show nI (s i) = 0 by rw [c]; rfl), rd_Law_from (oob_nI (by omega) (by decide)), ix_nI (by omega)]
      by_cases c1 : nI x < hI g 613000040 mm i
      · rw [if_pos c1, sumN_f (by rw [eb]; exact decide_eq_false (fun z => nlt_i.mpr z.1 c1))]
      · rw [if_neg c1, rd_Law_to (oob_nI (by omega) (by decide)), ix_nI (by omega)]
        by_cases c2 : hI g 614000040 mm i < nI x
        · rw [if_pos c2, sumN_f (by rw [eb]; exact decide_eq_false (fun z => nlt_i.mpr z.2 c2))]
        · rw [if_neg c2, rd_Law_part (oob_nI (by omega) (by decide)), ix_nI (by omega), e2, nI_add, sumN_t (by rw [eb]; exact decide_eq_true ⟨nlt_i.mp c1, nlt_i.mp c2⟩)]
    · rw [if_neg (show ¬ nI (s i) = 0 from fun z => c ((nI_eq (b := 0) (by omega) (by decide)).mp z)), sumN_f (by
        unfold buB
        cases e : Nat.beq (s i) 0 with
        | false => rfl
        | true => exact absurd (Nat.eq_of_beq_eq_true e) c)]
  · rw [t_Law_busyParts_1, eR, if_pos (nI_le (Nat.le_refl _) (by omega)), c_min, clI_ok, show (900 : Int32) = nI 900 from rfl, min_nI (by omega) (by decide)]; rfl
theorem bz_le {fr to : Nat → Int32} {s p : Nat → Nat} {R x : Nat} : bzN fr to s p R x ≤ 900 := Nat.min_le_right _ _
theorem base_le {H : HN} {f : Nat → Nat} (hf : LB f) {i fr : Nat} (hm : H.mi i ≤ 719) : f (H.kd i) * bgn (H.mi i - fr) (f (4 + H.kd i)) ≤ 718281 := Nat.mul_le_mul (hf.1 _) (Nat.le_trans bgn_le (show H.mi i - fr ≤ 719 by omega))
theorem pr_le2 {H : HN} {f : Nat → Nat} (hf : LB f) {bz i fr : Nat} (hb : bz ≤ 900) (hm : H.mi i ≤ 719) : prN H f bz i fr ≤ 7182810 := by
  have h1 := base_le (H := H) hf (i := i) (fr := fr) hm
  unfold prN
  obtain ⟨x, hx⟩ : ∃ x, x = f (H.kd i) * bgn (H.mi i - fr) (f (4 + H.kd i)) := ⟨_, rfl⟩
  rw [← hx] at h1 ⊢
  have h2 : x * bz ≤ x * 900 := Nat.mul_le_mul_left x hb
  omega
theorem c_drawPrice {H : HN} {m : Nat} {g : MH} (k : CK H m g) {i mm R : Nat} {s p f : Nat → Nat} (hi : i < m) (hb : H.bk i = true) (hf : LB f) (hl : LawEq g mm (fun j => nI (f j))) (hr : CR g mm R s p) : ∃ g', E L scr (d + 5) 1 [vR 900000 0, vR 900010 0, vI (nI i), vR 900005 mm] g = some (none, g') ∧ Upd WB g g' ∧ hI g' 109 0 0 = nI (H.o i % 720) ∧ hI g' 100 0 0 = nI (H.mi i) ∧ hI g' 101 0 0 = nI (frN H m i (f (20 + (4 * H.w i + H.kd i)))) ∧ hI g' 103 0 0 = nI (prN H f (bzN (hI g 613000040 mm) (hI g 614000040 mm) s p R (H.o i % 720)) i (frN H m i (f (20 + (4 * H.w i + H.kd i))))) ∧ hI g' 102 0 0 = nI (prN H f (bzN (hI g 613000040 mm) (hI g 614000040 mm) s p R (H.o i % 720)) i 0) := by
  obtain ⟨⟨e1, o1⟩, ⟨-, -, -, k4⟩, ⟨w1, w2⟩, -⟩ := k.2.2 i hi
  have hm := k.2.1
  obtain ⟨mi1, mi2⟩ := ck_mi k hi hb
  obtain ⟨l1, -, l3⟩ := hl
  obtain ⟨p1, p2, -⟩ := l1 (H.kd i) k4
  obtain ⟨hf1, hf2, hf3, hf4⟩ := id hf
  obtain ⟨E1, E2⟩ := hf2 (H.kd i) k4
  obtain ⟨fr, hfr⟩ : ∃ fr, fr = frN H m i (f (20 + (4 * H.w i + H.kd i))) := ⟨_, rfl⟩
  have fr1 : fr ≤ H.mi i := by rw [hfr]; exact Nat.min_le_left _ _
  obtain ⟨bz, hbz⟩ : ∃ bz, bz = bzN (hI g 613000040 mm) (hI g 614000040 mm) s p R (H.o i % 720) := ⟨_, rfl⟩
  have bz1 : bz ≤ 900 := by rw [hbz]; exact bz_le
  obtain ⟨g1, hg1⟩ : ∃ g1, g1 = sI g 109 0 0 (nI (H.o i % 720)) := ⟨_, rfl⟩
  have u1 : Upd WB g g1 := by rw [hg1]; exact (Upd.rf _ g).sI (by decide)
  obtain ⟨g2, hg2⟩ : ∃ g2, g2 = sI g1 100 0 0 (nI (H.mi i)) := ⟨_, rfl⟩
  have u2 : Upd WB g g2 := by rw [hg2]; exact u1.sI (by decide)
  obtain ⟨g3, hg3⟩ : ∃ g3, g3 = sI g2 101 0 0 (nI fr) := ⟨_, rfl⟩
  have u3 : Upd WB g g3 := by rw [hg3]; exact u2.sI (by decide)
  obtain ⟨g4, hg4⟩ : ∃ g4, g4 = sI g3 103 0 0 (nI (prN H f bz i fr)) := ⟨_, rfl⟩
  have u4 : Upd WB g g4 := by rw [hg4]; exact u3.sI (by decide)
  have ck : ∀ {g' : MH}, Upd WB g g' → CK H m g' := fun u => k.up (u.sites (by decide))
  have cF := c_freeMinutes (L := L) (scr := scr) (d := d) (ck u2) hi hb (R := f (20 + (4 * H.w i + H.kd i))) (mm := mm) (by have := hf1 (20 + (4 * H.w i + H.kd i)); omega) (by rw [u2.sites (S := [604000040]) (by decide) _ mm (by decide)]; exact l3 _ (by omega))
  rw [← hfr] at cF
  have cB := c_busyParts (L := L) (scr := scr) (d := d + 2) (g := g3) (mm := mm) (R := R) (s := s) (p := p) (x := H.o i % 720) (by omega) (by
    have r := u3.sites (S := [610, 611000040, 612000040]) (by decide)
    obtain ⟨q1, q2, q3⟩ := hr
    exact ⟨q1, by rw [r _ mm (by decide)]; exact q2, fun i hi => by rw [r _ mm (by decide), r _ mm (by decide)]; exact q3 i hi⟩)
  rw [u3.sites (S := [613000040, 614000040]) (by decide) _ mm (by decide), u3.sites (S := [613000040, 614000040]) (by decide) _ mm (by decide), ← hbz] at cB
  have rp : ∀ {g' : MH}, Upd WB g g' → ∀ k : Int32 → Option Exit, rdI 0 g' 601000004 mm (nI (H.kd i)) k = k (nI (f (H.kd i))) := fun u k => by rw [rd_Law_price (oob_nI k4 (by decide)), ix_nI (by omega), u.sites (S := [601000004]) (by decide) _ mm (by decide), p1]
  have re : ∀ {g' : MH}, Upd WB g g' → ∀ k : Int32 → Option Exit, rdI 0 g' 602000004 mm (nI (H.kd i)) k = k (nI (f (4 + H.kd i))) := fun u k => by rw [rd_Law_each (oob_nI k4 (by decide)), ix_nI (by omega), u.sites (S := [602000004]) (by decide) _ mm (by decide), p2]
  have b1 := base_le (H := H) hf (i := i) (fr := fr) mi1
  have b0 := base_le (H := H) hf (i := i) (fr := 0) mi1
  have m1 : f (H.kd i) * bgn (H.mi i - fr) (f (4 + H.kd i)) * bz < 2 ^ 31 := Nat.lt_of_le_of_lt (Nat.mul_le_mul b1 bz1) (by decide)
  have m0 : f (H.kd i) * bgn (H.mi i) (f (4 + H.kd i)) * bz < 2 ^ 31 := Nat.lt_of_le_of_lt (Nat.mul_le_mul (by simpa using b0) bz1) (by decide)
  have v09 : hI g3 109 0 0 = nI (H.o i % 720) := by rw [hg3, hg2, hg1, hI_rn (by decide), hI_rn (by decide), hI_rs, up_s]
  have v00 : hI g3 100 0 0 = nI (H.mi i) := by rw [hg3, hg2, hI_rn (by decide), hI_rs, up_s]
  have v01 : hI g3 101 0 0 = nI fr := by rw [hg3, hI_rs, up_s]
  have v40 : hI g4 100 0 0 = nI (H.mi i) := by rw [hg4, hI_rn (by decide)]; exact v00
  have ep : f (H.kd i) * bgn (H.mi i - fr) (f (4 + H.kd i)) + f (H.kd i) * bgn (H.mi i - fr) (f (4 + H.kd i)) * bz / 100 = prN H f bz i fr := rfl
  rw [← hfr, ← hbz]
  refine ⟨sI g4 102 0 0 (nI (prN H f bz i 0)), r_Bill_drawPrice _ _ _ _ _ (Sm.ret ?_), u4.sI (by decide), ?_, ?_, ?_, ?_, ?_⟩
  · rw [t_Bill_drawPrice_0, c_kindOfHire k hi, clI_ok, rd_Book_outAt (oob_nI (by omega) (by decide)), ix_nI (by omega), e1, dvI_ok (by decide), show nI (H.o i) % 720 = nI (H.o i % 720) from nI_mod (b := 720) (by omega) (by decide), ← hg1, c_minsOf (ck u1) hi hb, clI_ok, ← hg2, cF, clI_ok, ← hg3, v09, cB, clI_ok, rp u3, re u3, v00, v01, nI_sub fr1, c_begun (by omega) E1 (by omega), clI_ok, nI_mul, c_raised m1, clI_ok, ep, ← hg4, rp u4, re u4, v40, c_begun (by omega) E1 (by omega), clI_ok, nI_mul, c_raised m0, clI_ok]; rfl
  · rw [hI_rn (by decide), hg4, hI_rn (by decide)]; exact v09
  · rw [hI_rn (by decide)]; exact v40
  · rw [hI_rn (by decide), hg4, hI_rn (by decide)]; exact v01
  · rw [hI_rn (by decide), hg4, hI_rs, up_s]
  · rw [hI_rs, up_s]
end Draw

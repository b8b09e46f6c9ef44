/-! BILLS: price, lateness, wet, harm and cushions on the reference's side -/
/-- the reference's rules of a law beside the class's instance mm -/
def LawRs (g : MH) (mm R : Nat) (s p : Nat → Nat) (φ : Nat → (Nat → Int32) → Bool) : Option Nat → Prop
  | none => mm = 0 ∧ R = 0
  | some l => mm = l + 1 ∧ l < 5 ∧ RsEq g (l + 1) l R s p φ
section MBill2
variable {L : Nat} {scr : Nat → Int32} {d : Nat}
variable {H : HN} {m n : Nat} {g : MH}
theorem c_M_priceOf (k : MK H m n g) {i fr mm R : Nat} {s p : Nat → Nat} {φ : Nat → (Nat → Int32) → Bool} (hi : i < m) (hb : H.bk i = true) (hfr : fr ≤ H.mi i) {lo : Option Nat} {f : Nat → Nat} (q : LawAt L scr g (H.o i / 720) lo f) (hf : LB f) (hr : LawRs g mm R s p φ lo) : E L scr (d + 4) 268 [vR 900012 0, vI (nI i), vI (nI fr)] g = some (some (vI (nI (prN H f (bzN (hI g 613000040 mm) (hI g 614000040 mm) s p R (H.o i % 720)) i fr))), g) := by
  have hmn := k.2.2.1
  have hn := k.2.1
  obtain ⟨⟨o1, o2⟩, ⟨-, -, -, k4⟩, -⟩ := k.2.2.2 i (by omega)
  obtain ⟨-, mb, -⟩ := mk_mi k hi hb
  obtain ⟨E1, E2⟩ := hf.2.1 (H.kd i) k4
  have b1 := base_le (H := H) hf (i := i) (fr := fr) mb
  obtain ⟨bs, hbs⟩ : ∃ bs, bs = f (H.kd i) * bgn (H.mi i - fr) (f (4 + H.kd i)) := ⟨_, rfl⟩
  rw [← hbs] at b1
  have fin : ∀ S l6, S ≤ 4000 → (lo = none ∨ ∃ l, lo = some l ∧ l < 5 ∧ hI g 1310000006 0 l = nI R ∧ R ≤ 40 ∧ l6 = nI (40 * l + R)) → min S 900 = bzN (hI g 613000040 mm) (hI g 614000040 mm) s p R (H.o i % 720) → dn L scr (E L scr (d + 3)) B_M_priceOf C_M_priceOf 1 [some (vR 900012 0), some (vI (nI i)), some (vI (nI fr)), some (vI (oI lo)), some (vI (nI bs)), some (vI (nI S)), some (vI l6)] [] g = some (.inr (some (vI (nI (prN H f (bzN (hI g 613000040 mm) (hI g 614000040 mm) s p R (H.o i % 720)) i fr))), g)) := fun S l6 hS hl he => by
    have e1 : nI bs * nI (min S 900) / 100 = nI (bs * min S 900 / 100) := by
      have : bs * min S 900 ≤ 718281 * 900 := Nat.mul_le_mul b1 (Nat.min_le_right _ _)
      rw [nI_mul, show (100 : Int32) = nI 100 from rfl, nI_div (by omega) (by decide)]
    have e2 : nI bs + nI (bs * min S 900 / 100) = nI (prN H f (bzN (hI g 613000040 mm) (hI g 614000040 mm) s p R (H.o i % 720)) i fr) := by
      rw [nI_add, he, hbs]; rfl
    have e3 : (if nI S < (900 : Int32) then nI S else 900) = nI (min S 900) := by
      have := min_nI (x := 900) (y := S) (by decide) (by omega)
      rw [Nat.min_comm]; exact this
    rcases hl with rfl | ⟨l, rfl, l5, c1, r1, rfl⟩
    · rw [t_M_priceOf_1, if_pos (show oI none = -1 from rfl), c_min, clI_ok, e3, dvI_ok (by decide), e1, e2]
    · rw [t_M_priceOf_1, if_neg (show ¬ oI (some l) = -1 from fun z => by
        have z : nI l = -1 := z
        have := congrArg Int32.toInt z
        rw [nI_toInt (by omega)] at this
        have : (-1 : Int32).toInt = -1 := rfl
        omega), show oI (some l) = nI l from rfl, rd_M_clauses (oob_nI (by omega) (by decide)), ix_nI (by omega), c1, show (40 : Int32) = nI 40 from rfl, nI_mul, nI_add, if_pos (nI_le (Nat.le_refl _) (by omega)), c_min, clI_ok, e3, dvI_ok (by decide), e1, e2]
  refine r_M_priceOf _ _ _ _ (Sm.step (t' := 1) (lo' := [some (vR 900012 0), some (vI (nI i)), some (vI (nI fr)), some (vI (oI lo)), some (vI (nI bs)), some (vI (nI 0)), some (vI (40 * oI lo))]) (st' := []) (h' := g) ?_ ?_)
  · rw [t_M_priceOf_0, c_M_lawBy k (by omega) q, clI_ok, c_M_minsOf k hi hb, clI_ok, c_M_kindBy k (by omega), clI_ok, show (4 : Int32) = nI 4 from rfl, nI_add, c_M_saidN q (by omega), clI_ok, nI_sub hfr, c_M_begun (by omega) E1 (by omega), clI_ok, c_M_kindBy k (by omega), clI_ok, c_M_saidN q (by omega), clI_ok, nI_mul, Nat.mul_comm, ← hbs]; rfl
  cases lo with
  | none =>
    obtain ⟨rfl, rfl⟩ := hr
    exact Sm.ret (fin 0 _ (by decide) (Or.inl rfl) rfl)
  | some l =>
    obtain ⟨rfl, l5, hR, -, eR, hk⟩ := hr
    have pl : ∀ i, i < R → p i ≤ 100 := fun i hi => (hk i hi).2.1
    obtain ⟨bu, hbu⟩ : ∃ bu, bu = buB (hI g 613000040 (l + 1)) (hI g 614000040 (l + 1)) s (H.o i % 720) := ⟨_, rfl⟩
    have bl := fun {R'} (h : R' ≤ R) => bu_le (fr := hI g 613000040 (l + 1)) (to := hI g 614000040 (l + 1)) (s := s) (p := p) (x := H.o i % 720) (R := R') (fun i hi => pl i (by omega)) (by omega)
    rw [← hbu] at bl
    rw [show (40 : Int32) * oI (some l) = nI (40 * l + 0) from nI_mul 40 l]
    refine Sm.for (lo := fun j => [some (vR 900012 0), some (vI (nI i)), some (vI (nI fr)), some (vI (oI (some l))), some (vI (nI bs)), some (vI (nI (sumN bu p j))), some (vI (nI (40 * l + j)))]) (hh := fun _ => g) R (fun j hj => ?_) (Sm.ret ?_)
    · obtain ⟨s2, p2, -, e2, -, e4, k1, -⟩ := hk j hj
      rw [t_M_priceOf_1, if_neg (show ¬ oI (some l) = -1 from fun z => by
        have z : nI l = -1 := z
        have := congrArg Int32.toInt z
        rw [nI_toInt (by omega)] at this
        have : (-1 : Int32).toInt = -1 := rfl
        omega), show oI (some l) = nI l from rfl, rd_M_clauses (oob_nI (by omega) (by decide)), ix_nI (by omega), eR, show (40 : Int32) = nI 40 from rfl, nI_mul, nI_add, if_neg (nI_ge (by omega) (by omega)), rd_M_clauseKind (oob_nI (by omega) (by decide)), ix_nI (by omega), e2, nI_1]
      by_cases c : s j = 0
      · obtain ⟨f1, f2⟩ := k1 c
        have eb : bu j = inB (nI (H.o i % 720)) (hI g 1312000240 0 (40 * l + j)) (hI g 1313000240 0 (40 * l + j)) := by
          rw [hbu, ← f1, ← f2]; unfold buB; rw [c]; rfl
        rw [if_pos (show nI (s j) = 0 by rw [c]; rfl), rd_M_outAt (oob_nI (by omega) (by decide)), ix_nI (by omega), o1, dvI_ok (by decide), rd_M_clauseFrom (oob_nI (by omega) (by decide)), ix_nI (by omega), rd_M_clauseTo (oob_nI (by omega) (by decide)), ix_nI (by omega), show nI (H.o i) % 720 = nI (H.o i % 720) from nI_mod (b := 720) (by omega) (by decide), c_M_isIn, clI_ok, ← eb]
        cases e : bu j with
        | false => rw [if_pos (show zb false = 0 from rfl), sumN_f e]; rfl
        | true => rw [if_neg (show ¬ zb true = 0 by decide), rd_M_clausePart (oob_nI (by omega) (by decide)), ix_nI (by omega), e4, nI_add, sumN_t e]; rfl
      · rw [if_neg (show ¬ nI (s j) = 0 from fun z => c ((nI_eq (b := 0) (by omega) (by decide)).mp z)), sumN_f (by
          rw [hbu]
          unfold buB
          cases e : Nat.beq (s j) 0 with
          | false => rfl
          | true => exact absurd (Nat.eq_of_beq_eq_true e) c)]; rfl
    · exact fin _ _ (bl (Nat.le_refl R)) (Or.inr ⟨l, rfl, l5, eR, hR, rfl⟩) (by rw [hbu]; rfl)
theorem c_M_lateOf (k : MK H m n g) {i qq : Nat} (hi : i < m) (hb : H.bk i = true) {lo : Option Nat} {f : Nat → Nat} (q : LawAt L scr g (H.o i / 720) lo f) (hf : LB f) (hq : qq ≤ 720) (eq : hI g 1342000120 0 i = nI qq) : E L scr (d + 3) 269 [vR 900012 0, vI (nI i)] g = some (some (vI (nI (ltN f (H.mi i) qq))), g) := by
  have hmn := k.2.2.1
  have hn := k.2.1
  obtain ⟨-, mb, -⟩ := mk_mi k hi hb
  have f12 := hf.1 12
  have f13 := hf.1 13
  have f14 := hf.1 14
  refine r_M_lateOf _ _ _ (Sm.ret ?_)
  rw [t_M_lateOf_0, c_M_lawBy k (by omega) q, clI_ok, c_M_minsOf k hi hb, clI_ok, rd_M_booked (oob_nI (by omega) (by decide)), ix_nI (by omega), eq, show (14 : Int32) = nI 14 from rfl, c_M_saidN q (by decide), clI_ok]
  unfold ltN
  by_cases c : H.mi i ≤ qq + f 14
  · rw [if_pos ((sub_leI (by omega) (by omega) (by omega)).mpr c), if_pos c]; rfl
  · rw [if_neg (fun z => c ((sub_leI (by omega) (by omega) (by omega)).mp z)), if_neg c, show (13 : Int32) = nI 13 from rfl, c_M_saidN q (by decide), clI_ok, nI_sub (by omega), c_M_begun (by omega) hf.2.2.1 (by omega), clI_ok, show (12 : Int32) = nI 12 from rfl, c_M_saidN q (by decide), clI_ok, nI_mul, Nat.mul_comm]
theorem sumN_add {p : Nat → Bool} {a : Nat} : ∀ j, sumN p (fun _ => 1) (a + j) = sumN p (fun _ => 1) a + sumN (fun y => p (a + y)) (fun _ => 1) j
  | 0 => rfl
  | j + 1 => by
    have ih := sumN_add (p := p) (a := a) j
    cases e : p (a + j) with
    | true => rw [← Nat.add_assoc, sumN_t e, sumN_t (p := fun y => p (a + y)) e, ih]; rfl
    | false => rw [← Nat.add_assoc, sumN_f e, sumN_f (p := fun y => p (a + y)) e, ih]
/-- wet with an hour of rain more, or none -/
theorem c_M_wetOf (k : MK H m n g) {i pr : Nat} {more : Int32} {ry my : Nat → Bool} (hi : i < m) (hb : H.bk i = true) (hp : pr ≤ 7182810) {lo : Option Nat} {f : Nat → Nat} (q : LawAt L scr g (H.o i / 720) lo f) (hf : LB f) (hry : ∀ d y, y < 720 → E L scr (d + 2) 237 [vR 900012 0, vI (nI (H.o i / 720)), vI (nI y)] g = some (some (vI (zb (ry y))), g)) (hmy : (more = -1 ∧ ∀ y, my y = false) ∨ (more ≠ -1 ∧ ∀ y, y < 720 → inB (nI y) more (more + 59) = my y)) : E L scr (d + 3) 270 [vR 900012 0, vI (nI i), vI (nI pr), vI more] g = some (some (vI (nI (wtN f pr (H.mi i) (sumN (fun y => ry (H.o i % 720 + y) || my (H.o i % 720 + y)) (fun _ => 1) (H.mi i))))), g) := by
  have hmn := k.2.2.1
  have hn := k.2.1
  obtain ⟨⟨o1, o2⟩, -, -, -, e5, -⟩ := k.2.2.2 i (by omega)
  obtain ⟨b0, b1, b2, b3⟩ := e5 hi hb
  obtain ⟨-, mb, mc⟩ := mk_mi k hi hb
  have em : H.b i = H.o i + H.mi i := by unfold HN.mi; omega
  obtain ⟨W, hW⟩ : ∃ W : Nat → Nat, W = sumN (fun y => ry (H.o i % 720 + y) || my (H.o i % 720 + y)) (fun _ => 1) := ⟨_, rfl⟩
  have Wl : ∀ x, W x ≤ x := fun x => by
    have := sumN_le (p := fun y => ry (H.o i % 720 + y) || my (H.o i % 720 + y)) (v := fun _ => 1) (m := 1) (n := x) (fun _ _ => Nat.le_refl 1)
    rw [hW]; omega
  rw [← hW]
  by_cases c : H.mi i = 0
  · refine r_M_wetOf _ _ _ _ _ (Sm.ret ?_)
    rw [t_M_wetOf_0, c_M_minsOf k hi hb, clI_ok, c, if_pos (by decide)]
    unfold wtN
    rw [if_pos rfl]; rfl
  · refine r_M_wetOf _ _ _ _ _ (Sm.step (t' := 2) (lo' := [some (vR 900012 0), some (vI (nI i)), some (vI (nI pr)), some (vI more), some (vI (nI (W 0))), some (vI (nI (H.o i + 0)))]) (st' := []) (h' := g) ?_ ?_)
    · rw [t_M_wetOf_0, c_M_minsOf k hi hb, clI_ok, if_neg (show ¬ nI (H.mi i) = 0 from fun z => c ((nI_eq (b := 0) (by omega) (by decide)).mp z)), rd_M_outAt (oob_nI (by omega) (by decide)), ix_nI (by omega), o1, hW]; rfl
    refine Sm.for (lo := fun j => [some (vR 900012 0), some (vI (nI i)), some (vI (nI pr)), some (vI more), some (vI (nI (W j))), some (vI (nI (H.o i + j)))]) (hh := fun _ => g) (H.mi i) (fun j hj => ?_) (Sm.ret ?_)
    · have d1 : nI (H.o i + j) / 720 = nI (H.o i / 720) := by rw [show nI (H.o i + j) / 720 = nI ((H.o i + j) / 720) from nI_div (b := 720) (by omega) (by decide)]; exact congrArg nI (by omega)
      have d2 : nI (H.o i + j) % 720 = nI (H.o i % 720 + j) := by rw [show nI (H.o i + j) % 720 = nI ((H.o i + j) % 720) from nI_mod (b := 720) (by omega) (by decide)]; exact congrArg nI (by omega)
      have ws : W (j + 1) = W j + if (ry (H.o i % 720 + j) || my (H.o i % 720 + j)) = true then 1 else 0 := by
        rw [hW]
        cases e : (ry (H.o i % 720 + j) || my (H.o i % 720 + j)) with
        | true => rw [sumN_t (p := fun y => ry (H.o i % 720 + y) || my (H.o i % 720 + y)) e]; rfl
        | false => rw [sumN_f (p := fun y => ry (H.o i % 720 + y) || my (H.o i % 720 + y)) e]; rfl
      rw [t_M_wetOf_2, rd_M_backAt (oob_nI (by omega) (by decide)), ix_nI (by omega), b0, if_neg (nI_ge (by omega) (by omega)), dvI_ok (by decide), dvI_ok (by decide), d1, d2, hry (d) _ (by omega), clI_ok, nI_1]
      cases e1 : ry (H.o i % 720 + j) with
      | true =>
        rw [e1, Bool.true_or, if_pos rfl] at ws
        rw [if_neg (show ¬ zb true = 0 by decide), c_M_one, clI_ok, if_neg (by decide), nI_1, ws]; rfl
      | false =>
        rw [e1, Bool.false_or] at ws
        rw [if_pos (show zb false = 0 from rfl)]
        rcases hmy with ⟨rfl, hm0⟩ | ⟨hm1, hm2⟩
        · rw [hm0, if_neg (by decide)] at ws
          rw [if_pos rfl, c_M_one, clI_ok, if_pos rfl, Int32.add_zero, ws]; rfl
        · rw [if_neg hm1, dvI_ok (by decide), c_M_isIn, clI_ok, hm2 _ (by omega)]
          cases e2 : my (H.o i % 720 + j) with
          | true =>
            rw [e2, if_pos rfl] at ws
            rw [if_neg (show ¬ zb true = 0 by decide), c_M_one, clI_ok, if_neg (by decide), nI_1, ws]; rfl
          | false =>
            rw [e2, if_neg (by decide)] at ws
            rw [if_pos (show zb false = 0 from rfl), c_M_one, clI_ok, if_pos rfl, Int32.add_zero, ws]; rfl
    · have h15 := hf.2.2.2
      have wl := Wl (H.mi i)
      have c1 : pr * f 15 ≤ 7182810 * 100 := Nat.mul_le_mul hp h15
      have c2 : pr * f 15 * W (H.mi i) ≤ 7182810 * 100 * 720 := Nat.mul_le_mul c1 (by omega)
      have m0 := mb
      rw [t_M_wetOf_2, rd_M_backAt (oob_nI (by omega) (by decide)), ix_nI (by omega), b0, if_pos (nI_le (by omega) (by omega)), c_M_lawBy k (by omega) q, clI_ok, show (15 : Int32) = nI 15 from rfl, c_M_saidN q (by decide), clI_ok, c_M_minsOf k hi hb, clI_ok]
      unfold wtN
      rw [if_neg c, i2l_nI (by omega), i2l_nI (by omega), i2l_nI (by omega), i2l_nI (by omega), show (100 : Int64) = lN 100 from rfl, ← lNmulR, ← lNmulR, ← lNmulR, dvJ_ok (fun z => (show 100 * H.mi i ≠ 0 by omega) ((lN0 (by omega)).mp z)), lNdiv (by omega) (by omega), lN_i]
theorem c_M_cushionsOf (k : MK H m n g) {i ca cb : Nat} (hi : i < n) {lo : Option Nat} {f : Nat → Nat} (q : LawAt L scr g (H.o i / 720) lo f) (hca : ca ≤ 9) (hcb : cb ≤ 9) (e1 : hI g 1352000120 0 i = nI ca) (e2 : hI g 1353000120 0 i = nI cb) : E L scr (d + 3) 272 [vR 900012 0, vI (nI i)] g = some (some (vI (nI ((ca - cb) * f 16))), g) := by
  have hn := k.2.1
  refine r_M_cushionsOf _ _ _ (Sm.ret ?_)
  rw [t_M_cushionsOf_0, rd_M_taken (oob_nI (by omega) (by decide)), ix_nI (by omega), e1, rd_M_brought (oob_nI (by omega) (by decide)), ix_nI (by omega), e2, c_max, clI_ok, max0_nI (by omega) (by omega), c_M_lawBy k hi q, clI_ok, show (16 : Int32) = nI 16 from rfl, c_M_saidN q (by decide), clI_ok, nI_mul]
end MBill2

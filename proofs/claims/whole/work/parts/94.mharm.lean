/-! BILLS: harm, and what is owed, on the reference's side -/
/-- the part of the harm -/
def hpN (s p : Nat → Nat) (φ : Nat → (Nat → Int32) → Bool) (R : Nat) (v : Nat → Int32) : Nat := match ffst (fitB s φ 1 v) R with
  | some j => p j
  | none => 100
section MHarm
variable {L : Nat} {scr : Nat → Int32} {d : Nat}
variable {H : HN} {m n : Nat} {g : MH}
theorem hp_le {s p : Nat → Nat} {φ : Nat → (Nat → Int32) → Bool} {R : Nat} {v : Nat → Int32} (h : ∀ i, i < R → p i ≤ 100) : hpN s p φ R v ≤ 100 := by
  unfold hpN
  cases e : ffst (fitB s φ 1 v) R with
  | none => exact Nat.le_refl _
  | some j => exact h j (ffst_some e).1
theorem c_M_harmOf (k : MK H m n g) {i sw u ns mm R : Nat} {s p : Nat → Nat} {φ : Nat → (Nat → Int32) → Bool} {v : Nat → Int32} (hi : i < n) {lo : Option Nat} {f : Nat → Nat} (q : LawAt L scr g (H.o i / 720) lo f) (hr : LawRs g mm R s p φ lo) (hs : sw ≤ 9999) (es : hI g 1351000120 0 i = nI sw) (eo : E L scr (d + 5) 249 [vR 900012 0, vI (nI (H.o i))] g = some (some (vI (nI u)), g)) (hu : u < 2 ^ 20) (hns : ns ≤ 40) (en : hI g 1326 0 0 = nI ns) (ev : v = askF (hI g 1330000100 0 (H.o i / 720)) (zb (anyB (rainP (hI g 1332000040 0) (hI g 1333000040 0) (hI g 1334000040 0) (nI (H.o i / 720)) (nI (H.o i % 720))) ns)) (nI (H.o i / 720)) (nI (H.o i / 720 % 7)) (nI (H.o i % 720)) (nI (pcN 20 u)) (nI (H.kd i)) (weedF (hI g 1327 0 0) (wkF (hI g 1331000100 0) (H.o i / 720)))) : ∃ h', E L scr (d + 6) 271 [vR 900012 0, vI (nI i)] g = some (some (vI (nI (sw * hpN s p φ R v / 100))), h') ∧ Upd [(1320000008, 0), (1321200064, 0)] g h' := by
  have hmn := k.2.2.1
  have hn := k.2.1
  obtain ⟨⟨o1, o2⟩, -⟩ := k.2.2.2 i hi
  obtain ⟨h2, eA, uA, vA⟩ := c_M_asks (L := L) (scr := scr) (d := d + 1) (h := g) (x := H.o i) (n := ns) (nI (H.kd i)) (nI (pcN 20 u)) o2 hns en
  rw [← ev] at vA
  have res : ∀ (g' : MH) (pp : Nat), pp ≤ 100 → hI g' 1351000120 0 i = nI sw → rdI 0 g' 1351000120 0 (nI i) (fun x1 => dvI 100 (some (.inr (some (vI ((x1 * nI pp) / 100)), g')) : Option Exit)) = some (.inr (some (vI (nI (sw * pp / 100))), g')) := fun g' pp hp e => by
    have : sw * pp ≤ 9999 * 100 := Nat.mul_le_mul hs hp
    rw [rd_M_swamped (oob_nI (by omega) (by decide)), ix_nI (by omega), e, dvI_ok (by decide), nI_mul, show (100 : Int32) = nI 100 from rfl, nI_div (by omega) (by decide)]
  have A0 : dn L scr (E L scr (d + 5)) B_M_harmOf C_M_harmOf 0 [some (vR 900012 0), some (vI (nI i)), none, none, none, none] [] g = some (.inl (1, [some (vR 900012 0), some (vI (nI i)), some (vI (oI lo)), some (vI (nI 100)), some (vI 0), some (vI (40 * oI lo))], [], h2)) := by
    rw [t_M_harmOf_0, c_M_lawBy k hi q, clI_ok, rd_M_outAt (oob_nI (by omega) (by decide)), ix_nI (by omega), o1, c_M_kindBy k hi, clI_ok, rd_M_outAt (oob_nI (by omega) (by decide)), ix_nI (by omega), o1, eo, clI_ok, c_M_bits hu, clI_ok, eA, clV_ok]; rfl
  have s2 : hI h2 1351000120 0 i = nI sw := by rw [uA.2 _ _ (by decide)]; exact es
  cases lo with
  | none =>
    obtain ⟨-, rfl⟩ := hr
    refine ⟨h2, r_M_harmOf _ _ _ (Sm.step A0 (Sm.ret ?_)), uA.mono (by decide)⟩
    rw [t_M_harmOf_1, if_pos (show oI none = -1 from rfl), res h2 100 (Nat.le_refl _) s2]; rfl
  | some l =>
    obtain ⟨-, l5, RE⟩ := hr
    have q2 := RE.up (uA.sites (by decide))
    have o1n : ¬ oI (some l) = -1 := fun z => by
      have z : nI l = -1 := z
      have := congrArg Int32.toInt z
      rw [nI_toInt (by omega)] at this
      have : (-1 : Int32).toInt = -1 := rfl
      omega
    have eol : oI (some l) = nI l := rfl
    have key : Sx L scr (d + 5) B_M_harmOf C_M_harmOf 0 [some (vR 900012 0), some (vI (nI i)), none, none, none, none] g (fun rr => ∃ h', rr = (some (vI (nI (sw * hpN s p φ R v / 100))), h') ∧ Upd [(1320000008, 0), (1321200064, 0)] g h') := by
      have A1 := A0
      rw [show (40 : Int32) * oI (some l) = nI (40 * l + 0) from nI_mul 40 l] at A1
      have hR := RE.1
      refine Sx.step A1 (Sx.inv0 (P := fun j lo h' => lo = [some (vR 900012 0), some (vI (nI i)), some (vI (oI (some l))), some (vI (nI 100)), some (vI 0), some (vI (nI (40 * l + j)))] ∧ Upd [(1321200064, 0)] h2 h' ∧ ∀ a, a < j → fitB s φ 1 v a = false) R ⟨rfl, Upd.rf _ h2, fun a ha => absurd ha (Nat.not_lt_zero a)⟩ ?_ ?_)
      · rintro j hj _ h3 ⟨rfl, u3, hno⟩ kk
        have q3 := q2.up (u3.sites (by decide))
        obtain ⟨-, -, eR3, hk3⟩ := id q3
        obtain ⟨t2, p2, -, e3, -, e4, -, k2⟩ := hk3 j hj
        have v3 : AskV (hI h3 1320000008 0) v := by rw [u3.2 _ _ (by decide)]; exact vA
        have pre : dn L scr (E L scr (d + 5)) B_M_harmOf C_M_harmOf 1 [some (vR 900012 0), some (vI (nI i)), some (vI (oI (some l))), some (vI (nI 100)), some (vI 0), some (vI (nI (40 * l + j)))] [] h3 = _ := t_M_harmOf_1 ..
        rw [if_neg o1n, eol, rd_M_clauses (oob_nI (by omega) (by decide)), ix_nI (by omega), eR3, show (40 : Int32) = nI 40 from rfl, nI_mul, nI_add, if_neg (nI_ge (by omega) (by omega)), if_pos rfl, rd_M_clauseKind (oob_nI (by omega) (by decide)), ix_nI (by omega), e3, nI_1] at pre
        by_cases c : s j = 1
        · obtain ⟨h4, e4', u4⟩ := c_condM (L := L) (scr := scr) (d := d + 4) (by omega) (by omega) v3 (k2 (by omega))
          rw [if_pos (show nI (s j) = 1 by rw [c]; rfl), e4', clI_ok] at pre
          have u34 := u3.tr u4
          cases ef : φ j v with
          | false =>
            rw [ef, if_pos (show zb false = 0 from rfl)] at pre
            refine Sx.step pre (kk _ _ ⟨rfl, u34, fun a ha => ?_⟩)
            rcases Nat.lt_succ_iff_lt_or_eq.mp ha with z | z
            · exact hno a z
            · rw [z, fit_e c, ef]
          | true =>
            have q4 := q2.up (u34.sites (by decide))
            obtain ⟨-, -, eR4, hk4⟩ := id q4
            obtain ⟨-, -, -, -, -, e5, -, -⟩ := hk4 j hj
            rw [ef, if_neg (show ¬ zb true = 0 by decide), rd_M_clausePart (oob_nI (by omega) (by decide)), ix_nI (by omega), e5] at pre
            have hp : hpN s p φ R v = p j := by
              unfold hpN
              rw [ffst_is hj (by rw [fit_e c]; exact ef) hno]
            refine Sx.step pre (Sx.ret (r := (some (vI (nI (sw * hpN s p φ R v / 100))), h4)) ?_ ⟨h4, rfl, (uA.mono (by decide)).tr (u34.mono (by decide))⟩)
            have s4 : hI h4 1351000120 0 i = nI sw := by rw [u34.2 _ _ (by decide)]; exact s2
            rw [t_M_harmOf_1, if_neg (show ¬ nI l = -1 from o1n), rd_M_clauses (oob_nI (by omega) (by decide)), ix_nI (by omega), eR4, show (40 : Int32) = nI 40 from rfl, nI_mul, nI_add, res h4 (p j) p2 s4, if_neg i0n1, hp]
            split <;> rfl
        · rw [if_neg (show ¬ nI (s j) = 1 from fun z => c ((nI_eq (b := 1) (by omega) (by decide)).mp z))] at pre
          refine Sx.step pre (kk _ _ ⟨rfl, u3, fun a ha => ?_⟩)
          rcases Nat.lt_succ_iff_lt_or_eq.mp ha with z | z
          · exact hno a z
          · rw [z]; exact fit_ff c
      · rintro _ h3 ⟨rfl, u3, hno⟩
        have q3 := q2.up (u3.sites (by decide))
        obtain ⟨-, -, eR3, -⟩ := id q3
        have s3 : hI h3 1351000120 0 i = nI sw := by rw [u3.2 _ _ (by decide)]; exact s2
        have hp : hpN s p φ R v = 100 := by
          unfold hpN
          rw [ffst_no hno]
        refine Sx.ret (r := (some (vI (nI (sw * hpN s p φ R v / 100))), h3)) ?_ ⟨h3, rfl, (uA.mono (by decide)).tr (u3.mono (by decide))⟩
        rw [t_M_harmOf_1, if_neg o1n, eol, rd_M_clauses (oob_nI (by omega) (by decide)), ix_nI (by omega), eR3, show (40 : Int32) = nI 40 from rfl, nI_mul, nI_add, if_pos (nI_le (Nat.le_refl _) (by omega)), res h3 100 (Nat.le_refl _) s3, hp]
    obtain ⟨_, k1, h', rfl, k2⟩ := key
    exact ⟨h', r_M_harmOf _ _ _ k1, k2⟩
end MHarm

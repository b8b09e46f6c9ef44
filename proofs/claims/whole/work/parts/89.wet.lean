/-! BILLS: wet minutes of a day counted -/
/-- does it rain on the day at minute y, by the first n spells -/
def rainY (g : MH) (dy n y : Nat) : Bool := anyB (rainP (hI g 802000040 0) (hI g 803000040 0) (hI g 804000040 0) (nI dy) (nI y)) n
def wetN (g : MH) (dy n : Nat) : Nat → Nat := sumN (rainY g dy n) (fun _ => 1)
theorem wetN_le {g : MH} {dy n x : Nat} : wetN g dy n x ≤ x := by
  have := sumN_le (p := rainY g dy n) (v := fun _ => 1) (m := 1) (n := x) (fun _ _ => Nat.le_refl 1)
  show sumN _ _ x ≤ x
  omega
/-- spells are spans of a day -/
def SpOk (g : MH) (n : Nat) : Prop := hI g 801 0 0 = nI n ∧ n ≤ 40 ∧ ∀ k, k < n → ∃ dy a b, dy < 100 ∧ a ≤ b ∧ b < 720 ∧ hI g 802000040 0 k = nI dy ∧ hI g 803000040 0 k = nI a ∧ hI g 804000040 0 k = nI b
section Wet
variable {L : Nat} {scr : Nat → Int32} {d : Nat}
theorem c_countWet {g : MH} {n dy : Nat} (hs : SpOk g n) (hd : dy < 100) : ∃ g', E L scr (d + 2) 96 [vR 900007 0, vI (nI dy), vR 1212000721 0] g = some (none, g') ∧ Upd [(1212000721, 0)] g g' ∧ ∀ x, x < 721 → hI g' 1212000721 0 x = nI (wetN g dy n x) := by
  obtain ⟨en, hn, hk⟩ := hs
  have key : Sx L scr (d + 1) B_River_countWet C_River_countWet 0 [some (vR 900007 0), some (vI (nI dy)), some (vR 1212000721 0), none, none] g (fun rr => ∃ g', rr = (none, g') ∧ Upd [(1212000721, 0)] g g' ∧ ∀ x, x < 721 → hI g' 1212000721 0 x = nI (wetN g dy n x)) := by
    refine Sx.step (t' := 1) (lo' := [some (vR 900007 0), some (vI (nI dy)), some (vR 1212000721 0), some (vI (nI 0)), none]) (h' := withR g [(1212000721, 0, filF (hI g 1212000721 0) 0 721)]) ?_ (Sx.inv0 (P := fun i lo h' => ∃ z4, lo = [some (vR 900007 0), some (vI (nI dy)), some (vR 1212000721 0), some (vI (nI i)), z4] ∧ Upd [(1212000721, 0)] g h' ∧ ∀ x, x < 721 → hI h' 1212000721 0 x = zb (decide (1 ≤ x) && rainY g dy i (x - 1))) n ⟨_, rfl, withR_Upd (fun q hq => by rw [List.mem_singleton] at hq; subst hq; exact List.mem_singleton.mpr rfl), fun x hx => ?_⟩ ?_ ?_)
    · rw [t_River_countWet_0, c_fill (N := 721) rfl rfl (by decide), clV_ok]; rfl
    · rw [withR_hit]
      show (if x < 721 then (0 : Int32) else _) = _
      rw [if_pos hx, show rainY g dy 0 (x - 1) = false from rfl, Bool.and_false]; rfl
    · rintro i hi _ h1 ⟨z4, rfl, u, hr⟩ kk
      obtain ⟨dy2, a, b, h1', h2, h3, e1, e2, e3⟩ := hk i hi
      have uu : ∀ a b, (a, b) ∉ [(1212000721, 0)] → hI h1 a b = hI g a b := u.2
      have rp : ∀ y, y < 720 → rainP (hI g 802000040 0) (hI g 803000040 0) (hI g 804000040 0) (nI dy) (nI y) i = decide (dy2 = dy ∧ a ≤ y ∧ y ≤ b) := fun y hy => by
        unfold rainP
        apply decide_eq_decide.mpr
        rw [e1, e2, e3, nI_eq (by omega) (by omega), nI_leI (by omega) (by omega), nI_leI (by omega) (by omega)]
      have rs : ∀ y, y < 720 → rainY g dy (i + 1) y = (rainY g dy i y || decide (dy2 = dy ∧ a ≤ y ∧ y ≤ b)) := fun y hy => by
        rw [← rp y hy]; rfl
      by_cases c : dy2 = dy
      · refine Sx.step (t' := 2) (lo' := [some (vR 900007 0), some (vI (nI dy)), some (vR 1212000721 0), some (vI (nI i)), some (vI (nI (a + 0)))]) (h' := h1) ?_ (Sx.inv0 (P := fun j lo h' => lo = [some (vR 900007 0), some (vI (nI dy)), some (vR 1212000721 0), some (vI (nI i)), some (vI (nI (a + j)))] ∧ Upd [(1212000721, 0)] g h' ∧ ∀ x, x < 721 → hI h' 1212000721 0 x = zb (decide (1 ≤ x) && (rainY g dy i (x - 1) || decide (a ≤ x - 1 ∧ x - 1 < a + j)))) (b + 1 - a) ⟨rfl, u, fun x hx => by rw [hr x hx, decide_eq_false (show ¬ (a ≤ x - 1 ∧ x - 1 < a + 0) by omega), Bool.or_false]⟩ ?_ ?_)
        · rw [t_River_countWet_1, uu _ _ (by decide), en, if_neg (nI_ge hi (by omega)), rd_River_spellDay (oob_nI (by omega) (by decide)), ix_nI (by omega), uu _ _ (by decide), e1, if_pos (by rw [c]), rd_River_spellFrom (oob_nI (by omega) (by decide)), ix_nI (by omega), uu _ _ (by decide), e2]; rfl
        · rintro j hj _ h2' ⟨rfl, u2, hr2⟩ kk2
          refine Sx.step (t' := 2) (lo' := [some (vR 900007 0), some (vI (nI dy)), some (vR 1212000721 0), some (vI (nI i)), some (vI (nI (a + (j + 1))))]) (h' := sI h2' 1212000721 0 (a + j + 1) 1) ?_ (kk2 _ _ ⟨rfl, u2.sI (by decide), fun x hx => ?_⟩)
          · rw [t_River_countWet_2, rd_River_spellTo (oob_nI (by omega) (by decide)), ix_nI (by omega), u2.2 _ _ (by decide), e3, if_neg (nI_nlt (by omega) (by omega)), nI_1, wr_P_wetBy (oob_nI (by omega) (by decide)), ix_nI (by omega)]; rfl
          · rw [hI_rs]
            by_cases e : x = a + j + 1
            · rw [e, up_s, decide_eq_true (show 1 ≤ a + j + 1 by omega), decide_eq_true (show a ≤ a + j + 1 - 1 ∧ a + j + 1 - 1 < a + (j + 1) by omega), Bool.or_true]; rfl
            · rw [up_n e, hr2 x hx]
              by_cases e0 : 1 ≤ x
              · rw [show decide (a ≤ x - 1 ∧ x - 1 < a + (j + 1)) = decide (a ≤ x - 1 ∧ x - 1 < a + j) from decide_eq_decide.mpr (by omega)]
              · rw [decide_eq_false e0, Bool.false_and, Bool.false_and]
        · rintro _ h2' ⟨rfl, u2, hr2⟩
          refine Sx.step (t' := 1) (lo' := [some (vR 900007 0), some (vI (nI dy)), some (vR 1212000721 0), some (vI (nI (i + 1))), some (vI (nI (a + (b + 1 - a))))]) (h' := h2') ?_ (kk _ _ ⟨_, rfl, u2, fun x hx => ?_⟩)
          · rw [t_River_countWet_2, rd_River_spellTo (oob_nI (by omega) (by decide)), ix_nI (by omega), u2.2 _ _ (by decide), e3, if_pos (nI_lt (by omega) (by omega)), nI_1]
          · rw [hr2 x hx]
            by_cases e0 : 1 ≤ x
            · rw [rs (x - 1) (by omega), show decide (dy2 = dy ∧ a ≤ x - 1 ∧ x - 1 ≤ b) = decide (a ≤ x - 1 ∧ x - 1 < a + (b + 1 - a)) from decide_eq_decide.mpr (by omega)]
            · rw [decide_eq_false e0, Bool.false_and, Bool.false_and]
      · refine Sx.step (t' := 1) (lo' := [some (vR 900007 0), some (vI (nI dy)), some (vR 1212000721 0), some (vI (nI (i + 1))), z4]) (h' := h1) ?_ (kk _ _ ⟨_, rfl, u, fun x hx => ?_⟩)
        · rw [t_River_countWet_1, uu _ _ (by decide), en, if_neg (nI_ge hi (by omega)), rd_River_spellDay (oob_nI (by omega) (by decide)), ix_nI (by omega), uu _ _ (by decide), e1, if_neg (fun z => c ((nI_eq (by omega) (by omega)).mp z)), nI_1]
        · rw [hr x hx]
          by_cases e0 : 1 ≤ x
          · rw [rs (x - 1) (by omega), decide_eq_false (show ¬ (dy2 = dy ∧ a ≤ x - 1 ∧ x - 1 ≤ b) from fun z => c z.1), Bool.or_false]
          · rw [decide_eq_false e0, Bool.false_and, Bool.false_and]
    · rintro _ h1 ⟨z4, rfl, u, hr⟩
      have ea : ∀ k : Int32 → Option Exit, aln 0 1212000721 k = k 721 := fun k => if_pos rfl
      refine Sx.step (t' := 5) (lo' := [some (vR 900007 0), some (vI (nI dy)), some (vR 1212000721 0), some (vI (nI (0 + 1))), z4]) (h' := h1) ?_ (Sx.inv0 (P := fun j lo h' => lo = [some (vR 900007 0), some (vI (nI dy)), some (vR 1212000721 0), some (vI (nI (j + 1))), z4] ∧ Upd [(1212000721, 0)] g h' ∧ ∀ x, x < 721 → hI h' 1212000721 0 x = if x ≤ j then nI (wetN g dy n x) else zb (rainY g dy n (x - 1))) 720 ⟨rfl, u, fun x hx => ?_⟩ ?_ ?_)
      · rw [t_River_countWet_1, u.2 _ _ (by decide), en, if_pos (nI_le (Nat.le_refl _) (by omega))]; rfl
      · rw [hr x hx]
        by_cases e0 : 1 ≤ x
        · rw [if_neg (by omega), decide_eq_true e0, Bool.true_and]
        · rw [if_pos (by omega), decide_eq_false e0, show x = 0 by omega]; rfl
      · rintro j hj _ h2' ⟨rfl, u2, hr2⟩ kk2
        have r1 := hr2 (j + 1) (by omega)
        have r0 := hr2 j (by omega)
        rw [if_neg (by omega), Nat.add_sub_cancel] at r1
        rw [if_pos (Nat.le_refl j)] at r0
        have ew : zb (rainY g dy n j) + nI (wetN g dy n j) = nI (wetN g dy n (j + 1)) := by
          cases e : rainY g dy n j with
          | true => rw [show wetN g dy n (j + 1) = wetN g dy n j + 1 from sumN_t e, Nat.add_comm, ← nI_add]; rfl
          | false => rw [show wetN g dy n (j + 1) = wetN g dy n j from sumN_f e]; exact Int32.zero_add _
        refine Sx.step (t' := 5) (lo' := [some (vR 900007 0), some (vI (nI dy)), some (vR 1212000721 0), some (vI (nI (j + 1 + 1))), z4]) (h' := sI h2' 1212000721 0 (j + 1) (nI (wetN g dy n (j + 1)))) ?_ (kk2 _ _ ⟨rfl, u2.sI (by decide), fun x hx => ?_⟩)
        · rw [t_River_countWet_5, ea, if_neg (show ¬ (721 : Int32) ≤ nI (j + 1) from nI_ge (b := 721) (by omega) (by decide)), rd_P_wetBy (oob_nI (by omega) (by decide)), ix_nI (by omega), r1, nI_pred, rd_P_wetBy (oob_nI (by omega) (by decide)), ix_nI (by omega), r0, ew, wr_P_wetBy (oob_nI (by omega) (by decide)), ix_nI (by omega), nI_1]
        · rw [hI_rs]
          by_cases e : x = j + 1
          · rw [e, up_s, if_pos (Nat.le_refl _)]
          · rw [up_n e, hr2 x hx]
            by_cases e2 : x ≤ j
            · rw [if_pos e2, if_pos (by omega)]
            · rw [if_neg e2, if_neg (by omega)]
      · rintro _ h2' ⟨rfl, u2, hr2⟩
        refine Sx.ret (r := (none, h2')) ?_ ⟨_, rfl, u2, fun x hx => ?_⟩
        · rw [t_River_countWet_5, ea, if_pos (by decide)]
        · rw [hr2 x hx, if_pos (by omega)]
  obtain ⟨_, k1, g', rfl, k2⟩ := key
  exact ⟨g', r_River_countWet _ _ _ _ _ k1, k2⟩
end Wet

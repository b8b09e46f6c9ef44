/-! CALL: rolled, the reference's side -/
section Rolled2
variable {L : Nat} {scr : Nat → Int32} {d : Nat}
def RoM (a t : Nat → Nat) (n : Nat) (h : MH) : Prop := hI h 1360 0 0 = nI n ∧ (∀ k, hI h 1362000007 0 k = nI (a k)) ∧ (∀ k, hI h 1363000007 0 k = nI (t k))
abbrev WRm : List (Nat × Nat) := [(1361, 0), (1365000007, 0), (1364000007, 0)]
theorem RoM.up {a t : Nat → Nat} {n : Nat} {h0 h : MH} (f : RoM a t n h0) (u : Upd WRm h0 h) : RoM a t n h := by
  obtain ⟨f1, f2, f3⟩ := f
  exact ⟨by rw [u.2 _ _ (by decide)]; exact f1, by rw [u.2 _ _ (by decide)]; exact f2, by rw [u.2 _ _ (by decide)]; exact f3⟩
theorem c_M_orders {a t : Nat → Nat} {n : Nat} (hn : n ≤ 7) {o : Nat} (ho : o < fac n) {h : MH} (f : RoM a t n h) : ∃ h', E L scr (d + 2) 300 [vR 900012 0, vI (nI o), vI (nI (fac n))] h = some (none, h') ∧ Upd [(1364000007, 0)] h h' ∧ ∀ i, i < n → hI h' 1364000007 0 i = nI ((prT a t n n o).2.2.2 i) := by
  have fn := fac_le hn
  have key : Sx L scr (d + 1) B_M_orders C_M_orders 0 [some (vR 900012 0), some (vI (nI o)), some (vI (nI (fac n))), none, none, none, none, none, none] h (fun rr => ∃ h', rr = (none, h') ∧ Upd [(1364000007, 0)] h h' ∧ ∀ i, i < n → hI h' 1364000007 0 i = nI (boT a t n o i)) := by
    refine Sx.step (t' := 1) (lo' := [some (vR 900012 0), some (vI (nI o)), some (vI (nI (fac n))), some (vI (nI o)), some (vI (nI (fac n))), some (vI (nI (2 ^ n - 1))), some (vI (nI 0)), none, none]) (h' := h) ?_ (Sx.inv0 (P := fun i lo h' => ∃ l z7 z8, lo = [some (vR 900012 0), some (vI (nI o)), some (vI (nI (fac n))), some (vI (nI (o % fac (n - i)))), some (vI (nI (fac (n - i)))), some (vI (nI l)), some (vI (nI i)), z7, z8] ∧ l < 128 ∧ (∀ b, b < 7 → bitB (nI l) (nI b) = (poT a t n o i).1 b) ∧ Upd [(1364000007, 0)] h h' ∧ ∀ j, j < i → hI h' 1364000007 0 j = nI (boT a t n o j)) n ⟨_, _, _, by rw [Nat.sub_zero, Nat.mod_eq_of_lt ho], (all_bit hn (show 0 < 7 by decide)).2.1, fun b hb => (all_bit hn hb).2.2, Upd.rf _ h, fun j hj => absurd hj (Nat.not_lt_zero j)⟩ ?_ ?_)
    · rw [t_M_orders_0, f.1, (all_bit hn (show 0 < 7 by decide)).1]; rfl
    · rintro i hi _ h1 ⟨l, z7, z8, rfl, hl, hb, hu, hr⟩ kk
      have F := f.up (hu.mono (by decide))
      obtain ⟨r, hr'⟩ : ∃ r, r = n - (i + 1) := ⟨_, rfl⟩
      have er : n - i = r + 1 := by omega
      have kk' : ∀ lo' h', (∃ l z7 z8, lo' = [some (vR 900012 0), some (vI (nI o)), some (vI (nI (fac n))), some (vI (nI (o % fac r))), some (vI (nI (fac r))), some (vI (nI l)), some (vI (nI (i + 1))), z7, z8] ∧ l < 128 ∧ (∀ b, b < 7 → bitB (nI l) (nI b) = (poT a t n o (i + 1)).1 b) ∧ Upd [(1364000007, 0)] h h' ∧ ∀ j, j < i + 1 → hI h' 1364000007 0 j = nI (boT a t n o j)) → _ := fun lo' h' p => kk lo' h' (by rw [← hr']; exact p)
      obtain ⟨B, hB⟩ : ∃ B, B = boT a t n o i := ⟨_, rfl⟩
      obtain ⟨hB1, hB2, hB3⟩ := po_ok (a := a) (t := t) hn (o := o) hi
      rw [← hB, ← hr', er] at hB3
      rw [← hB] at hB1 hB2
      obtain ⟨u, hud⟩ : ∃ u, u = (poT a t n o i).1 := ⟨_, rfl⟩
      rw [← hud] at hB2 hB3 hb
      obtain ⟨j, hj⟩ : ∃ j, j = o / fac r % (r + 1) := ⟨_, rfl⟩
      rw [← hj] at hB3
      have fr := fac_le (n := r) (by omega)
      have fr0 := fac_pos r
      have fr1 := fac_le (n := r + 1) (by omega)
      have dm := fac_dm (o := o) (r := r)
      have om : o % fac (r + 1) < fac (r + 1) := Nat.mod_lt _ (fac_pos _)
      have jl : j ≤ 7 := by rw [hj]; have := Nat.mod_lt (o / fac r) (show 0 < r + 1 by omega); omega
      have ed : fac (r + 1) / (r + 1) = fac r := by
        show (r + 1) * fac r / (r + 1) = fac r
        rw [Nat.mul_comm, Nat.mul_div_cancel _ (by omega)]
      rw [er]
      refine Sx.step (t' := 2) (lo' := [some (vR 900012 0), some (vI (nI o)), some (vI (nI (fac n))), some (vI (nI (o % fac r))), some (vI (nI (fac r))), some (vI (nI l)), some (vI (nI i)), some (vI (nI (j - lfN u 0))), some (vI (nI 0))]) (h' := h1) ?_ ?_
      · have e1 : nI (fac (r + 1)) / (nI n - nI i) = nI (fac r) := by rw [nI_sub (by omega), er, nI_div (by omega) (by omega), ed]
        rw [t_M_orders_1, F.1, if_neg (nI_ge hi (by omega)), e1, dvI_ok (fun z => (show n - i ≠ 0 by omega) ((nI_eq (b := 0) (by omega) (by decide)).mp (by rw [← nI_sub (by omega)]; exact z))), dvI_ok (fun z => (show fac r ≠ 0 by omega) ((nI_eq (b := 0) (by omega) (by decide)).mp z)), dvI_ok (fun z => (show fac r ≠ 0 by omega) ((nI_eq (b := 0) (by omega) (by decide)).mp z)), nI_div (by omega) (by omega), nI_mod (by omega) (by omega), dm.1, dm.2, ← hj]; rfl
      have lo_le : ∀ b, b ≤ B → lfN u b ≤ j := fun b hb2 => by rw [← hB3]; exact lfN_mono hb2
      refine Sx.inv0 (P := fun b lo h' => lo = [some (vR 900012 0), some (vI (nI o)), some (vI (nI (fac n))), some (vI (nI (o % fac r))), some (vI (nI (fac r))), some (vI (nI l)), some (vI (nI i)), some (vI (nI (j - lfN u b))), some (vI (nI b))] ∧ h' = h1) B ⟨rfl, rfl⟩ ?_ ?_
      · rintro b hb2 _ h' ⟨rfl, rfl⟩ kk2
        have l1 := lo_le (b + 1) (by omega)
        refine Sx.step (t' := 2) (lo' := [some (vR 900012 0), some (vI (nI o)), some (vI (nI (fac n))), some (vI (nI (o % fac r))), some (vI (nI (fac r))), some (vI (nI l)), some (vI (nI i)), some (vI (nI (j - lfN u (b + 1)))), some (vI (nI (b + 1)))]) (h' := h') ?_ (kk2 _ _ ⟨rfl, rfl⟩)
        rw [t_M_orders_2, c_M_has, clI_ok, hb b (by omega)]
        cases eu : u b with
        | false =>
          rw [lfN_f eu, if_pos (show zb false = 0 from rfl), c_M_has, clI_ok, hb b (by omega), eu, c_M_one, clI_ok, if_pos (show zb false = 0 from rfl), nI_1, Int32.sub_zero]
        | true =>
          rw [lfN_t eu] at l1
          rw [lfN_t eu, if_neg (show ¬ zb true = 0 by decide), if_neg (show ¬ nI (j - lfN u b) ≤ 0 from nI_ge (a := 0) (b := j - lfN u b) (by omega) (by omega)), c_M_has, clI_ok, hb b (by omega), eu, c_M_one, clI_ok, if_neg (show ¬ zb true = 0 by decide), nI_1, show (1 : Int32) = nI 1 from rfl, nI_sub (by omega), Nat.sub_sub]
      · rintro _ h' ⟨rfl, rfl⟩
        obtain ⟨V, hV, eV, bV⟩ := an_bit hl (show B < 7 by omega)
        refine Sx.step (t' := 1) (lo' := [some (vR 900012 0), some (vI (nI o)), some (vI (nI (fac n))), some (vI (nI (o % fac r))), some (vI (nI (fac r))), some (vI (nI V)), some (vI (nI (i + 1))), some (vI (nI 0)), some (vI (nI B))]) (h' := sI h' 1364000007 0 i (nI B)) ?_ (kk' _ _ ⟨V, _, _, rfl, hV, fun b hb2 => ?_, hu.sI (by decide), fun x hx => ?_⟩)
        · rw [t_M_orders_2, c_M_has, clI_ok, hb B (by omega), hB2, if_neg (show ¬ zb true = 0 by decide), hB3, Nat.sub_self, if_pos (show nI 0 ≤ 0 by decide), wr_M_turn (oob_nI (by omega) (by decide)), ix_nI (by omega), eV, nI_1]
        · rw [bV b hb2, hb b hb2, po_s hi, ← hB]
          show _ = if b = B then false else (poT a t n o i).1 b
          rw [← hud]
          by_cases e : b = B
          · rw [if_pos e, e, show Nat.beq B B = true from Nat.beq_refl B, Bool.not_true, Bool.and_false]
          · rw [if_neg e, show Nat.beq b B = false from by
              cases z : Nat.beq b B with
              | false => rfl
              | true => exact absurd (Nat.eq_of_beq_eq_true z) e, Bool.not_false, Bool.and_true]
        · rw [hI_rs]
          by_cases e : x = i
          · rw [e, up_s, hB]
          · rw [up_n e, hr x (by omega)]
    · rintro _ h1 ⟨l, z7, z8, rfl, hl, hb, hu, hr⟩
      refine Sx.ret (r := (none, h1)) ?_ ⟨_, rfl, hu, hr⟩
      rw [t_M_orders_1, (f.up (hu.mono (by decide))).1, if_pos (nI_le (Nat.le_refl n) (by omega))]
  obtain ⟨_, k1, h', rfl, k2, k3⟩ := key
  refine ⟨h', r_M_orders _ _ _ _ k1, k2, fun i hi => ?_⟩
  rw [k3 i hi, ← po_n, po_row (Nat.le_refl n) hi]
theorem c_M_waits {a t : Nat → Nat} {n : Nat} (hn : n ≤ 7) (ha : ∀ b, a b ≤ 719) (ht : ∀ b, t b ≤ 99) {o : Nat} {h : MH} (f : RoM a t n h) (hr : ∀ i, i < n → hI h 1364000007 0 i = nI ((prT a t n n o).2.2.2 i)) : E L scr (d + 2) 301 [vR 900012 0] h = some (some (vI (nI (wvT a t n o))), h) := by
  have hr2 : ∀ i, i < n → hI h 1364000007 0 i = nI (boT a t n o i) := fun i hi => by rw [hr i hi, ← po_n, po_row (Nat.le_refl n) hi]
  refine r_M_waits _ _ (Sm.step (t' := 1) (lo' := [some (vR 900012 0), some (vI (nI (poT a t n o 0).2.1)), some (vI (nI (poT a t n o 0).2.2.1)), some (vI (nI 0)), none]) (st' := []) (h' := h) (t_M_waits_0 ..) ?_)
  refine Sm.inv0 (P := fun i lo h' => ∃ z4, lo = [some (vR 900012 0), some (vI (nI (poT a t n o i).2.1)), some (vI (nI (poT a t n o i).2.2.1)), some (vI (nI i)), z4] ∧ h' = h) n ⟨_, rfl, rfl⟩ ?_ ?_
  · rintro i hi _ h' ⟨z4, rfl, rfl⟩ kk
    obtain ⟨bd1, bd2⟩ := wv_bd (n := n) ha ht hn (q := o / fac (n - i)) (d := i) (by omega)
    have bd1 : (poT a t n o i).2.1 ≤ 1412 := bd1
    have bd2 : (poT a t n o i).2.2.1 ≤ 9884 := bd2
    obtain ⟨hB1, -, -⟩ := po_ok (a := a) (t := t) hn (o := o) hi
    obtain ⟨B, hB⟩ : ∃ B, B = boT a t n o i := ⟨_, rfl⟩
    have eB := hr2 i hi
    rw [← hB] at eB hB1
    have va := ha B
    have vt := ht B
    refine Sm.step (t' := 1) (lo' := [some (vR 900012 0), some (vI (nI (poT a t n o (i + 1)).2.1)), some (vI (nI (poT a t n o (i + 1)).2.2.1)), some (vI (nI (i + 1))), some (vI (nI (max (poT a t n o i).2.1 (a B))))]) (st' := []) (h' := h') ?_ (kk _ _ ⟨_, rfl, rfl⟩)
    rw [t_M_waits_1, f.1, if_neg (nI_ge hi (by omega)), rd_M_turn (oob_nI (by omega) (by decide)), ix_nI (by omega), eB, rd_M_rollAt (oob_nI (by omega) (by decide)), ix_nI (by omega), f.2.1, c_max, clI_ok, max_nI (by omega) (by omega), rd_M_turn (oob_nI (by omega) (by decide)), ix_nI (by omega), eB, rd_M_rollAt (oob_nI (by omega) (by decide)), ix_nI (by omega), f.2.1, rd_M_turn (oob_nI (by omega) (by decide)), ix_nI (by omega), eB, rd_M_rollTakes (oob_nI (by omega) (by decide)), ix_nI (by omega), f.2.2, nI_add, nI_sub (by omega), nI_add, nI_1, po_s hi, ← hB]; rfl
  · rintro _ h' ⟨z4, rfl, rfl⟩
    refine Sm.ret ?_
    rw [t_M_waits_1, f.1, if_pos (nI_le (Nat.le_refl n) (by omega)), po_n]; rfl
/-- what the reference found among the first k orders -/
def StM (a t : Nat → Nat) (n : Nat) (h0 h : MH) (k : Nat) : Prop := Upd WRm h0 h ∧ match bsO a t n k with
  | none => hI h 1361 0 0 = 1000000000
  | some p => hI h 1361 0 0 = nI (wvT a t n p) ∧ ∀ i, i < n → hI h 1365000007 0 i = nI ((prT a t n n p).2.2.2 i)
theorem M_loop {a t : Nat → Nat} {n : Nat} (hn : n ≤ 7) (ha : ∀ b, a b ≤ 719) (ht : ∀ b, t b ≤ 99) {h0 : MH} (f : RoM a t n h0) (w : Int32) (h : MH) (hS : StM a t n h0 h 0) (Q : RT → Prop) (fin : ∀ z4 z5 h', StM a t n h0 h' (fac n) → Sx L scr (d + 3) B_M_rolled C_M_rolled 4 [some (vR 900012 0), some (vI w), some (vI (nI (fac n))), some (vI (nI (fac n))), z4, z5] h' Q) (z4 z5 : Option MV) : Sx L scr (d + 3) B_M_rolled C_M_rolled 4 [some (vR 900012 0), some (vI w), some (vI (nI (fac n))), some (vI (nI 0)), z4, z5] h Q := by
  have fn := fac_le hn
  refine Sx.inv0 (P := fun o lo h' => ∃ z4 z5, lo = [some (vR 900012 0), some (vI w), some (vI (nI (fac n))), some (vI (nI o)), z4, z5] ∧ StM a t n h0 h' o) (fac n) ⟨_, _, rfl, hS⟩ ?_ ?_
  · rintro o ho _ h1 ⟨z4, z5, rfl, hS1⟩ kk
    obtain ⟨u1, hm⟩ := hS1
    obtain ⟨h2, e2, u2, r2⟩ := c_M_orders (L := L) (scr := scr) (d := d + 1) hn ho (f.up u1)
    have u3 := u1.tr (u2.mono (W2 := WRm) (by decide))
    have e3 := c_M_waits (L := L) (scr := scr) (d := d + 1) hn ha ht (f.up u3) r2
    have bo : wvT a t n o ≤ 9884 := (wv_bd (n := n) ha ht hn (q := o) (Nat.le_refl n)).2
    have ebs : bsO a t n (o + 1) = match bsO a t n o with
      | none => some o
      | some p => if wvT a t n o < wvT a t n p then some o else some p := rfl
    have es : hI h2 1361 0 = hI h1 1361 0 := u2.2 _ _ (by decide)
    have et : hI h2 1365000007 0 = hI h1 1365000007 0 := u2.2 _ _ (by decide)
    -- a better order is taken over
    have take : nI (wvT a t n o) < hI h2 1361 0 0 → bsO a t n (o + 1) = some o → Sx L scr (d + 3) B_M_rolled C_M_rolled 4 [some (vR 900012 0), some (vI w), some (vI (nI (fac n))), some (vI (nI o)), z4, z5] h1 Q := fun c eb => by
      refine Sx.step (t' := 6) (lo' := [some (vR 900012 0), some (vI w), some (vI (nI (fac n))), some (vI (nI o)), some (vI (nI (wvT a t n o))), some (vI (nI 0))]) (h' := sI h2 1361 0 0 (nI (wvT a t n o))) ?_ ?_
      · rw [t_M_rolled_4, if_neg (nI_ge ho (by omega)), e2, clV_ok, e3, clI_ok, if_pos c]; rfl
      refine Sx.inv0 (P := fun i lo h' => lo = [some (vR 900012 0), some (vI w), some (vI (nI (fac n))), some (vI (nI o)), some (vI (nI (wvT a t n o))), some (vI (nI i))] ∧ Upd WRm h0 h' ∧ hI h' 1361 0 0 = nI (wvT a t n o) ∧ (∀ j, j < n → hI h' 1364000007 0 j = nI ((prT a t n n o).2.2.2 j)) ∧ ∀ j, j < i → hI h' 1365000007 0 j = nI ((prT a t n n o).2.2.2 j)) n ⟨rfl, u3.sI (by decide), by rw [hI_rs, up_s], fun j hj => by rw [hI_rn (by decide)]; exact r2 j hj, fun j hj => absurd hj (Nat.not_lt_zero j)⟩ ?_ ?_
      · rintro i hi _ h3 ⟨rfl, u4, s4, r4, q4⟩ kk2
        refine Sx.step (t' := 6) (lo' := [some (vR 900012 0), some (vI w), some (vI (nI (fac n))), some (vI (nI o)), some (vI (nI (wvT a t n o))), some (vI (nI (i + 1)))]) (h' := sI h3 1365000007 0 i (nI ((prT a t n n o).2.2.2 i))) ?_ (kk2 _ _ ⟨rfl, u4.sI (by decide), by rw [hI_rn (by decide)]; exact s4, fun j hj => by rw [hI_rn (by decide)]; exact r4 j hj, fun j hj => ?_⟩)
        · rw [t_M_rolled_6, (f.up u4).1, if_neg (nI_ge hi (by omega)), rd_M_turn (oob_nI (by omega) (by decide)), ix_nI (by omega), r4 i hi, wr_M_rolledTurn (oob_nI (by omega) (by decide)), ix_nI (by omega), nI_1]
        · rw [hI_rs]
          by_cases e : j = i
          · rw [e, up_s]
          · rw [up_n e, q4 j (by omega)]
      · rintro _ h3 ⟨rfl, u4, s4, r4, q4⟩
        refine Sx.step (t' := 4) (lo' := [some (vR 900012 0), some (vI w), some (vI (nI (fac n))), some (vI (nI (o + 1))), some (vI (nI (wvT a t n o))), some (vI (nI n))]) (h' := h3) ?_ (kk _ _ ⟨_, _, rfl, u4, ?_⟩)
        · rw [t_M_rolled_6, (f.up u4).1, if_pos (nI_le (Nat.le_refl n) (by omega)), nI_1]
        · rw [eb]; exact ⟨s4, q4⟩
    cases eb : bsO a t n o with
    | none =>
      rw [eb] at hm ebs
      have hm : hI h1 1361 0 0 = 1000000000 := hm
      exact take (by
        rw [es, hm, Int32.lt_iff_toInt_lt, nI_toInt (by omega)]
        have : (1000000000 : Int32).toInt = 1000000000 := rfl
        omega) ebs
    | some p =>
      have bp : wvT a t n p ≤ 9884 := (wv_bd (n := n) ha ht hn (q := p) (Nat.le_refl n)).2
      rw [eb] at hm ebs
      have hm : hI h1 1361 0 0 = nI (wvT a t n p) ∧ _ := hm
      by_cases c : wvT a t n o < wvT a t n p
      · exact take (by rw [es, hm.1]; exact nI_lt c (by omega)) (ebs.trans (if_pos c))
      · refine Sx.step (t' := 4) (lo' := [some (vR 900012 0), some (vI w), some (vI (nI (fac n))), some (vI (nI (o + 1))), some (vI (nI (wvT a t n o))), z5]) (h' := h2) ?_ (kk _ _ ⟨_, _, rfl, u3, ?_⟩)
        · rw [t_M_rolled_4, if_neg (nI_ge ho (by omega)), e2, clV_ok, e3, clI_ok, es, hm.1, if_neg (nI_nlt (by omega) (by omega)), nI_1]
        · rw [ebs.trans (if_neg c)]
          refine ⟨by rw [es]; exact hm.1, ?_⟩
          rw [et]; exact hm.2
  · rintro _ h1 ⟨z4, z5, rfl, hS1⟩
    exact fin z4 z5 h1 hS1
end Rolled2

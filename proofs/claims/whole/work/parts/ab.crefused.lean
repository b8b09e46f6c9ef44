/-! CONDITIONS, on the class's side, once refused -/
abbrev WLw (m : Nat) : List (Nat × Nat) := [(616000300, m), (615, m)]
/-- so many codes -/
def CdN (h : MH) (m b : Nat) : Prop := b ≤ 300 ∧ hI h 615 m 0 = nI b
theorem WLw_rd {m : Nat} : ∀ q ∈ WSc ++ WRd, q ∉ WLw m := by
  intro q hq hw
  simp only [WSc, WRd, WLw, List.cons_append, List.nil_append, List.mem_cons, List.not_mem_nil, or_false] at hq hw
  rcases hq with rfl | rfl | rfl | rfl <;> rcases hw with w | w <;> simp at w
section CRef
variable {L : Nat} {scr : Nat → Int32} {d : Nat}
theorem c_emit {h : MH} {m b : Nat} (x : Int32) (hb : CdN h m b) : ∃ h2, E L scr (d + 1) 55 [vR 900005 m, vI x] h = some (none, h2) ∧ Upd (WLw m) h h2 ∧ ((b < 300 ∧ hI h2 615 m 0 = nI (b + 1) ∧ hI h2 616000300 m = up (hI h 616000300 m) b x) ∨ (b = 300 ∧ h2 = h)) := by
  obtain ⟨b3, e⟩ := hb
  rcases Nat.lt_or_ge b 300 with c | c
  · refine ⟨sI (sI h 616000300 m b x) 615 m 0 (nI (b + 1)), r_Law_emit _ _ _ (Sm.ret ?_), ((Upd.rf _ h).sI (List.mem_cons_self ..)).sI (List.mem_cons_of_mem _ (List.mem_cons_self ..)), Or.inl ⟨c, ?_, ?_⟩⟩
    · rw [t_Law_emit_0, e, if_neg (show ¬ (300 : Int32) ≤ nI b from nI_ge (b := 300) c (by decide)), wr_Law_code (oob_nI (by omega) (by decide)), ix_nI (by omega)]
      have : hI (sI h 616000300 m b x) 615 m 0 = nI b := by
        simp only [hI_row, Nat.reduceEqDiff, false_and, if_false]
        exact e
      rw [this, nI_1]
    · simp only [hI_row, and_true, true_and, if_true, up_s]
    · simp only [hI_row, Nat.reduceEqDiff, false_and, and_true, true_and, if_true, if_false]
  · have : b = 300 := by omega
    refine ⟨h, r_Law_emit _ _ _ (Sm.ret ?_), Upd.rf _ h, Or.inr ⟨this, rfl⟩⟩
    rw [t_Law_emit_0, e, if_pos (show (300 : Int32) ≤ nI b from nI_le (a := 300) c (by omega))]
theorem c_emitN {h : MH} {m b : Nat} (x : Int32) (hb : CdN h m b) : ∃ h2 b2, E L scr (d + 1) 55 [vR 900005 m, vI x] h = some (none, h2) ∧ Upd (WLw m) h h2 ∧ CdN h2 m b2 := by
  obtain ⟨h2, e, u, ⟨c, e2, -⟩ | ⟨c, e2⟩⟩ := c_emit (L := L) (scr := scr) (d := d) x hb
  · exact ⟨h2, b + 1, e, u, by omega, e2⟩
  · exact ⟨h2, b, e, u, by rw [e2]; exact hb⟩
theorem c_takeR {h : MH} {ls : List (Nat × Nat)} {g : Nat} (c : CP h ls (.inr g)) (x : Int32) : E L scr (d + 1) 77 [vR 900006 0, vI x] h = some (none, h) := by
  obtain ⟨c1, c2, c3, c4, -⟩ := c
  have ng : ¬ nI g = -1 := nI_ne1 (by omega)
  exact r_Reader_take _ _ _ (Sm.ret (by rw [t_Reader_take_0, c4, if_neg ng, if_neg ng]))
theorem c_isCmp (x : Int32) (h : MH) : ∃ b : Bool, E L scr (d + 1) 71 [vI x] h = some (some (vI (zb b)), h) := by
  have k : ∀ b : Bool, E L scr (d + 1) 71 [vI x] h = some (some (vI (zb b)), h) → ∃ b : Bool, E L scr (d + 1) 71 [vI x] h = some (some (vI (zb b)), h) := fun b e => ⟨b, e⟩
  by_cases a : x = 60
  · exact k true (r_Reader_isComparison _ _ (Sm.ret (by rw [t_Reader_isComparison_0, if_pos a]; rfl)))
  · by_cases b : x = 61
    · exact k true (r_Reader_isComparison _ _ (Sm.ret (by rw [t_Reader_isComparison_0, if_neg a, if_pos b]; rfl)))
    · by_cases c : x = 62
      · exact k true (r_Reader_isComparison _ _ (Sm.ret (by rw [t_Reader_isComparison_0, if_neg a, if_neg b, if_pos c]; rfl)))
      · exact k false (r_Reader_isComparison _ _ (Sm.ret (by rw [t_Reader_isComparison_0, if_neg a, if_neg b, if_neg c]; rfl)))
theorem c_testOf (x y z : Int32) (h : MH) : E L scr (d + 1) 56 [vI x, vI y, vI z] h = some (some (vI (((x * 3) + y) * 1000 + z)), h) := r_Law_testOf _ _ _ _ (Sm.ret (by rw [t_Law_testOf_0]))
/-- the end of readOne, once refused -/
theorem one_9R {h : MH} {ls : List (Nat × Nat)} {g m b : Nat} (c : CP h ls (.inr g)) (hb : CdN h m b) (l2 l3 l4 l5 l6 k1 : Int32) : ∃ h2 b2, Sm L scr (d + 1) B_Reader_readOne C_Reader_readOne 9 [some (vR 900006 0), some (vR 900005 m), some (vI l2), some (vI l3), some (vI l4), some (vI l5), some (vI l6)] [vI k1, vR 900006 0] h (none, h2) ∧ Upd (WLw m) h h2 ∧ CdN h2 m b2 := by
  obtain ⟨h1, b1, e1, u1, n1⟩ := c_emitN (L := L) (scr := scr) (d := d) (((l4 * 3) + (l5 - 60)) * 1000 + (l6 - 1000)) hb
  by_cases p : (l3 - l2) % 2 = (1 : Int32)
  · obtain ⟨h2, b2, e2, u2, n2⟩ := c_emitN (L := L) (scr := scr) (d := d) (-1) n1
    refine ⟨h2, b2, Sm.ret ?_, u1.tr u2, n2⟩
    rw [t_Reader_readOne_9, c_takeR c, clV_ok, c_testOf, clI_ok, e1, clV_ok, dvI_ok (by decide), if_pos p, e2, clV_ok]
  · refine ⟨h1, b1, Sm.ret ?_, u1, n1⟩
    rw [t_Reader_readOne_9, c_takeR c, clV_ok, c_testOf, clI_ok, e1, clV_ok, dvI_ok (by decide), if_neg p]
theorem one_5R {h : MH} {ls : List (Nat × Nat)} {g m b : Nat} (c : CP h ls (.inr g)) (hb : CdN h m b) (l2 l3 l4 k1 : Int32) (z5 z6 : Option MV) : ∃ h2 b2, Sm L scr (d + 1) B_Reader_readOne C_Reader_readOne 5 [some (vR 900006 0), some (vR 900005 m), some (vI l2), some (vI l3), some (vI l4), z5, z6] [vI k1, vR 900006 0] h (none, h2) ∧ Upd (WLw m) h h2 ∧ CdN h2 m b2 := by
  obtain ⟨i, t, ea, i9, et, tt, -⟩ := c.cur
  have ob : ¬ oob (nI i) 901 := oob_nI i9 (by decide)
  have ixi : ix (nI i) = i := ix_nI (by omega)
  obtain ⟨q, eq⟩ := c_isCmp (L := L) (scr := scr) (d := d) (tkI t) h
  by_cases x6 : tkI t < 1000
  · obtain ⟨h2, b2, s, r⟩ := one_9R (L := L) (scr := scr) (d := d) c hb l2 l3 l4 (tkI t) (tkI t) (-3)
    refine ⟨h2, b2, Sm.step ?_ s, r⟩
    rw [t_Reader_readOne_5, c_takeR c, clV_ok, ea, rd_Reader_tokens ob, ixi, et, eq, clI_ok]
    cases q
    · rw [itF, c_takeR c, clV_ok, ea, rd_Reader_tokens ob, ixi, et, if_pos x6]
    · rw [itT, c_takeR c, clV_ok, ea, rd_Reader_tokens ob, ixi, et, if_pos x6]
  · obtain ⟨h2, b2, s, r⟩ := one_9R (L := L) (scr := scr) (d := d) c hb l2 l3 l4 (tkI t) (tkI t) (tkI t)
    refine ⟨h2, b2, Sm.step ?_ s, r⟩
    rw [t_Reader_readOne_5, c_takeR c, clV_ok, ea, rd_Reader_tokens ob, ixi, et, eq, clI_ok]
    cases q
    · rw [itF, c_takeR c, clV_ok, ea, rd_Reader_tokens ob, ixi, et, if_neg x6]
    · rw [itT, c_takeR c, clV_ok, ea, rd_Reader_tokens ob, ixi, et, if_neg x6]
theorem one_2R {h : MH} {ls : List (Nat × Nat)} {g m b : Nat} (c : CP h ls (.inr g)) (hb : CdN h m b) (l2 l3 : Int32) (z4 z5 z6 : Option MV) : ∃ h2 b2, Sm L scr (d + 1) B_Reader_readOne C_Reader_readOne 2 [some (vR 900006 0), some (vR 900005 m), some (vI l2), some (vI l3), z4, z5, z6] [] h (none, h2) ∧ Upd (WLw m) h h2 ∧ CdN h2 m b2 := by
  obtain ⟨i, t, ea, i9, et, tt, -⟩ := c.cur
  have ob : ¬ oob (nI i) 901 := oob_nI i9 (by decide)
  have ixi : ix (nI i) = i := ix_nI (by omega)
  obtain ⟨c1, c2, c3, c4, -⟩ := id c
  have ng : ¬ nI g = -1 := nI_ne1 (by omega)
  obtain ⟨k1, hk⟩ : ∃ k1 : Int32, k1 = if tkI t < 0 then -3 else if (8 : Int32) ≤ tkI t then -3 else tkI t := ⟨_, rfl⟩
  obtain ⟨h2, b2, s, r⟩ := one_5R (L := L) (scr := scr) (d := d) c hb l2 l3 (tkI t) k1 z5 z6
  refine ⟨h2, b2, Sm.step ?_ s, r⟩
  rw [t_Reader_readOne_2, ea, rd_Reader_tokens ob, ixi, et, c4, if_neg ng]
  by_cases o8 : (8 : Int32) ≤ l3
  · rw [if_pos o8]
    by_cases x0 : tkI t < 0
    · rw [if_pos x0] at hk ⊢
      rw [hk]
    · rw [if_neg x0] at hk ⊢
      by_cases x8 : (8 : Int32) ≤ tkI t
      · rw [if_pos x8] at hk ⊢
        rw [hk]
      · rw [if_neg x8] at hk ⊢
        rw [hk]
  · rw [if_neg o8]
    by_cases x0 : tkI t < 0
    · rw [if_pos x0] at hk ⊢
      rw [hk]
    · rw [if_neg x0] at hk ⊢
      by_cases x8 : (8 : Int32) ≤ tkI t
      · rw [if_pos x8] at hk ⊢
        rw [hk]
      · rw [if_neg x8] at hk ⊢
        rw [hk]
theorem one_1R {h : MH} {ls : List (Nat × Nat)} {g m b : Nat} (c : CP h ls (.inr g)) (hb : CdN h m b) (l2 l3 : Int32) (z4 z5 z6 : Option MV) : ∃ h2 b2, Sm L scr (d + 1) B_Reader_readOne C_Reader_readOne 1 [some (vR 900006 0), some (vR 900005 m), some (vI l2), some (vI l3), z4, z5, z6] [] h (none, h2) ∧ Upd (WLw m) h h2 ∧ CdN h2 m b2 := by
  obtain ⟨c1, c2, c3, c4, -⟩ := id c
  have ng : ¬ nI g = -1 := nI_ne1 (by omega)
  obtain ⟨h2, b2, s, r⟩ := one_2R (L := L) (scr := scr) (d := d) c hb l2 l3 z4 z5 z6
  refine ⟨h2, b2, Sm.step ?_ s, r⟩
  rw [t_Reader_readOne_1, c4, if_neg ng]
  by_cases o8 : (8 : Int32) ≤ l3
  · rw [if_pos o8]
  · rw [if_neg o8]
theorem c_readOneR {h : MH} {ls : List (Nat × Nat)} {g m b : Nat} (c : CP h ls (.inr g)) (hb : CdN h m b) (l2 : Int32) : ∃ h2 b2, E L scr (d + 2) 89 [vR 900006 0, vR 900005 m, vI l2] h = some (none, h2) ∧ Upd (WLw m) h h2 ∧ CdN h2 m b2 := by
  obtain ⟨h2, b2, s, r⟩ := one_1R (L := L) (scr := scr) (d := d) c hb l2 l2 none none none
  exact ⟨h2, b2, r_Reader_readOne (d := d + 1) _ _ _ _ (Sm.step (by rw [t_Reader_readOne_0]) s), r⟩
theorem c_readAllR {h : MH} {ls : List (Nat × Nat)} {g m b : Nat} (c : CP h ls (.inr g)) (hb : CdN h m b) (l2 : Int32) : ∃ h2 b2, E L scr (d + 3) 88 [vR 900006 0, vR 900005 m, vI l2] h = some (none, h2) ∧ Upd (WLw m) h h2 ∧ CdN h2 m b2 := by
  obtain ⟨h2, b2, e, u, n⟩ := c_readOneR (L := L) (scr := scr) (d := d) c hb l2
  obtain ⟨-, -, c3, c4, -⟩ := c.fr u WLw_rd
  have ng : ¬ nI g = -1 := nI_ne1 (by omega)
  refine ⟨h2, b2, r_Reader_readAll (d := d + 2) _ _ _ _ (Sm.step (by rw [t_Reader_readAll_0, e, clV_ok]) (Sm.ret ?_)), u, n⟩
  rw [t_Reader_readAll_1, if_neg (by decide), c4, if_neg ng]
theorem c_readAnyR {h : MH} {ls : List (Nat × Nat)} {g m b : Nat} (c : CP h ls (.inr g)) (hb : CdN h m b) (l2 : Int32) : ∃ h2 b2, E L scr (d + 4) 87 [vR 900006 0, vR 900005 m, vI l2] h = some (none, h2) ∧ Upd (WLw m) h h2 ∧ CdN h2 m b2 := by
  obtain ⟨h2, b2, e, u, n⟩ := c_readAllR (L := L) (scr := scr) (d := d) c hb l2
  obtain ⟨-, -, c3, c4, -⟩ := c.fr u WLw_rd
  have ng : ¬ nI g = -1 := nI_ne1 (by omega)
  refine ⟨h2, b2, r_Reader_readAny (d := d + 3) _ _ _ _ (Sm.step (by rw [t_Reader_readAny_0, e, clV_ok]) (Sm.ret ?_)), u, n⟩
  rw [t_Reader_readAny_1, if_neg (by decide), c4, if_neg ng]
end CRef

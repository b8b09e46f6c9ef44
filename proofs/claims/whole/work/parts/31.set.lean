/-! CALLS THAT SET: both sides, one call -/
section Set
variable {L : Nat} {scr : Nat → Int32} {d : Nat}
/-- one call on both sides: the same answer, the rows of W at most are changed, and behind it Q -/
def Both (L : Nat) (scr : Nat → Int32) (d : Nat) (W : List (Nat × Nat)) (Q : MH → Prop) (jx jm : Nat) (ax am : List MV) (h : MH) : Prop :=
  ∃ (r : MV) (h1 h2 : MH), E L scr d jx ax h = some (some r, h1) ∧ E L scr d jm am h1 = some (some r, h2) ∧ Upd W h h2 ∧ Q h2
theorem both0 {W : List (Nat × Nat)} {Q : MH → Prop} {jx jm : Nat} {ax am : List MV} {h : MH} {D : Nat} (r : MV) (a : E L scr D jx ax h = some (some r, h)) (b : E L scr D jm am h = some (some r, h)) (q : Q h) : Both L scr D W Q jx jm ax am h := ⟨r, h, h, a, b, Upd.rf W h, q⟩
theorem call_water (x y : Int32) (h : MH) (q : RWater h) : Both L scr (d + 40) SWater RWater 128 235 [vR 900011 0, vI x, vI y] [vR 900012 0, vI x, vI y] h := by
  cases hx : ixB x 100 with
  | false =>
    refine both0 (vI 0) (r_P_water _ _ _ _ (Sm.ret ?_)) (r_M_water _ _ _ _ (Sm.ret ?_)) q
    · rw [t_P_water_0, c_P_isDay, clI_ok, hx, itF, rtZ0]
    · rw [t_M_water_0, c_M_isDay, clI_ok, hx, itF, rtZ0]
  | true =>
    cases hy : inB y 0 99 with
    | false =>
      refine both0 (vI 0) (r_P_water _ _ _ _ (Sm.ret ?_)) (r_M_water _ _ _ _ (Sm.ret ?_)) q
      · rw [t_P_water_0, c_P_isDay, clI_ok, hx, itT, c_P_within, clI_ok, hy, itF, rtZ0]
      · rw [t_M_water_0, c_M_isDay, clI_ok, hx, itT, c_M_isIn, clI_ok, hy, itF, rtZ0]
    | true =>
      obtain ⟨k, hk, hk2, rfl⟩ := ixB_t hx
      refine ⟨vI 1, sI h 800000100 0 k y, sI (sI h 800000100 0 k y) 1330000100 0 k y, r_P_water _ _ _ _ (Sm.ret ?_), r_M_water _ _ _ _ (Sm.ret ?_), ((Upd.rf _ h).sI (by decide)).sI (by decide), ?_⟩
      · rw [t_P_water_0, c_P_isDay, clI_ok, hx, itT, c_P_within, clI_ok, hy, itT, wr_River_level (oob_nI hk (by decide)), rtZ1, ix_nI hk2]
      · rw [t_M_water_0, c_M_isDay, clI_ok, hx, itT, c_M_isIn, clI_ok, hy, itT, wr_M_water (oob_nI hk (by decide)), rtZ1, ix_nI hk2]
      · unfold RWater PWater at q ⊢
        rw [hI_rn (by decide), hI_rs, hI_rs, hI_rn (by decide), q]
theorem call_weed (x : Int32) (h : MH) (q : RWeed h) : Both L scr (d + 40) SWeed RWeed 137 238 [vR 900011 0, vI x] [vR 900012 0, vI x] h := by
  cases hx : inB x 0 99 with
  | false =>
    refine both0 (vI 0) (r_P_weed _ _ _ (Sm.ret ?_)) (r_M_weed _ _ _ (Sm.ret ?_)) q
    · rw [t_P_weed_0, c_P_within, clI_ok, hx, itF, rtZ0]
    · rw [t_M_weed_0, c_M_isIn, clI_ok, hx, itF, rtZ0]
  | true =>
    obtain ⟨k, hk, rfl⟩ := inB_t (n := 99) rfl hx
    refine ⟨vI 1, sI h 805 0 0 (nI k), sI (sI h 805 0 0 (nI k)) 1327 0 0 (nI k), r_P_weed _ _ _ (Sm.ret ?_), r_M_weed _ _ _ (Sm.ret ?_), ((Upd.rf _ h).sI (by decide)).sI (by decide), ?_⟩
    · rw [t_P_weed_0, c_P_within, clI_ok, hx, itT, rtZ1]
    · rw [t_M_weed_0, c_M_isIn, clI_ok, hx, itT, rtZ1]
    · unfold RWeed PWeed at q ⊢
      simp only [hI_row, up_s, Nat.reduceEqDiff, false_and, and_false, and_true, true_and, if_true, if_false, reduceIte]
      exact ⟨q.1, ⟨k, hk, rfl, rfl⟩, q.2.2⟩
theorem call_cut (x : Int32) (h : MH) (q : RWeed h) : Both L scr (d + 40) SWeed RWeed 138 239 [vR 900011 0, vI x] [vR 900012 0, vI x] h := by
  cases hx : ixB x 100 with
  | false =>
    refine both0 (vI 0) (r_P_cut _ _ _ (Sm.ret ?_)) (r_M_cut _ _ _ (Sm.ret ?_)) q
    · rw [t_P_cut_0, c_P_isDay, clI_ok, hx, itF, rtZ0]
    · rw [t_M_cut_0, c_M_isDay, clI_ok, hx, itF, rtZ0]
  | true =>
    obtain ⟨k, hk, hk2, rfl⟩ := ixB_t hx
    have q0 : hI h 806000100 0 = hI h 1331000100 0 := q.1
    rcases q.2.2 k with e | e
    · refine ⟨vI 1, sI h 806000100 0 k 1, sI (sI h 806000100 0 k 1) 1331000100 0 k 1, r_P_cut _ _ _ (Sm.ret ?_), r_M_cut _ _ _ (Sm.ret ?_), ((Upd.rf _ h).sI (by decide)).sI (by decide), ?_⟩
      · rw [t_P_cut_0, c_P_isDay, clI_ok, hx, itT, rd_River_cuts (oob_nI hk (by decide)), ix_nI hk2, e, if_pos rfl, wr_River_cuts (oob_nI hk (by decide)), rtZ1, ix_nI hk2]
      · rw [t_M_cut_0, c_M_isDay, clI_ok, hx, itT, rd_M_cutOn (oob_nI hk (by decide)), ix_nI hk2, hI_rn (by decide), ← q0, e, if_neg (by decide), wr_M_cutOn (oob_nI hk (by decide)), rtZ1, ix_nI hk2]
      · unfold RWeed PWeed at q ⊢
        simp only [hI_row, up_s, Nat.reduceEqDiff, false_and, and_false, and_true, true_and, if_true, if_false, reduceIte]
        refine ⟨by rw [q0], q.2.1, fun j => ?_⟩
        unfold up
        split
        · exact Or.inr rfl
        · exact q.2.2 j
    · refine both0 (vI 0) (r_P_cut _ _ _ (Sm.ret ?_)) (r_M_cut _ _ _ (Sm.ret ?_)) q
      · rw [t_P_cut_0, c_P_isDay, clI_ok, hx, itT, rd_River_cuts (oob_nI hk (by decide)), ix_nI hk2, e, if_neg i0n1, rtZ0]
      · rw [t_M_cut_0, c_M_isDay, clI_ok, hx, itT, rd_M_cutOn (oob_nI hk (by decide)), ix_nI hk2, ← q0, e, if_pos rfl, rtZ0]
theorem call_doubt (x y : Int32) (h : MH) (q : RDoubt h) : Both L scr (d + 40) SDoubt RDoubt 150 287 [vR 900011 0, vI x, vI y] [vR 900012 0, vI x, vI y] h := by
  cases hx : inB x 0 240 with
  | false =>
    refine both0 (vI 0) (r_P_doubt _ _ _ _ (Sm.ret ?_)) (r_M_doubt _ _ _ _ (Sm.ret ?_)) q
    · rw [t_P_doubt_0, c_P_within, clI_ok, hx, itF, rtZ0]
    · rw [t_M_doubt_0, c_M_isIn, clI_ok, hx, itF, rtZ0]
  | true =>
    cases hy : inB y 0 240 with
    | false =>
      refine both0 (vI 0) (r_P_doubt _ _ _ _ (Sm.ret ?_)) (r_M_doubt _ _ _ _ (Sm.ret ?_)) q
      · rw [t_P_doubt_0, c_P_within, clI_ok, hx, itT, c_P_within, clI_ok, hy, itF, rtZ0]
      · rw [t_M_doubt_0, c_M_isIn, clI_ok, hx, itT, c_M_isIn, clI_ok, hy, itF, rtZ0]
    | true =>
      obtain ⟨a, ha, rfl⟩ := inB_t (n := 240) rfl hx
      obtain ⟨b, hb, rfl⟩ := inB_t (n := 240) rfl hy
      refine ⟨vI 1, sI (sI h 214 0 0 (nI a)) 215 0 0 (nI b), sI (sI (sI (sI h 214 0 0 (nI a)) 215 0 0 (nI b)) 1328 0 0 (nI a)) 1329 0 0 (nI b), r_P_doubt _ _ _ _ (Sm.ret ?_), r_M_doubt _ _ _ _ (Sm.ret ?_), ((((Upd.rf _ h).sI (by decide)).sI (by decide)).sI (by decide)).sI (by decide), ?_⟩
      · rw [t_P_doubt_0, c_P_within, clI_ok, hx, itT, c_P_within, clI_ok, hy, itT, rtZ1]
      · rw [t_M_doubt_0, c_M_isIn, clI_ok, hx, itT, c_M_isIn, clI_ok, hy, itT, rtZ1]
      · unfold RDoubt PDoubt
        simp only [hI_row, up_s, Nat.reduceEqDiff, false_and, and_false, and_true, true_and, if_true, if_false, reduceIte]
        exact ⟨a, b, ha, hb, rfl, rfl, rfl, rfl⟩
theorem call_chance (x y z : Int32) (h : MH) (q : RChance h) : Both L scr (d + 40) SChance RChance 152 290 [vR 900011 0, vI x, vI y, vI z] [vR 900012 0, vI x, vI y, vI z] h := by
  cases hx : inB x 0 11 with
  | false =>
    refine both0 (vI 0) (r_P_chance _ _ _ _ _ (Sm.ret ?_)) (r_M_chance _ _ _ _ _ (Sm.ret ?_)) q
    · rw [t_P_chance_0, c_P_within, clI_ok, hx, itF, rtZ0]
    · rw [t_M_chance_0, c_M_isIn, clI_ok, hx, itF, rtZ0]
  | true =>
    cases hy : inB y 0 5 with
    | false =>
      refine both0 (vI 0) (r_P_chance _ _ _ _ _ (Sm.ret ?_)) (r_M_chance _ _ _ _ _ (Sm.ret ?_)) q
      · rw [t_P_chance_0, c_P_within, clI_ok, hx, itT, c_P_within, clI_ok, hy, itF, rtZ0]
      · rw [t_M_chance_0, c_M_isIn, clI_ok, hx, itT, c_M_isIn, clI_ok, hy, itF, rtZ0]
    | true =>
      cases hz : inB z 0 10 with
      | false =>
        refine both0 (vI 0) (r_P_chance _ _ _ _ _ (Sm.ret ?_)) (r_M_chance _ _ _ _ _ (Sm.ret ?_)) q
        · rw [t_P_chance_0, c_P_within, clI_ok, hx, itT, c_P_within, clI_ok, hy, itT, c_P_within, clI_ok, hz, itF, rtZ0]
        · rw [t_M_chance_0, c_M_isIn, clI_ok, hx, itT, c_M_isIn, clI_ok, hy, itT, c_M_isIn, clI_ok, hz, itF, rtZ0]
      | true =>
        obtain ⟨a, ha, rfl⟩ := inB_t (n := 11) rfl hx
        obtain ⟨b, hb, rfl⟩ := inB_t (n := 5) rfl hy
        obtain ⟨c, hc, rfl⟩ := inB_t (n := 10) rfl hz
        have e1 : nI a * 6 + nI b = nI (6 * a + b) := by rw [show (6 : Int32) = nI 6 from rfl, nI_mul, nI_add, Nat.mul_comm]
        have e2 : 6 * nI a + nI b = nI (6 * a + b) := by rw [show (6 : Int32) = nI 6 from rfl, nI_mul, nI_add]
        have hk : 6 * a + b < 72 := by omega
        refine ⟨vI 1, sI h 300000072 0 (6 * a + b) (nI c), sI (sI h 300000072 0 (6 * a + b) (nI c)) 1357000072 0 (6 * a + b) (nI c), r_P_chance _ _ _ _ _ (Sm.ret ?_), r_M_chance _ _ _ _ _ (Sm.ret ?_), ((Upd.rf _ h).sI (by decide)).sI (by decide), ?_⟩
        · rw [t_P_chance_0, c_P_within, clI_ok, hx, itT, c_P_within, clI_ok, hy, itT, c_P_within, clI_ok, hz, itT, e1, wr_Demand_parts (oob_nI hk (by decide)), rtZ1, ix_nI (by omega)]
        · rw [t_M_chance_0, c_M_isIn, clI_ok, hx, itT, c_M_isIn, clI_ok, hy, itT, c_M_isIn, clI_ok, hz, itT, e2, wr_M_chances (oob_nI hk (by decide)), rtZ1, ix_nI (by omega)]
        · unfold RChance PChance at q ⊢
          rw [hI_rn (by decide), hI_rs, hI_rs, hI_rn (by decide)]
          refine ⟨by rw [q.1], fun j => ?_⟩
          unfold up
          split
          · exact ⟨c, hc, rfl⟩
          · exact q.2 j
end Set

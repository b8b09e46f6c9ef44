/-! CALL: painted -/
def upN (f : Nat → Nat) (i v : Nat) : Nat → Nat := fun c => if c = i then v else f c
theorem upN_s (f : Nat → Nat) (i v : Nat) : upN f i v i = v := if_pos rfl
theorem upN_n {f : Nat → Nat} {i v j : Nat} (h : j ≠ i) : upN f i v j = f j := if_neg h
/-- i put into its place among the first ones of a row -/
def insR (gt : Nat → Nat → Bool) (i : Nat) : Nat → (Nat → Nat) → Nat → Nat
  | 0, O => upN O 0 i
  | j + 1, O => if gt i (O j) = true then insR gt i j (upN O (j + 1) (O j)) else upN O (j + 1) i
def srtR (gt : Nat → Nat → Bool) : Nat → Nat → Nat
  | 0 => fun _ => 0
  | k + 1 => insR gt k k (srtR gt k)
theorem insR_lt {gt : Nat → Nat → Bool} {i N : Nat} (hi : i < N) : ∀ {j : Nat} {O : Nat → Nat}, j ≤ i → (∀ m, m ≤ i → m ≠ j → O m < N) → ∀ m, m ≤ i → insR gt i j O m < N
  | 0, O, hj, h, m, hm => by
    unfold insR
    by_cases c : m = 0
    · rw [c, upN_s]; exact hi
    · rw [upN_n c]; exact h m hm c
  | j + 1, O, hj, h, m, hm => by
    unfold insR
    split
    · refine insR_lt hi (by omega) (fun m2 h2 h3 => ?_) m hm
      by_cases c : m2 = j + 1
      · rw [c, upN_s]; exact h j (by omega) (by omega)
      · rw [upN_n c]; exact h m2 h2 c
    · by_cases c : m = j + 1
      · rw [c, upN_s]; exact hi
      · rw [upN_n c]; exact h m hm c
theorem srtR_lt {gt : Nat → Nat → Bool} {N : Nat} : ∀ {k : Nat}, k ≤ N → ∀ m, m < k → srtR gt k m < N
  | 0, _, m, hm => absurd hm (Nat.not_lt_zero _)
  | k + 1, hk, m, hm => by
    show insR gt k k (srtR gt k) m < N
    exact insR_lt (by omega) (Nat.le_refl _) (fun m2 h2 h3 => srtR_lt (by omega) m2 (by omega)) m (by omega)
/-- time of both painters and coin lost over the first k of an order -/
def lsN (p : Nat → Bool) (wv cv : Nat → Nat) : Nat → Nat × Nat × Nat
  | 0 => (0, 0, 0)
  | k + 1 => if p k = true then ((lsN p wv cv k).1, (lsN p wv cv k).2.1 + wv k, (lsN p wv cv k).2.2 + ((lsN p wv cv k).2.1 + wv k) * cv k) else ((lsN p wv cv k).1 + wv k, (lsN p wv cv k).2.1, (lsN p wv cv k).2.2 + ((lsN p wv cv k).1 + wv k) * cv k)
theorem lsN_t {p : Nat → Bool} {wv cv : Nat → Nat} {k : Nat} (h : p k = true) : lsN p wv cv (k + 1) = ((lsN p wv cv k).1, (lsN p wv cv k).2.1 + wv k, (lsN p wv cv k).2.2 + ((lsN p wv cv k).2.1 + wv k) * cv k) := if_pos h
theorem lsN_f {p : Nat → Bool} {wv cv : Nat → Nat} {k : Nat} (h : p k = false) : lsN p wv cv (k + 1) = ((lsN p wv cv k).1 + wv k, (lsN p wv cv k).2.1, (lsN p wv cv k).2.2 + ((lsN p wv cv k).1 + wv k) * cv k) := if_neg (by rw [h]; decide)
theorem lsN_le {p : Nat → Bool} {wv cv : Nat → Nat} (hw : ∀ k, wv k ≤ 9) (hc : ∀ k, cv k ≤ 99) : ∀ n, (lsN p wv cv n).1 ≤ n * 9 ∧ (lsN p wv cv n).2.1 ≤ n * 9 ∧ (lsN p wv cv n).2.2 ≤ n * (n * 891)
  | 0 => ⟨Nat.le_refl _, Nat.le_refl _, Nat.le_refl _⟩
  | n + 1 => by
    obtain ⟨h1, h2, h3⟩ := lsN_le (p := p) hw hc n
    have w := hw n
    have c := hc n
    have m : ∀ a, a ≤ n * 9 → (a + wv n) * cv n ≤ (n + 1) * 891 := fun a ha => by
      have := Nat.mul_le_mul (show a + wv n ≤ (n + 1) * 9 by omega) c
      rw [Nat.mul_assoc] at this
      exact this
    have s : n * (n * 891) + (n + 1) * 891 ≤ (n + 1) * ((n + 1) * 891) := by
      rw [Nat.succ_mul n ((n + 1) * 891)]
      have : n * (n * 891) ≤ n * ((n + 1) * 891) := Nat.mul_le_mul (Nat.le_refl _) (by omega)
      omega
    cases e : p n with
    | true =>
      rw [lsN_t e]
      have := m _ h2
      exact ⟨by show (lsN p wv cv n).1 ≤ _; omega, by show (lsN p wv cv n).2.1 + wv n ≤ _; omega, by show (lsN p wv cv n).2.2 + _ ≤ _; omega⟩
    | false =>
      rw [lsN_f e]
      have := m _ h1
      exact ⟨by show (lsN p wv cv n).1 + wv n ≤ _; omega, by show (lsN p wv cv n).2.1 ≤ _; omega, by show (lsN p wv cv n).2.2 + _ ≤ _; omega⟩
section Painted
variable {L : Nat} {scr : Nat → Int32} {d : Nat}
/-- whether the i-th that dries goes ahead of the x-th -/
def gtB (wk ck : Nat → Int32) (b : Nat → Nat) (i x : Nat) : Bool := !decide (wk (b x) * ck (b i) ≤ wk (b i) * ck (b x))
theorem c_isSooner {g : MH} {N i x : Nat} {b : Nat → Nat} (hd : DockC g N b) (hi : i < N) (hx : x < N) : E L scr (d + 1) 36 [vR 900003 0, vI (nI i), vI (nI x)] g = some (some (vI (zb (gtB (hI g 400000020 0) (hI g 401000020 0) b i x))), g) := by
  obtain ⟨e1, e2, e3⟩ := hd
  have o1 : ¬ oob (nI i) 10 := oob_nI (by omega) (by decide)
  have o2 : ¬ oob (nI x) 10 := oob_nI (by omega) (by decide)
  have h1 := (e3 i hi).2
  have h2 := (e3 x hx).2
  have o3 : ¬ oob (nI (b i)) 20 := oob_nI h1 (by decide)
  have o4 : ¬ oob (nI (b x)) 20 := oob_nI h2 (by decide)
  refine r_Dock_isSooner _ _ _ _ (Sm.ret ?_)
  rw [t_Dock_isSooner_0, rd_Dock_dry o1, ix_nI (by omega), (e3 i hi).1, rd_Dock_dry o2, ix_nI (by omega), (e3 x hx).1, rd_Dock_dryWeeks o3, rd_Dock_dryCoin o4, rd_Dock_dryWeeks o4, rd_Dock_dryCoin o3, ix_nI (by omega), ix_nI (by omega)]
  unfold gtB
  by_cases c : hI g 400000020 0 (b x) * hI g 401000020 0 (b i) ≤ hI g 400000020 0 (b i) * hI g 401000020 0 (b x)
  · rw [if_pos c, decide_eq_true c, rtZ0]; rfl
  · rw [if_neg c, decide_eq_false c, rtZ1]; rfl
theorem nI_sub1 {j : Nat} : nI (j + 1) - 1 = nI j := nI_pred j
/-- the class's row in order -/
theorem ord_ins {g : MH} {N i : Nat} {b : Nat → Nat} (hd : DockC g N b) (hi : i < N) : ∀ (j : Nat) (ro : Nat → Int32) (O : Nat → Nat), j ≤ i → (∀ m, m ≤ i → m ≠ j → ro m = nI (O m) ∧ O m < N) → ∃ (ro2 : Nat → Int32) (jj : Int32), (∀ r, Sm L scr (d + 1) B_Dock_orderDry C_Dock_orderDry 1 [some (vR 900003 0), some (vI (nI (i + 1))), some (vI jj)] [] (withR g [(405000010, 0, ro2)]) r → Sm L scr (d + 1) B_Dock_orderDry C_Dock_orderDry 2 [some (vR 900003 0), some (vI (nI i)), some (vI (nI j))] [] (withR g [(405000010, 0, ro)]) r) ∧ ∀ m, m ≤ i → ro2 m = nI (insR (gtB (hI g 400000020 0) (hI g 401000020 0) b) i j O m)
  | 0, ro, O, _, h => by
    refine ⟨up ro 0 (nI i), nI 0, fun r kk => Sm.step ?_ kk, fun m hm => ?_⟩
    · rw [t_Dock_orderDry_2, if_pos (show nI 0 ≤ 0 by decide), wr_Dock_order (show ¬ oob (nI 0) 10 by decide), ix_nI (by decide), withR_set, nI_1]
    · unfold insR
      by_cases c : m = 0
      · rw [c, up_s, upN_s]
      · rw [up_n c, upN_n c]; exact (h m hm c).1
  | j + 1, ro, O, hj, h => by
    have hN : N ≤ 10 := hd.2.1
    have hO := h j (by omega) (by omega)
    have dk : DockC (withR g [(405000010, 0, ro)]) N b := by
      unfold DockC
      rw [withR_miss (by decide), withR_miss (by decide)]; exact hd
    have w1 : hI (withR g [(405000010, 0, ro)]) 400000020 0 = hI g 400000020 0 := by rw [withR_miss (by decide)]; rfl
    have w2 : hI (withR g [(405000010, 0, ro)]) 401000020 0 = hI g 401000020 0 := by rw [withR_miss (by decide)]; rfl
    have oj : ¬ oob (nI j) 10 := oob_nI (by omega) (by decide)
    have oj1 : ¬ oob (nI (j + 1)) 10 := oob_nI (by omega) (by decide)
    have e1 := c_isSooner (L := L) (scr := scr) (d := d) dk hi hO.2
    rw [w1, w2] at e1
    unfold insR
    cases hg : gtB (hI g 400000020 0) (hI g 401000020 0) b i (O j) with
    | false =>
      rw [hg] at e1
      refine ⟨up ro (j + 1) (nI i), nI (j + 1), fun r kk => Sm.step ?_ kk, fun m hm => ?_⟩
      · rw [t_Dock_orderDry_2, if_neg (show ¬ nI (j + 1) ≤ 0 from nI_ge (a := 0) (by omega) (by omega)), nI_sub1, rd_Dock_order oj, ix_nI (by omega), withR_hit, hO.1, e1, clI_ok, itF, wr_Dock_order oj1, ix_nI (by omega), withR_set, nI_1]
      · rw [if_neg (by decide)]
        by_cases c : m = j + 1
        · rw [c, up_s, upN_s]
        · rw [up_n c, upN_n c]; exact (h m hm c).1
    | true =>
      rw [hg] at e1
      rw [if_pos rfl]
      obtain ⟨ro2, jj, k1, k2⟩ := ord_ins hd hi j (up ro (j + 1) (nI (O j))) (upN O (j + 1) (O j)) (by omega) (fun m hm hmj => by
        by_cases c : m = j + 1
        · rw [c, up_s, upN_s]; exact ⟨rfl, hO.2⟩
        · rw [up_n c, upN_n c]; exact h m hm c)
      refine ⟨ro2, jj, fun r kk => Sm.step ?_ (k1 r kk), k2⟩
      rw [t_Dock_orderDry_2, if_neg (show ¬ nI (j + 1) ≤ 0 from nI_ge (a := 0) (by omega) (by omega)), nI_sub1, rd_Dock_order oj, ix_nI (by omega), withR_hit, hO.1, e1, clI_ok, itT, rd_Dock_order oj, ix_nI (by omega), withR_hit, hO.1, wr_Dock_order oj1, ix_nI (by omega), withR_set, nI_m1]
theorem c_orderDry {g : MH} {N : Nat} {b : Nat → Nat} (hd : DockC g N b) : ∃ ro : Nat → Int32, E L scr (d + 2) 35 [vR 900003 0] g = some (none, withR g [(405000010, 0, ro)]) ∧ ∀ m, m < N → ro m = nI (srtR (gtB (hI g 400000020 0) (hI g 401000020 0) b) N m) := by
  have hN : N ≤ 10 := hd.2.1
  have P : ∀ k, k ≤ N → ∃ (ro : Nat → Int32) (z2 : Option MV), (∀ r, Sm L scr (d + 1) B_Dock_orderDry C_Dock_orderDry 1 [some (vR 900003 0), some (vI (nI k)), z2] [] (withR g [(405000010, 0, ro)]) r → Sm L scr (d + 1) B_Dock_orderDry C_Dock_orderDry 1 [some (vR 900003 0), some (vI 0), none] [] g r) ∧ ∀ m, m < k → ro m = nI (srtR (gtB (hI g 400000020 0) (hI g 401000020 0) b) k m) := by
    intro k
    induction k with
    | zero => exact fun _ => ⟨hI g 405000010 0, none, fun r kk => by rw [withR_id1 (r := []) rfl] at kk; exact kk, fun m hm => absurd hm (Nat.not_lt_zero _)⟩
    | succ k ih =>
      intro hk
      obtain ⟨ro, z2, k1, k2⟩ := ih (by omega)
      obtain ⟨ro2, jj, k3, k4⟩ := ord_ins (L := L) (scr := scr) (d := d) hd (i := k) (by omega) k ro (srtR (gtB (hI g 400000020 0) (hI g 401000020 0) b) k) (Nat.le_refl _) (fun m hm hmk => ⟨k2 m (by omega), srtR_lt (by omega) m (by omega)⟩)
      refine ⟨ro2, some (vI jj), fun r kk => k1 r (Sm.step ?_ (k3 r kk)), fun m hm => k4 m (by omega)⟩
      rw [t_Dock_orderDry_1, withR_miss (by decide), show hI (withR g []) 406 0 0 = nI N from hd.1, if_neg (nI_ge (by omega) (by omega))]
  obtain ⟨ro, z2, k1, k2⟩ := P N (Nat.le_refl _)
  refine ⟨ro, r_Dock_orderDry _ _ (Sm.step (t_Dock_orderDry_0 ..) (k1 _ (Sm.ret ?_))), k2⟩
  rw [t_Dock_orderDry_1, withR_miss (by decide), show hI (withR g []) 406 0 0 = nI N from hd.1, if_pos (nI_le (Nat.le_refl _) (by omega))]
/-- the reference's row in order -/
theorem ordM_ins {g : MH} {N i : Nat} {b : Nat → Nat} (hd : DockM g N b) (hi : i < N) : ∀ (j : Nat) (ro : Nat → Int32) (O : Nat → Nat), j ≤ i → (∀ m, m ≤ i → m ≠ j → ro m = nI (O m) ∧ O m < N) → ∃ (ro2 : Nat → Int32) (jj : Int32), (∀ r, Sm L scr (d + 1) B_M_sorts C_M_sorts 1 [some (vR 900012 0), some (vI (nI (i + 1))), some (vI jj)] [] (withR g [(1379000020, 0, ro2)]) r → Sm L scr (d + 1) B_M_sorts C_M_sorts 2 [some (vR 900012 0), some (vI (nI i)), some (vI (nI j))] [] (withR g [(1379000020, 0, ro)]) r) ∧ ∀ m, m ≤ i → ro2 m = nI (insR (gtB (hI g 1374000020 0) (hI g 1375000020 0) b) i j O m)
  | 0, ro, O, _, h => by
    refine ⟨up ro 0 (nI i), nI 0, fun r kk => Sm.step ?_ kk, fun m hm => ?_⟩
    · rw [t_M_sorts_2, if_pos (show nI 0 ≤ 0 by decide), wr_M_inOrder (show ¬ oob (nI 0) 20 by decide), ix_nI (by decide), withR_set, nI_1]
    · unfold insR
      by_cases c : m = 0
      · rw [c, up_s, upN_s]
      · rw [up_n c, upN_n c]; exact (h m hm c).1
  | j + 1, ro, O, hj, h => by
    have hN : N ≤ 10 := hd.2.1
    have hO := h j (by omega) (by omega)
    have w1 : hI (withR g [(1379000020, 0, ro)]) 1374000020 0 = hI g 1374000020 0 := by rw [withR_miss (by decide)]; rfl
    have w2 : hI (withR g [(1379000020, 0, ro)]) 1375000020 0 = hI g 1375000020 0 := by rw [withR_miss (by decide)]; rfl
    have w3 : hI (withR g [(1379000020, 0, ro)]) 1378000020 0 = hI g 1378000020 0 := by rw [withR_miss (by decide)]; rfl
    have oj : ¬ oob (nI j) 20 := oob_nI (by omega) (by decide)
    have oj1 : ¬ oob (nI (j + 1)) 20 := oob_nI (by omega) (by decide)
    have oi : ¬ oob (nI i) 20 := oob_nI (by omega) (by decide)
    have oO : ¬ oob (nI (O j)) 20 := oob_nI (by omega) (by decide)
    have d1 := hd.2.2 i hi
    have d2 := hd.2.2 (O j) hO.2
    have ob1 : ¬ oob (nI (b i)) 20 := oob_nI d1.2 (by decide)
    have ob2 : ¬ oob (nI (b (O j))) 20 := oob_nI d2.2 (by decide)
    have i1 : b i < 20 := d1.2
    have i2 : b (O j) < 20 := d2.2
    unfold insR
    by_cases c : hI g 1374000020 0 (b (O j)) * hI g 1375000020 0 (b i) ≤ hI g 1374000020 0 (b i) * hI g 1375000020 0 (b (O j))
    · rw [show gtB (hI g 1374000020 0) (hI g 1375000020 0) b i (O j) = false by unfold gtB; rw [decide_eq_true c]; rfl]
      refine ⟨up ro (j + 1) (nI i), nI (j + 1), fun r kk => Sm.step ?_ kk, fun m hm => ?_⟩
      · rw [t_M_sorts_2, if_neg (show ¬ nI (j + 1) ≤ 0 from nI_ge (a := 0) (by omega) (by omega)), nI_sub1, rd_M_dry oi, ix_nI (by omega), w3, d1.1, rd_M_weeks ob1, ix_nI (by omega), w1, rd_M_inOrder oj, ix_nI (by omega), withR_hit, hO.1, rd_M_dry oO, ix_nI (by omega), w3, d2.1, rd_M_weekCoin ob2, ix_nI (by omega), w2, rd_M_inOrder oj, ix_nI (by omega), withR_hit, hO.1, rd_M_dry oO, ix_nI (by omega), w3, d2.1, rd_M_weeks ob2, ix_nI (by omega), w1, rd_M_dry oi, ix_nI (by omega), w3, d1.1, rd_M_weekCoin ob1, ix_nI (by omega), w2, if_pos c, wr_M_inOrder oj1, ix_nI (by omega), withR_set, nI_1]
      · rw [if_neg (by decide)]
        by_cases c : m = j + 1
        · rw [c, up_s, upN_s]
        · rw [up_n c, upN_n c]; exact (h m hm c).1
    · rw [show gtB (hI g 1374000020 0) (hI g 1375000020 0) b i (O j) = true by unfold gtB; rw [decide_eq_false c]; rfl, if_pos rfl]
      obtain ⟨ro2, jj, k1, k2⟩ := ordM_ins hd hi j (up ro (j + 1) (nI (O j))) (upN O (j + 1) (O j)) (by omega) (fun m hm hmj => by
        by_cases c : m = j + 1
        · rw [c, up_s, upN_s]; exact ⟨rfl, hO.2⟩
        · rw [up_n c, upN_n c]; exact h m hm c)
      refine ⟨ro2, jj, fun r kk => Sm.step ?_ (k1 r kk), k2⟩
      rw [t_M_sorts_2, if_neg (show ¬ nI (j + 1) ≤ 0 from nI_ge (a := 0) (by omega) (by omega)), nI_sub1, rd_M_dry oi, ix_nI (by omega), w3, d1.1, rd_M_weeks ob1, ix_nI (by omega), w1, rd_M_inOrder oj, ix_nI (by omega), withR_hit, hO.1, rd_M_dry oO, ix_nI (by omega), w3, d2.1, rd_M_weekCoin ob2, ix_nI (by omega), w2, rd_M_inOrder oj, ix_nI (by omega), withR_hit, hO.1, rd_M_dry oO, ix_nI (by omega), w3, d2.1, rd_M_weeks ob2, ix_nI (by omega), w1, rd_M_dry oi, ix_nI (by omega), w3, d1.1, rd_M_weekCoin ob1, ix_nI (by omega), w2, if_neg c, rd_M_inOrder oj, ix_nI (by omega), withR_hit, hO.1, wr_M_inOrder oj1, ix_nI (by omega), withR_set, nI_m1]
theorem c_M_sorts {g : MH} {N : Nat} {b : Nat → Nat} (hd : DockM g N b) : ∃ ro : Nat → Int32, E L scr (d + 2) 316 [vR 900012 0] g = some (none, withR g [(1379000020, 0, ro)]) ∧ ∀ m, m < N → ro m = nI (srtR (gtB (hI g 1374000020 0) (hI g 1375000020 0) b) N m) := by
  have hN : N ≤ 10 := hd.2.1
  have P : ∀ k, k ≤ N → ∃ (ro : Nat → Int32) (z2 : Option MV), (∀ r, Sm L scr (d + 1) B_M_sorts C_M_sorts 1 [some (vR 900012 0), some (vI (nI k)), z2] [] (withR g [(1379000020, 0, ro)]) r → Sm L scr (d + 1) B_M_sorts C_M_sorts 1 [some (vR 900012 0), some (vI 0), none] [] g r) ∧ ∀ m, m < k → ro m = nI (srtR (gtB (hI g 1374000020 0) (hI g 1375000020 0) b) k m) := by
    intro k
    induction k with
    | zero => exact fun _ => ⟨hI g 1379000020 0, none, fun r kk => by rw [withR_id1 (r := []) rfl] at kk; exact kk, fun m hm => absurd hm (Nat.not_lt_zero _)⟩
    | succ k ih =>
      intro hk
      obtain ⟨ro, z2, k1, k2⟩ := ih (by omega)
      obtain ⟨ro2, jj, k3, k4⟩ := ordM_ins (L := L) (scr := scr) (d := d) hd (i := k) (by omega) k ro (srtR (gtB (hI g 1374000020 0) (hI g 1375000020 0) b) k) (Nat.le_refl _) (fun m hm hmk => ⟨k2 m (by omega), srtR_lt (by omega) m (by omega)⟩)
      refine ⟨ro2, some (vI jj), fun r kk => k1 r (Sm.step ?_ (k3 r kk)), fun m hm => k4 m (by omega)⟩
      rw [t_M_sorts_1, withR_miss (by decide), show hI (withR g []) 1380 0 0 = nI N from hd.1, if_neg (nI_ge (by omega) (by omega))]
  obtain ⟨ro, z2, k1, k2⟩ := P N (Nat.le_refl _)
  refine ⟨ro, r_M_sorts _ _ (Sm.step (t_M_sorts_0 ..) (k1 _ (Sm.ret ?_))), k2⟩
  rw [t_M_sorts_1, withR_miss (by decide), show hI (withR g []) 1380 0 0 = nI N from hd.1, if_pos (nI_le (Nat.le_refl _) (by omega))]
end Painted

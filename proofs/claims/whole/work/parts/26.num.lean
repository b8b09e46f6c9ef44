/-! NUMBERS, heaps by rows, frames of runs -/
def inB (x l u : Int32) : Bool := decide (l ≤ x ∧ x ≤ u)
/-- a place below n -/
def ixB (x : Int32) (n : Nat) : Bool := decide (0 ≤ x ∧ x < nI n)
theorem ixB_t {x : Int32} {n : Nat} (h : ixB x n = true) : ∃ k, k < n ∧ k < 2 ^ 31 ∧ x = nI k := by
  unfold ixB at h
  have h := of_decide_eq_true h
  obtain ⟨j, hj, rfl⟩ := nI_of (x := x) (by have := h.1; rw [Int32.le_iff_toInt_le] at this; rw [Int32.lt_iff_toInt_lt]; omega)
  refine ⟨j, ?_, hj, rfl⟩
  rcases Nat.lt_or_ge n (2 ^ 31) with hn | hn
  · exact (nI_ltI hj hn).mp h.2
  · omega
theorem ixB_nI {k n : Nat} (hk : k < n) (hn : n < 2 ^ 31) : ixB (nI k) n = true := decide_eq_true ⟨nI_pos' (by omega), nI_lt hk hn⟩
theorem inB_t {x u : Int32} {n : Nat} (hu : u.toInt = n) (h : inB x 0 u = true) : ∃ k, k ≤ n ∧ x = nI k := by
  unfold inB at h
  have h := of_decide_eq_true h
  exact nI_of2 hu (by have := h.1; rw [Int32.le_iff_toInt_le] at this; rw [Int32.lt_iff_toInt_lt]; omega) h.2
theorem inB_ix {x u : Int32} {n : Nat} (hu : u.toInt = n) (hn : n + 1 < 2 ^ 31) : inB x 0 u = ixB x (n + 1) := by
  unfold inB ixB
  apply decide_eq_decide.mpr
  rw [Int32.le_iff_toInt_le, Int32.lt_iff_toInt_lt, Int32.le_iff_toInt_le, nI_toInt hn, hu]
  omega
theorem nlt0 {x : Int32} : ¬ x < 0 ↔ 0 ≤ x := by rw [Int32.lt_iff_toInt_lt, Int32.le_iff_toInt_le]; omega
theorem nle_i {x y : Int32} : ¬ x ≤ y ↔ y < x := by rw [Int32.lt_iff_toInt_lt, Int32.le_iff_toInt_le]; omega
theorem nlt_i {x y : Int32} : ¬ x < y ↔ y ≤ x := by rw [Int32.lt_iff_toInt_lt, Int32.le_iff_toInt_le]; omega
theorem ix_nI {k : Nat} (h : k < 2 ^ 31) : ix (nI k) = k := nI_clamp h
theorem oob_nI {k N : Nat} (h : k < N) (hN : N < 2 ^ 31) : ¬ oob (nI k) N := nI_in h hN
theorem nI_mul (a b : Nat) : nI a * nI b = nI (a * b) := (Int32.ofNat_mul a b).symm
theorem nI_sub {a b : Nat} (h : b ≤ a) : nI a - nI b = nI (a - b) := (Int32.ofNat_sub a b h).symm
/-- a row with one place changed -/
def up (f : Nat → Int32) (i : Nat) (v : Int32) : Nat → Int32 := fun c => if c = i then v else f c
theorem up_s (f : Nat → Int32) (i : Nat) (v : Int32) : up f i v i = v := if_pos rfl
theorem up_n {f : Nat → Int32} {i j : Nat} {v : Int32} (h : j ≠ i) : up f i v j = f j := if_neg h
theorem hI_row (h : MH) (s n i : Nat) (v : Int32) (a b : Nat) : hI (sI h s n i v) a b = if a = s ∧ b = n then up (hI h s n) i v else hI h a b := by
  funext c
  rw [hI_sI]
  by_cases q : a = s ∧ b = n
  · obtain ⟨rfl, rfl⟩ := q
    rw [if_pos (show a = a ∧ b = b from ⟨rfl, rfl⟩)]
    unfold up
    by_cases e : c = i
    · rw [if_pos ⟨rfl, rfl, e⟩, if_pos e]
    · rw [if_neg (fun z => e z.2.2), if_neg e]
  · rw [if_neg (fun z => q ⟨z.1, z.2.1⟩), if_neg q]
theorem hI_rs (h : MH) (s n i : Nat) (v : Int32) : hI (sI h s n i v) s n = up (hI h s n) i v := by rw [hI_row, if_pos ⟨rfl, rfl⟩]
theorem hI_rn {h : MH} {s n i : Nat} {v : Int32} {a b : Nat} (q : ¬ (a = s ∧ b = n)) : hI (sI h s n i v) a b = hI h a b := by rw [hI_row, if_neg q]
/-- h2 is h but for rows of ints named in W -/
def Upd (W : List (Nat × Nat)) (h h2 : MH) : Prop := h2.2 = h.2 ∧ ∀ a b, (a, b) ∉ W → hI h2 a b = hI h a b
theorem Upd.rf (W : List (Nat × Nat)) (h : MH) : Upd W h h := ⟨rfl, fun _ _ _ => rfl⟩
theorem Upd.tr {W : List (Nat × Nat)} {a b c : MH} (x : Upd W a b) (y : Upd W b c) : Upd W a c := ⟨by rw [y.1, x.1], fun s n hs => by rw [y.2 s n hs, x.2 s n hs]⟩
theorem Upd.sI {W : List (Nat × Nat)} {h h1 : MH} {s n i : Nat} {v : Int32} (x : Upd W h h1) (hs : (s, n) ∈ W) : Upd W h (sI h1 s n i v) := ⟨x.1, fun a b hab => by rw [hI_rn (fun q => hab (by rw [q.1, q.2]; exact hs)), x.2 a b hab]⟩
theorem Upd.mono {W W2 : List (Nat × Nat)} {h h1 : MH} (x : Upd W h h1) (hs : ∀ q ∈ W, q ∈ W2) : Upd W2 h h1 := ⟨x.1, fun a b hab => x.2 a b (fun q => hab (hs _ q))⟩
theorem Upd.C {W : List (Nat × Nat)} {h h1 : MH} (x : Upd W h h1) : hC h1 = hC h := by unfold hC; rw [x.1]
theorem Upd.R {W : List (Nat × Nat)} {h h1 : MH} (x : Upd W h h1) : hR h1 = hR h := by unfold hR; rw [x.1]
theorem Upd.J {W : List (Nat × Nat)} {h h1 : MH} (x : Upd W h h1) : hJ h1 = hJ h := by unfold hJ; rw [x.1]
theorem zb_t {b : Bool} (h : b = true) : zb b = 1 := by rw [h]; rfl
theorem zb_f {b : Bool} (h : b = false) : zb b = 0 := by rw [h]; rfl
theorem itF {X : Type} {a b : X} : (if zb false = 0 then a else b) = a := if_pos rfl
theorem itT {X : Type} {a b : X} : (if zb true = 0 then a else b) = b := if_neg (by decide)
theorem i0n1 : ¬ (1 : Int32) = 0 := by decide
section Leaf
variable {L : Nat} {scr : Nat → Int32} {d : Nat}
theorem c_P_within (x l u : Int32) (h : MH) : E L scr (d + 1) 177 [vI x, vI l, vI u] h = some (some (vI (zb (inB x l u))), h) := by
  refine r_P_within x l u h (Sm.ret ?_)
  rw [t_P_within_0]
  unfold inB
  by_cases h1 : x < l
  · rw [if_pos h1, zb_f (decide_eq_false (fun q => nlt_i.mpr q.1 h1))]; rfl
  · by_cases h2 : u < x
    · rw [if_neg h1, if_pos h2, zb_f (decide_eq_false (fun q => nlt_i.mpr q.2 h2))]; rfl
    · rw [if_neg h1, if_neg h2, zb_t (decide_eq_true ⟨nlt_i.mp h1, nlt_i.mp h2⟩)]; rfl
theorem c_M_isIn (x l u : Int32) (h : MH) : E L scr (d + 1) 198 [vI x, vI l, vI u] h = some (some (vI (zb (inB x l u))), h) := by
  refine r_M_isIn x l u h (Sm.ret ?_)
  rw [t_M_isIn_0]
  unfold inB
  by_cases h1 : x < l
  · rw [if_pos h1, zb_f (decide_eq_false (fun q => nlt_i.mpr q.1 h1))]; rfl
  · by_cases h2 : u < x
    · rw [if_neg h1, if_pos h2, zb_f (decide_eq_false (fun q => nlt_i.mpr q.2 h2))]; rfl
    · rw [if_neg h1, if_neg h2, zb_t (decide_eq_true ⟨nlt_i.mp h1, nlt_i.mp h2⟩)]; rfl
theorem lt_tree {x : Int32} {n : Nat} {h : MH} : (if x < (0 : Int32) then rtZ 0 h else if nI n ≤ x then rtZ 0 h else rtZ 1 h) = some (.inr (some (vI (zb (ixB x n))), h)) := by
  unfold ixB
  by_cases h1 : x < 0
  · rw [if_pos h1, zb_f (decide_eq_false (fun q => nlt_i.mpr q.1 h1))]; rfl
  · by_cases h2 : nI n ≤ x
    · rw [if_neg h1, if_pos h2, zb_f (decide_eq_false (fun q => nle_i.mpr q.2 h2))]; rfl
    · rw [if_neg h1, if_neg h2, zb_t (decide_eq_true ⟨nlt_i.mp h1, nle_i.mp h2⟩)]; rfl
theorem c_P_isDay (x : Int32) (h : MH) : E L scr (d + 1) 179 [vI x] h = some (some (vI (zb (ixB x 100))), h) := r_P_isDay x h (Sm.ret ((t_P_isDay_0 ..).trans lt_tree))
theorem c_P_isMoment (x : Int32) (h : MH) : E L scr (d + 1) 180 [vI x] h = some (some (vI (zb (ixB x 72000))), h) := r_P_isMoment x h (Sm.ret ((t_P_isMoment_0 ..).trans lt_tree))
theorem c_P_isKind (x : Int32) (h : MH) : E L scr (d + 1) 181 [vI x] h = some (some (vI (zb (ixB x 4))), h) := r_P_isKind x h (Sm.ret ((t_P_isKind_0 ..).trans lt_tree))
theorem c_P_isWho (x : Int32) (h : MH) : E L scr (d + 1) 182 [vI x] h = some (some (vI (zb (ixB x 10))), h) := r_P_isWho x h (Sm.ret ((t_P_isWho_0 ..).trans lt_tree))
theorem in_tree {x u : Int32} {h : MH} : (if x < (0 : Int32) then rtZ 0 h else if u < x then rtZ 0 h else rtZ 1 h) = some (.inr (some (vI (zb (inB x 0 u))), h)) := by
  unfold inB
  by_cases h1 : x < 0
  · rw [if_pos h1, zb_f (decide_eq_false (fun q => nlt_i.mpr q.1 h1))]; rfl
  · by_cases h2 : u < x
    · rw [if_neg h1, if_pos h2, zb_f (decide_eq_false (fun q => nlt_i.mpr q.2 h2))]; rfl
    · rw [if_neg h1, if_neg h2, zb_t (decide_eq_true ⟨nlt_i.mp h1, nlt_i.mp h2⟩)]; rfl
theorem c_P_isCoin (x : Int32) (h : MH) : E L scr (d + 1) 183 [vI x] h = some (some (vI (zb (inB x 0 999))), h) := r_P_isCoin x h (Sm.ret ((t_P_isCoin_0 ..).trans in_tree))
theorem c_P_isSpan (x y n : Int32) {N : Nat} (hn : n.toInt = (N : Int) + 1) (u : Int32) (hu : u.toInt = N) (h : MH) : E L scr (d + 1) 178 [vI x, vI y, vI n] h = some (some (vI (zb (inB x 0 u && inB y x u))), h) := by
  refine r_P_isSpan x y n h (Sm.ret ?_)
  rw [t_P_isSpan_0]
  unfold inB
  by_cases h1 : x < 0
  · have e : decide (0 ≤ x ∧ x ≤ u) = false := decide_eq_false (fun q => nlt_i.mpr q.1 h1)
    rw [if_pos h1, e]; rfl
  · by_cases h2 : y < x
    · have e : decide (x ≤ y ∧ y ≤ u) = false := decide_eq_false (fun q => nlt_i.mpr q.1 h2)
      rw [if_neg h1, if_pos h2, e, Bool.and_false]; rfl
    · by_cases h3 : n ≤ y
      · have e : decide (x ≤ y ∧ y ≤ u) = false := decide_eq_false (fun q => by
          have := q.2
          rw [Int32.le_iff_toInt_le] at this h3
          omega)
        rw [if_neg h1, if_neg h2, if_pos h3, e, Bool.and_false]; rfl
      · have h4 : y ≤ u := by
          rw [Int32.le_iff_toInt_le] at h3 ⊢
          omega
        have h5 := nlt_i.mp h2
        have h6 : x ≤ u := by
          rw [Int32.le_iff_toInt_le] at h4 h5 ⊢
          omega
        have e1 : decide (0 ≤ x ∧ x ≤ u) = true := decide_eq_true ⟨nlt_i.mp h1, h6⟩
        have e2 : decide (x ≤ y ∧ y ≤ u) = true := decide_eq_true ⟨h5, h4⟩
        rw [if_neg h1, if_neg h2, if_neg h3, e1, e2]; rfl
theorem c_M_isDay (x : Int32) (h : MH) : E L scr (d + 2) 202 [vI x] h = some (some (vI (zb (ixB x 100))), h) := by
  refine r_M_isDay x h (Sm.ret ?_)
  rw [t_M_isDay_0, c_M_isIn, clI_ok, inB_ix (n := 99) rfl (by decide)]
  exact rtZ_ok _ h
theorem c_M_isMoment (x : Int32) (h : MH) : E L scr (d + 2) 203 [vI x] h = some (some (vI (zb (ixB x 72000))), h) := by
  refine r_M_isMoment x h (Sm.ret ?_)
  rw [t_M_isMoment_0, c_M_isIn, clI_ok, inB_ix (n := 71999) rfl (by decide)]
  exact rtZ_ok _ h
theorem c_M_isKind (x : Int32) (h : MH) : E L scr (d + 2) 204 [vI x] h = some (some (vI (zb (ixB x 4))), h) := by
  refine r_M_isKind x h (Sm.ret ?_)
  rw [t_M_isKind_0, c_M_isIn, clI_ok, inB_ix (n := 3) rfl (by decide)]
  exact rtZ_ok _ h
theorem c_max (x y : Int32) (h : MH) : E L scr (d + 1) 336 [vI x, vI y] h = some (some (vI (if x < y then y else x)), h) := evM_math rfl rfl m_Math_max
theorem c_min (x y : Int32) (h : MH) : E L scr (d + 1) 337 [vI x, vI y] h = some (some (vI (if y < x then y else x)), h) := evM_math rfl rfl m_Math_min
theorem c_abs (x : Int64) (h : MH) : E L scr (d + 1) 335 [vL x] h = some (some (vL (if 0 < x then x else -x)), h) := evM_math rfl rfl m_Math_abs
theorem c_M_one (x : Int32) (h : MH) : E L scr (d + 1) 199 [vI x] h = some (some (vI (if x = 0 then 0 else 1)), h) := by
  refine r_M_one x h (Sm.ret ?_)
  rw [t_M_one_0]
  by_cases q : x = 0
  · rw [if_pos q, if_pos q]
  · rw [if_neg q, if_neg q]
end Leaf

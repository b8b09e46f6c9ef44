/-! CALL: queue: waits in order -/
def cnt (p : Nat → Bool) : Nat → Nat := sumN p (fun _ => 1)
theorem cnt_t {p : Nat → Bool} {k : Nat} (h : p k = true) : cnt p (k + 1) = cnt p k + 1 := sumN_t h
theorem cnt_f {p : Nat → Bool} {k : Nat} (h : p k = false) : cnt p (k + 1) = cnt p k := sumN_f h
theorem cnt_s {p : Nat → Bool} {k : Nat} : cnt p (k + 1) = cnt p k + (if p k = true then 1 else 0) := by
  cases e : p k with
  | true => rw [cnt_t e, if_pos rfl]
  | false => rw [cnt_f e, if_neg (by decide)]; rfl
theorem cnt_congr {p q : Nat → Bool} : ∀ {n : Nat}, (∀ k, k < n → p k = q k) → cnt p n = cnt q n
  | 0, _ => rfl
  | n + 1, h => by rw [cnt_s, cnt_s, cnt_congr (fun k hk => h k (by omega)), h n (by omega)]
theorem cnt_le (p : Nat → Bool) : ∀ n, cnt p n ≤ n
  | 0 => Nat.le_refl _
  | n + 1 => by
    have := cnt_le p n
    rw [cnt_s]
    split <;> omega
theorem cnt_mono {p : Nat → Bool} {m : Nat} : ∀ {n : Nat}, m ≤ n → cnt p m ≤ cnt p n
  | 0, h => by have : m = 0 := by omega
               rw [this]; exact Nat.le_refl _
  | n + 1, h => by
    rcases Nat.lt_or_ge n m with c | c
    · have : m = n + 1 := by omega
      rw [this]; exact Nat.le_refl _
    · have := cnt_mono (p := p) c
      rw [cnt_s]
      omega
theorem cnt_none {p : Nat → Bool} {m : Nat} : ∀ {n : Nat}, m ≤ n → (∀ k, m ≤ k → k < n → p k = false) → cnt p n = cnt p m
  | 0, h, _ => by have : m = 0 := by omega
                  rw [this]
  | n + 1, h, g => by
    rcases Nat.lt_or_ge n m with c | c
    · have : m = n + 1 := by omega
      rw [this]
    · rw [cnt_f (g n c (by omega))]
      exact cnt_none c (fun k k1 k2 => g k k1 (by omega))
theorem cnt_all {p : Nat → Bool} : ∀ {n : Nat}, (∀ k, k < n → p k = true) → cnt p n = n
  | 0, _ => rfl
  | n + 1, h => by rw [cnt_t (h n (by omega)), cnt_all (fun k hk => h k (by omega))]
/-- two that never hold together -/
theorem cnt_or {p q r : Nat → Bool} : ∀ {n : Nat}, (∀ k, k < n → r k = (p k || q k) ∧ (p k && q k) = false) → cnt r n = cnt p n + cnt q n
  | 0, _ => rfl
  | n + 1, h => by
    obtain ⟨h1, h2⟩ := h n (by omega)
    rw [cnt_s, cnt_s, cnt_s, cnt_or (fun k hk => h k (by omega)), h1]
    cases e1 : p n <;> cases e2 : q n
    · rw [Bool.or_false, if_neg (by decide)]; omega
    · rw [Bool.or_true, if_pos rfl, if_neg (by decide)]; omega
    · rw [Bool.or_false, if_pos rfl, if_neg (by decide)]; omega
    · rw [e1, e2] at h2; cases h2
/-- a place where the count is t -/
theorem cnt_at {p : Nat → Bool} {t : Nat} : ∀ {n : Nat}, t < cnt p n → ∃ j, j < n ∧ p j = true ∧ cnt p j = t
  | 0, h => absurd h (Nat.not_lt_zero _)
  | n + 1, h => by
    cases e : p n with
    | false =>
      rw [cnt_f e] at h
      obtain ⟨j, h1, h2⟩ := cnt_at h
      exact ⟨j, by omega, h2⟩
    | true =>
      rw [cnt_t e] at h
      by_cases c : t < cnt p n
      · obtain ⟨j, h1, h2⟩ := cnt_at c
        exact ⟨j, by omega, h2⟩
      · exact ⟨n, by omega, e, by omega⟩
/-- v put into its place among the first j of a row -/
def insV (v : Int32) : Nat → (Nat → Int32) → Nat → Int32
  | 0, S => up S 0 v
  | j + 1, S => if S j ≤ v then up S (j + 1) v else insV v j (up S (j + 1) (S j))
theorem insV_at (v : Int32) : ∀ (j : Nat) (S : Nat → Int32), ∃ pos, pos ≤ j ∧ (pos = 0 ∨ S (pos - 1) ≤ v) ∧ (∀ m, pos ≤ m → m < j → v < S m) ∧ ∀ m, insV v j S m = (if m < pos then S m else if m = pos then v else if m ≤ j then S (m - 1) else S m)
  | 0, S => by
    refine ⟨0, Nat.le_refl _, Or.inl rfl, fun m h1 h2 => absurd h2 (Nat.not_lt_zero _), fun m => ?_⟩
    unfold insV up
    by_cases c : m = 0
    · rw [if_pos c, if_neg (by omega), if_pos c]
    · rw [if_neg c, if_neg (by omega), if_neg c, if_neg (by omega)]
  | j + 1, S => by
    unfold insV
    by_cases c : S j ≤ v
    · rw [if_pos c]
      refine ⟨j + 1, Nat.le_refl _, Or.inr c, fun m h1 h2 => by omega, fun m => ?_⟩
      unfold up
      by_cases e : m = j + 1
      · rw [if_pos e, if_neg (by omega), if_pos e]
      · rw [if_neg e]
        by_cases e2 : m < j + 1
        · rw [if_pos e2]
        · rw [if_neg e2, if_neg e, if_neg (by omega)]
    · rw [if_neg c]
      obtain ⟨pos, h1, h2, h3, h4⟩ := insV_at v j (up S (j + 1) (S j))
      refine ⟨pos, by omega, ?_, fun m k1 k2 => ?_, fun m => ?_⟩
      · rcases h2 with h2 | h2
        · exact Or.inl h2
        · rw [up_n (by omega)] at h2; exact Or.inr h2
      · by_cases e : m = j
        · rw [e]; exact nle_i.mp c
        · have := h3 m k1 (by omega)
          rw [up_n (by omega)] at this; exact this
      · rw [h4 m]
        by_cases e1 : m < pos
        · rw [if_pos e1, if_pos e1, up_n (by omega)]
        · rw [if_neg e1, if_neg e1]
          by_cases e2 : m = pos
          · rw [if_pos e2, if_pos e2]
          · rw [if_neg e2, if_neg e2]
            by_cases e3 : m ≤ j
            · rw [if_pos e3, if_pos (by omega), up_n (by omega)]
            · rw [if_neg e3]
              by_cases e4 : m = j + 1
              · rw [if_pos (by omega), e4, up_s]; rfl
              · rw [if_neg (by omega), up_n e4]
def Srt (S : Nat → Int32) (c : Nat) : Prop := ∀ m m', m ≤ m' → m' < c → S m ≤ S m'
theorem insV_srt {v : Int32} {c : Nat} {S : Nat → Int32} (h : Srt S c) : Srt (insV v c S) (c + 1) ∧ ∀ P : Int32 → Bool, cnt (fun m => P (insV v c S m)) (c + 1) = cnt (fun m => P (S m)) c + (if P v = true then 1 else 0) := by
  obtain ⟨pos, h1, h2, h3, h4⟩ := insV_at v c S
  have lo : ∀ m, m < pos → S m ≤ v := fun m hm => by
    rcases h2 with h2 | h2
    · omega
    · have := h m (pos - 1) (by omega) (by omega)
      rw [Int32.le_iff_toInt_le] at this h2 ⊢
      omega
  have hi : ∀ m, pos ≤ m → m < c → v ≤ S m := fun m k1 k2 => by
    have := h3 m k1 k2
    rw [Int32.lt_iff_toInt_lt] at this
    rw [Int32.le_iff_toInt_le]
    omega
  have z1 : ∀ m, m < pos → insV v c S m = S m := fun m hm => by rw [h4, if_pos hm]
  have z2 : insV v c S pos = v := by rw [h4, if_neg (by omega), if_pos rfl]
  have z3 : ∀ m, pos ≤ m → m < c → insV v c S (m + 1) = S m := fun m k1 k2 => by rw [h4, if_neg (by omega), if_neg (by omega), if_pos (by omega)]; rfl
  have rf : ∀ x : Int32, x ≤ x := fun x => by rw [Int32.le_iff_toInt_le]; omega
  constructor
  · intro m m' hm hm'
    rcases Nat.lt_trichotomy m pos with a | a | a
    · rw [z1 m a]
      rcases Nat.lt_trichotomy m' pos with b | b | b
      · rw [z1 m' b]; exact h m m' hm (by omega)
      · rw [b, z2]; exact lo m a
      · obtain ⟨k, rfl⟩ : ∃ k, m' = k + 1 := ⟨m' - 1, by omega⟩
        rw [z3 k (by omega) (by omega)]; exact h m k (by omega) (by omega)
    · rw [a, z2]
      rcases Nat.lt_trichotomy m' pos with b | b | b
      · omega
      · rw [b, z2]; exact rf v
      · obtain ⟨k, rfl⟩ : ∃ k, m' = k + 1 := ⟨m' - 1, by omega⟩
        rw [z3 k (by omega) (by omega)]; exact hi k (by omega) (by omega)
    · obtain ⟨k, rfl⟩ : ∃ k, m = k + 1 := ⟨m - 1, by omega⟩
      obtain ⟨k2, rfl⟩ : ∃ k2, m' = k2 + 1 := ⟨m' - 1, by omega⟩
      rw [z3 k (by omega) (by omega), z3 k2 (by omega) (by omega)]
      exact h k k2 (by omega) (by omega)
  · intro P
    have key : ∀ n, pos ≤ n → n ≤ c → cnt (fun m => P (insV v c S m)) (n + 1) = cnt (fun m => P (S m)) n + (if P v = true then 1 else 0) := by
      intro n
      induction n with
      | zero =>
        intro k1 _
        have : pos = 0 := by omega
        rw [cnt_s]
        show cnt _ 0 + (if P (insV v c S 0) = true then 1 else 0) = _
        have z := z2
        rw [this] at z
        rw [z]; rfl
      | succ n ih =>
        intro k1 k2
        by_cases e : pos = n + 1
        · rw [cnt_s (p := fun m => P (insV v c S m)) (k := n + 1)]
          show cnt (fun m => P (insV v c S m)) (n + 1) + (if P (insV v c S (n + 1)) = true then 1 else 0) = _
          rw [← e, z2, cnt_congr (p := fun m => P (insV v c S m)) (q := fun m => P (S m)) (fun k hk => by show P (insV v c S k) = P (S k); rw [z1 k hk])]
        · have := ih (by omega) (by omega)
          rw [cnt_s (p := fun m => P (insV v c S m)) (k := n + 1)]
          show cnt (fun m => P (insV v c S m)) (n + 1) + (if P (insV v c S (n + 1)) = true then 1 else 0) = _
          rw [this, z3 n (by omega) (by omega), cnt_s (p := fun m => P (S m)) (k := n)]
          omega
    exact key c h1 (Nat.le_refl _)
theorem srt_pick {S : Nat → Int32} {c y : Nat} {u : Int32} (hs : Srt S c) (hy : y < c) (h1 : cnt (fun m => decide (S m < u)) c ≤ y) (h2 : y < cnt (fun m => decide (S m ≤ u)) c) : S y = u := by
  have a1 : ¬ S y < u := fun z => by
    have : cnt (fun m => decide (S m < u)) (y + 1) = y + 1 := cnt_all (fun k hk => decide_eq_true (by
      have := hs k y (by omega) hy
      rw [Int32.le_iff_toInt_le] at this
      rw [Int32.lt_iff_toInt_lt] at z ⊢
      omega))
    have := cnt_mono (p := fun m => decide (S m < u)) (m := y + 1) (n := c) (by omega)
    omega
  have a2 : ¬ u < S y := fun z => by
    have e := cnt_none (p := fun m => decide (S m ≤ u)) (m := y) (n := c) (by omega) (fun k k1 k2 => decide_eq_false (by
      have := hs y k k1 k2
      rw [Int32.le_iff_toInt_le] at this ⊢
      rw [Int32.lt_iff_toInt_lt] at z
      omega))
    have := cnt_le (fun m => decide (S m ≤ u)) y
    omega
  rw [Int32.lt_iff_toInt_lt] at a1 a2
  exact Int32.toInt_inj.mp (by omega)
/-- the waits of the boats that are asked for, in order -/
def srtS (kd : Nat → Bool) (w : Nat → Int32) (S0 : Nat → Int32) : Nat → Nat → Int32
  | 0 => S0
  | k + 1 => if kd k = true then insV (w k) (cnt kd k) (srtS kd w S0 k) else srtS kd w S0 k
theorem srtS_ok {kd : Nat → Bool} {w S0 : Nat → Int32} : ∀ k, Srt (srtS kd w S0 k) (cnt kd k) ∧ ∀ P : Int32 → Bool, cnt (fun m => P (srtS kd w S0 k m)) (cnt kd k) = cnt (fun j => kd j && P (w j)) k
  | 0 => ⟨fun m m' _ h => absurd h (Nat.not_lt_zero _), fun P => rfl⟩
  | k + 1 => by
    obtain ⟨h1, h2⟩ := srtS_ok (kd := kd) (w := w) (S0 := S0) k
    cases e : kd k with
    | true =>
      have es : srtS kd w S0 (k + 1) = insV (w k) (cnt kd k) (srtS kd w S0 k) := if_pos e
      rw [es, cnt_t e]
      have := insV_srt (v := w k) h1
      refine ⟨this.1, fun P => ?_⟩
      rw [this.2 P, h2 P, cnt_s (p := fun j => kd j && P (w j)), e, Bool.true_and]
    | false =>
      have es : srtS kd w S0 (k + 1) = srtS kd w S0 k := if_neg (by rw [e]; decide)
      rw [es, cnt_f e]
      refine ⟨h1, fun P => ?_⟩
      rw [h2 P, cnt_f (p := fun j => kd j && P (w j)) (by show (kd k && P (w k)) = false; rw [e]; rfl)]
/-- the rank of the j-th boat -/
def rkB (kd : Nat → Bool) (w : Nat → Int32) (j k : Nat) : Bool := kd k && (decide (w k < w j) || (decide (w k = w j) && decide (k < j)))
theorem rk_split {kd : Nat → Bool} {w : Nat → Int32} {j n : Nat} (hj : j ≤ n) : cnt (rkB kd w j) n = cnt (fun k => kd k && decide (w k < w j)) n + cnt (fun k => kd k && decide (w k = w j)) j := by
  have e : cnt (fun k => kd k && decide (w k = w j)) j = cnt (fun k => (kd k && decide (w k = w j)) && decide (k < j)) n := by
    rw [cnt_none (p := fun k => (kd k && decide (w k = w j)) && decide (k < j)) (m := j) hj (fun k k1 k2 => by
      show ((kd k && decide (w k = w j)) && decide (k < j)) = false
      rw [decide_eq_false (show ¬ k < j by omega), Bool.and_false])]
    exact cnt_congr (fun k hk => by
      show _ = ((kd k && decide (w k = w j)) && decide (k < j))
      rw [decide_eq_true hk, Bool.and_true])
  rw [e]
  refine cnt_or (fun k hk => ?_)
  unfold rkB
  by_cases c1 : w k < w j
  · have c2 : ¬ w k = w j := fun z => by rw [z, Int32.lt_iff_toInt_lt] at c1; omega
    rw [decide_eq_true c1, decide_eq_false c2]
    cases kd k <;> exact ⟨rfl, rfl⟩
  · rw [decide_eq_false c1]
    cases kd k <;> cases decide (w k = w j) <;> cases decide (k < j) <;> exact ⟨rfl, rfl⟩
theorem cnt_le_split {kd : Nat → Bool} {w : Nat → Int32} {u : Int32} {n : Nat} : cnt (fun k => kd k && decide (w k ≤ u)) n = cnt (fun k => kd k && decide (w k < u)) n + cnt (fun k => kd k && decide (w k = u)) n := by
  refine cnt_or (fun k hk => ?_)
  show (kd k && decide (w k ≤ u)) = ((kd k && decide (w k < u)) || (kd k && decide (w k = u))) ∧ ((kd k && decide (w k < u)) && (kd k && decide (w k = u))) = false
  by_cases c1 : w k < u
  · have c2 : ¬ w k = u := fun z => by rw [z, Int32.lt_iff_toInt_lt] at c1; omega
    have c3 : w k ≤ u := by rw [Int32.lt_iff_toInt_lt] at c1; rw [Int32.le_iff_toInt_le]; omega
    rw [decide_eq_true c1, decide_eq_false c2, decide_eq_true c3]
    cases kd k <;> exact ⟨rfl, rfl⟩
  · by_cases c2 : w k = u
    · have c3 : w k ≤ u := by rw [c2, Int32.le_iff_toInt_le]; omega
      rw [decide_eq_false c1, decide_eq_true c2, decide_eq_true c3]
      cases kd k <;> exact ⟨rfl, rfl⟩
    · have c3 : ¬ w k ≤ u := fun z => by
        rw [Int32.le_iff_toInt_le] at z
        rw [Int32.lt_iff_toInt_lt] at c1
        exact c2 (Int32.toInt_inj.mp (by omega))
      rw [decide_eq_false c1, decide_eq_false c2, decide_eq_false c3]
      cases kd k <;> exact ⟨rfl, rfl⟩
/-- the boat of rank y has the wait at the place y -/
theorem rk_hit {kd : Nat → Bool} {w S0 : Nat → Int32} {n j : Nat} (hj : j < n) (hk : kd j = true) : cnt (rkB kd w j) n < cnt kd n ∧ srtS kd w S0 n (cnt (rkB kd w j) n) = w j := by
  obtain ⟨h1, h2⟩ := srtS_ok (kd := kd) (w := w) (S0 := S0) n
  have r := rk_split (kd := kd) (w := w) (j := j) (n := n) (by omega)
  have p1 := h2 (fun x => decide (x < w j))
  have p2 := h2 (fun x => decide (x ≤ w j))
  have s := cnt_le_split (kd := kd) (w := w) (u := w j) (n := n)
  have e : cnt (fun k => kd k && decide (w k = w j)) j < cnt (fun k => kd k && decide (w k = w j)) n := by
    have a := cnt_t (p := fun k => kd k && decide (w k = w j)) (k := j) (by show (kd j && decide (w j = w j)) = true; rw [hk, decide_eq_true rfl]; rfl)
    have b := cnt_mono (p := fun k => kd k && decide (w k = w j)) (m := j + 1) (n := n) (by omega)
    omega
  have l := cnt_le (fun m => decide (srtS kd w S0 n m ≤ w j)) (cnt kd n)
  have lt : cnt (rkB kd w j) n < cnt kd n := by
    have p2' : cnt (fun m => decide (srtS kd w S0 n m ≤ w j)) (cnt kd n) = cnt (fun k => kd k && decide (w k ≤ w j)) n := p2
    omega
  refine ⟨lt, srt_pick h1 lt ?_ ?_⟩
  · have p1' : cnt (fun m => decide (srtS kd w S0 n m < w j)) (cnt kd n) = cnt (fun k => kd k && decide (w k < w j)) n := p1
    omega
  · have p2' : cnt (fun m => decide (srtS kd w S0 n m ≤ w j)) (cnt kd n) = cnt (fun k => kd k && decide (w k ≤ w j)) n := p2
    omega
/-- each place has a boat of that rank -/
theorem rk_ex {kd : Nat → Bool} {w S0 : Nat → Int32} {n y : Nat} (hy : y < cnt kd n) : ∃ j, j < n ∧ kd j = true ∧ cnt (rkB kd w j) n = y := by
  obtain ⟨h1, h2⟩ := srtS_ok (kd := kd) (w := w) (S0 := S0) n
  obtain ⟨u, hu⟩ : ∃ u, u = srtS kd w S0 n y := ⟨_, rfl⟩
  have p1 : cnt (fun m => decide (srtS kd w S0 n m < u)) (cnt kd n) = cnt (fun k => kd k && decide (w k < u)) n := h2 (fun x => decide (x < u))
  have p2 : cnt (fun m => decide (srtS kd w S0 n m ≤ u)) (cnt kd n) = cnt (fun k => kd k && decide (w k ≤ u)) n := h2 (fun x => decide (x ≤ u))
  have s := cnt_le_split (kd := kd) (w := w) (u := u) (n := n)
  have b1 : cnt (fun m => decide (srtS kd w S0 n m < u)) (cnt kd n) ≤ y := by
    rw [cnt_none (m := y) (by omega) (fun k k1 k2 => decide_eq_false (by
      have := h1 y k k1 k2
      rw [← hu, Int32.le_iff_toInt_le] at this
      rw [Int32.lt_iff_toInt_lt]
      omega))]
    exact cnt_le _ y
  have b2 : y + 1 ≤ cnt (fun m => decide (srtS kd w S0 n m ≤ u)) (cnt kd n) := by
    have e : cnt (fun m => decide (srtS kd w S0 n m ≤ u)) (y + 1) = y + 1 := cnt_all (fun k hk => decide_eq_true (by
      have := h1 k y (by omega) hy
      rw [← hu] at this
      exact this))
    have := cnt_mono (p := fun m => decide (srtS kd w S0 n m ≤ u)) (m := y + 1) (n := cnt kd n) (by omega)
    omega
  obtain ⟨j, j1, j2, j3⟩ := cnt_at (p := fun k => kd k && decide (w k = u)) (t := y - cnt (fun k => kd k && decide (w k < u)) n) (n := n) (by omega)
  have j2' := (Bool.and_eq_true _ _ ▸ j2 : kd j = true ∧ decide (w j = u) = true)
  have wj : w j = u := of_decide_eq_true j2'.2
  refine ⟨j, j1, j2'.1, ?_⟩
  rw [rk_split (by omega), wj, j3]
  omega

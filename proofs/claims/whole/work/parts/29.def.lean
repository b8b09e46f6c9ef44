/-! HIRES and TELLINGS: what holds of the rows -/
/-- how many went out by the first k tellings -/
def cntW (dd : Nat → Int32) : Nat → Nat
  | 0 => 0
  | k + 1 => if dd k = 0 then cntW dd k + 1 else cntW dd k
/-- the last of what was told with the word w of the i-th, in the first k tellings -/
def lastF (w v0 : Int32) (dd sj vl : Nat → Int32) : Nat → Nat → Int32
  | 0, _ => v0
  | k + 1, i => if dd k = w ∧ sj k = nI i then vl k else lastF w v0 dd sj vl k i
def BkC (dd sj : Nat → Int32) (T : Nat) : Prop := ∀ k, k < T → ∃ i, sj k = nI i ∧ i < 120 ∧ ((dd k = 0 ∧ i = cntW dd k) ∨ ((dd k = 1 ∨ dd k = 2 ∨ dd k = 3) ∧ i < cntW dd k))
/-- the tellings of both sides -/
def TellOk (dd sj vl md ms m1 m2 oa : Nat → Int32) (t n : Nat) : Prop :=
  (∀ k, k < t → md (k + 1) = dd k ∧ ms (k + 1) = sj k ∧ ∃ i, sj k = nI i ∧ i < 120 ∧ ((dd k = 0 ∧ i = cntW dd k) ∨ (i < cntW dd k ∧ ((dd k = 1 ∧ vl k = m1 (k + 1) ∧ ∃ a b, oa i = nI a ∧ vl k = nI b ∧ a ≤ b ∧ b / 720 = a / 720 ∧ b < 72000) ∨ (dd k = 2 ∧ vl k = m1 (k + 1) ∧ ∃ c, c ≤ 9999 ∧ vl k = nI c) ∨ (dd k = 3 ∧ ∃ a b, a ≤ 9 ∧ b ≤ 9 ∧ m1 (k + 1) = nI a ∧ m2 (k + 1) = nI b ∧ vl k = nI (10 * a + b)))))) ∧ cntW dd t = n
/-- the hires -/
def HiresOk (bo wo oa bk tb dd : Nat → Int32) (n t nb : Nat) : Prop := ∀ i, i < n → (∃ b w m q, bo i = nI b ∧ b < nb ∧ wo i = nI w ∧ w < 10 ∧ oa i = nI m ∧ m < 72000 ∧ bk i = nI q ∧ 1 ≤ q ∧ m % 720 + q ≤ 720) ∧ (∃ k, k < t ∧ tb i = nI (k + 1) ∧ dd k = 0 ∧ cntW dd k = i) ∧ ∀ j, j < n → i < j → bo i = bo j → oa i ≤ oa j
/-- a fold over 0 .. n-1 -/
def fold (f : Nat → Int32 → Int32) (a : Int32) : Nat → Int32
  | 0 => a
  | k + 1 => f k (fold f a k)
theorem fold_congr {f g : Nat → Int32 → Int32} {a : Int32} : ∀ {n : Nat}, (∀ k, k < n → ∀ x, f k x = g k x) → fold f a n = fold g a n
  | 0, _ => rfl
  | n + 1, h => by
    show f n (fold f a n) = g n (fold g a n)
    rw [fold_congr (n := n) (fun k hk => h k (Nat.lt_succ_of_lt hk)), h n (Nat.lt_succ_self n)]
theorem fold_trunc {f : Nat → Int32 → Int32} {a : Int32} {m : Nat} : ∀ {n : Nat}, m ≤ n → (∀ k, m ≤ k → k < n → ∀ x, f k x = x) → fold f a n = fold f a m
  | 0, h, _ => by have : m = 0 := by omega
                  rw [this]
  | n + 1, h, g => by
    rcases Nat.lt_or_ge n m with q | q
    · have : m = n + 1 := by omega
      rw [this]
    · show f n (fold f a n) = fold f a m
      rw [g n q (Nat.lt_succ_self n), fold_trunc q (fun k h1 h2 => g k h1 (Nat.lt_succ_of_lt h2))]

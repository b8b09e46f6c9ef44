/-! HIRES and TELLINGS: what holds of the rows -/
/-- how many went out by the first k tellings -/
def cntW (dd : Nat → Int32) : Nat → Nat
  | 0 => 0
  | k + 1 => if dd k = 0 then cntW dd k + 1 else cntW dd k
/-- the last of what was told with the word w of the i-th, in the first k tellings -/
def lastF (w v0 : Int32) (dd sj vl : Nat → Int32) : Nat → Nat → Int32
  | 0, _ => v0
  | k + 1, i => if dd k = w ∧ sj k = nI i then vl k else lastF w v0 dd sj vl k i
def BkC (dd sj : Nat → Int32) (T : Nat) : Prop := ∀ k, k < T → ∃ i, sj k = nI i ∧ i < 120 ∧ ((dd k = 0 ∧ i = cntW dd k) ∨ ((dd k = 1 ∨ dd k = 2 ∨ dd k = 3) ∧ i < cntW dd k))
/-- the tellings of both sides -/
def TellOk (dd sj vl md ms m1 m2 oa : Nat → Int32) (t n : Nat) : Prop :=
  (∀ k, k < t → md (k + 1) = dd k ∧ ms (k + 1) = sj k ∧ ∃ i, sj k = nI i ∧ i < 120 ∧ ((dd k = 0 ∧ i = cntW dd k) ∨ (i < cntW dd k ∧ ((dd k = 1 ∧ vl k = m1 (k + 1) ∧ ∃ a b, oa i = nI a ∧ vl k = nI b ∧ a ≤ b ∧ b / 720 = a / 720 ∧ b < 72000) ∨ (dd k = 2 ∧ vl k = m1 (k + 1) ∧ ∃ c, c ≤ 9999 ∧ vl k = nI c) ∨ (dd k = 3 ∧ ∃ a b, a ≤ 9 ∧ b ≤ 9 ∧ m1 (k + 1) = nI a ∧ m2 (k + 1) = nI b ∧ vl k = nI (10 * a + b)))))) ∧ cntW dd t = n
/-- the hires -/
def HiresOk (bo wo oa bk tb dd : Nat → Int32) (n t nb : Nat) : Prop := ∀ i, i < n → (∃ b w m q, bo i = nI b ∧ b < nb ∧ wo i = nI w ∧ w < 10 ∧ oa i = nI m ∧ m < 72000 ∧ bk i = nI q ∧ 1 ≤ q ∧ m % 720 + q ≤ 720) ∧ (∃ k, k < t ∧ tb i = nI (k + 1) ∧ dd k = 0 ∧ cntW dd k = i) ∧ ∀ j, j < n → i < j → bo i = bo j → oa i ≤ oa j
/-- as known now, hires of a boat end ahead of its later ones -/
def SepOk (bo oa dd sj vl : Nat → Int32) (n t : Nat) : Prop := ∀ i j, i < j → j < n → bo i = bo j → ∃ a b, lastF 1 (-1) dd sj vl t i = nI b ∧ oa j = nI a ∧ b ≤ a ∧ a < 72000
/-- a fold over 0 .. n-1 -/
def fold (f : Nat → Int32 → Int32) (a : Int32) : Nat → Int32
  | 0 => a
  | k + 1 => f k (fold f a k)
theorem fold_congr {f g : Nat → Int32 → Int32} {a : Int32} : ∀ {n : Nat}, (∀ k, k < n → ∀ x, f k x = g k x) → fold f a n = fold g a n
  | 0, _ => rfl
  | n + 1, h => by
    show f n (fold f a n) = g n (fold g a n)
    rw [fold_congr (n := n) (fun k hk => h k (Nat.lt_succ_of_lt hk)), h n (Nat.lt_succ_self n)]
theorem fold_trunc {f : Nat → Int32 → Int32} {a : Int32} {m : Nat} : ∀ {n : Nat}, m ≤ n → (∀ k, m ≤ k → k < n → ∀ x, f k x = x) → fold f a n = fold f a m
  | 0, h, _ => by have : m = 0 := by omega
                  rw [this]
  | n + 1, h, g => by
    rcases Nat.lt_or_ge n m with q | q
    · have : m = n + 1 := by omega
      rw [this]
    · show f n (fold f a n) = fold f a m
      rw [g n q (Nat.lt_succ_self n), fold_trunc q (fun k h1 h2 => g k h1 (Nat.lt_succ_of_lt h2))]
/-- the rows named in S are the same -/
def Ag (S : List (Nat × Nat)) (h h2 : MH) : Prop := ∀ q ∈ S, hI h2 q.1 q.2 = hI h q.1 q.2
theorem Ag.rf (S : List (Nat × Nat)) (h : MH) : Ag S h h := fun _ _ => rfl
theorem Ag.tr {S : List (Nat × Nat)} {a b c : MH} (x : Ag S a b) (y : Ag S b c) : Ag S a c := fun q hq => (y q hq).trans (x q hq)
theorem Ag.sy {S : List (Nat × Nat)} {a b : MH} (x : Ag S a b) : Ag S b a := fun q hq => (x q hq).symm
theorem Ag.of {S W : List (Nat × Nat)} {h h2 : MH} (u : Upd W h h2) (hd : ∀ q ∈ S, q ∉ W) : Ag S h h2 := fun q hq => u.2 q.1 q.2 (hd q hq)
theorem Ag.sI {S : List (Nat × Nat)} {h h2 : MH} (a : Ag S h h2) (s n i : Nat) (v : Int32) : Ag S (sI h s n i v) (sI h2 s n i v) := by
  intro q hq
  rw [hI_row, hI_row]
  by_cases c : q.1 = s ∧ q.2 = n
  · rw [if_pos c, if_pos c, ← c.1, ← c.2, a q hq]
  · rw [if_neg c, if_neg c, a q hq]
/-- how many of the first n are not nought, and which -/
def dryN (w : Nat → Int32) : Nat → Nat
  | 0 => 0
  | n + 1 => if w n = 0 then dryN w n else dryN w n + 1
def dryL (w r : Nat → Int32) : Nat → Nat → Int32
  | 0 => r
  | n + 1 => if w n = 0 then dryL w r n else up (dryL w r n) (dryN w n) (nI n)
def dryB (w : Nat → Int32) : Nat → Nat → Nat
  | 0, _ => 0
  | n + 1, k => if w n = 0 then dryB w n k else if k = dryN w n then n else dryB w n k
theorem dryN_le (w : Nat → Int32) : ∀ n, dryN w n ≤ n
  | 0 => Nat.le_refl _
  | n + 1 => by
    have := dryN_le w n
    unfold dryN
    split <;> omega
theorem dryN_s (w : Nat → Int32) (n : Nat) : dryN w n ≤ dryN w (n + 1) := by
  show _ ≤ (if w n = 0 then dryN w n else dryN w n + 1)
  split <;> omega
theorem dryN_mono (w : Nat → Int32) {k : Nat} : ∀ {n : Nat}, k ≤ n → dryN w k ≤ dryN w n
  | 0, h => by have : k = 0 := by omega
               rw [this]; exact Nat.le_refl _
  | n + 1, h => by
    rcases Nat.lt_or_ge n k with q | q
    · have : k = n + 1 := by omega
      rw [this]; exact Nat.le_refl _
    · exact Nat.le_trans (dryN_mono w q) (dryN_s w n)
theorem dryL_at {w r : Nat → Int32} : ∀ {n k : Nat}, k < dryN w n → dryL w r n k = nI (dryB w n k) ∧ dryB w n k < n
  | 0, _, h => absurd h (Nat.not_lt_zero _)
  | n + 1, k, h => by
    unfold dryN at h
    unfold dryL dryB
    by_cases c : w n = 0
    · rw [if_pos c] at h ⊢
      rw [if_pos c]
      have := dryL_at (w := w) (r := r) (n := n) h
      exact ⟨this.1, Nat.lt_succ_of_lt this.2⟩
    · rw [if_neg c] at h ⊢
      rw [if_neg c]
      by_cases c2 : k = dryN w n
      · rw [if_pos c2, c2, up_s]; exact ⟨rfl, Nat.lt_succ_self _⟩
      · rw [if_neg c2, up_n c2]
        have := dryL_at (w := w) (r := r) (n := n) (k := k) (by omega)
        exact ⟨this.1, Nat.lt_succ_of_lt this.2⟩
theorem dry_eq {w r : Nat → Int32} {k : Nat} : ∀ {n : Nat}, k ≤ n → dryN w n = dryN w k → dryL w r n = dryL w r k
  | 0, h, _ => by have : k = 0 := by omega
                  rw [this]
  | n + 1, h, e => by
    rcases Nat.lt_or_ge n k with q | q
    · have : k = n + 1 := by omega
      rw [this]
    · have h1 := dryN_mono w q
      have h2 := dryN_s w n
      have h3 : w n = 0 := by
        by_cases c : w n = 0
        · exact c
        · have : dryN w (n + 1) = dryN w n + 1 := if_neg c
          omega
      have e2 : dryL w r (n + 1) = dryL w r n := if_pos h3
      rw [e2]
      exact dry_eq q (by omega)
theorem dryN_zero {w : Nat → Int32} {k : Nat} : ∀ {n : Nat}, k ≤ n → (∀ j, k ≤ j → w j = 0) → dryN w n = dryN w k
  | 0, h, _ => by have : k = 0 := by omega
                  rw [this]
  | n + 1, h, g => by
    rcases Nat.lt_or_ge n k with q | q
    · have : k = n + 1 := by omega
      rw [this]
    · have : dryN w (n + 1) = dryN w n := if_pos (g n q)
      rw [this]; exact dryN_zero q g
theorem dryN_up {w : Nat → Int32} {i : Nat} {v : Int32} : ∀ n, dryN (up w i v) n + (if i < n ∧ w i ≠ 0 then 1 else 0) = dryN w n + (if i < n ∧ v ≠ 0 then 1 else 0)
  | 0 => by rw [if_neg (fun z => absurd z.1 (Nat.not_lt_zero _)), if_neg (fun z => absurd z.1 (Nat.not_lt_zero _))]; rfl
  | n + 1 => by
    have ih := dryN_up (w := w) (i := i) (v := v) n
    unfold dryN
    by_cases e : i = n
    · subst e
      rw [up_s]
      rw [if_neg (fun z => Nat.lt_irrefl _ z.1), if_neg (fun z => Nat.lt_irrefl _ z.1)] at ih
      by_cases c1 : v = 0
      · by_cases c2 : w i = 0
        · rw [if_pos c1, if_pos c2, if_neg (fun z => z.2 c2), if_neg (fun z => z.2 c1)]; omega
        · rw [if_pos c1, if_neg c2, if_pos ⟨Nat.lt_succ_self _, c2⟩, if_neg (fun z => z.2 c1)]; omega
      · by_cases c2 : w i = 0
        · rw [if_neg c1, if_pos c2, if_neg (fun z => z.2 c2), if_pos ⟨Nat.lt_succ_self _, c1⟩]; omega
        · rw [if_neg c1, if_neg c2, if_pos ⟨Nat.lt_succ_self _, c2⟩, if_pos ⟨Nat.lt_succ_self _, c1⟩]; omega
    · rw [up_n (fun z => e z.symm)]
      have a1 : (i < n + 1 ∧ w i ≠ 0) ↔ (i < n ∧ w i ≠ 0) := by constructor <;> (rintro ⟨h1, h2⟩; exact ⟨by omega, h2⟩)
      have a2 : (i < n + 1 ∧ v ≠ 0) ↔ (i < n ∧ v ≠ 0) := by constructor <;> (rintro ⟨h1, h2⟩; exact ⟨by omega, h2⟩)
      have b1 : (if i < n + 1 ∧ w i ≠ 0 then 1 else 0) = (if i < n ∧ w i ≠ 0 then 1 else 0) := by simp only [a1]
      have b2 : (if i < n + 1 ∧ v ≠ 0 then 1 else 0) = (if i < n ∧ v ≠ 0 then 1 else 0) := by simp only [a2]
      rw [b1, b2]
      by_cases c : w n = 0
      · rw [if_pos c, if_pos c]; exact ih
      · rw [if_neg c, if_neg c]; omega

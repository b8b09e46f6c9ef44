/-! For rolled: orders by number, least first -/
def fac : Nat → Nat
  | 0 => 1
  | n + 1 => (n + 1) * fac n
theorem fac_pos : ∀ n, 0 < fac n
  | 0 => Nat.one_pos
  | n + 1 => Nat.mul_pos (Nat.succ_pos n) (fac_pos n)
/-- how many are left below b -/
def lfN (u : Nat → Bool) : Nat → Nat
  | 0 => 0
  | b + 1 => lfN u b + cond (u b) 1 0
theorem lfN_t {u : Nat → Bool} {b : Nat} (h : u b = true) : lfN u (b + 1) = lfN u b + 1 := by show lfN u b + cond (u b) 1 0 = _; rw [h]; rfl
theorem lfN_f {u : Nat → Bool} {b : Nat} (h : u b = false) : lfN u (b + 1) = lfN u b := by show lfN u b + cond (u b) 1 0 = _; rw [h]; rfl
theorem lfN_mono {u : Nat → Bool} {a : Nat} : ∀ {b}, a ≤ b → lfN u a ≤ lfN u b
  | 0, h => by have : a = 0 := by omega
               rw [this]; exact Nat.le_refl _
  | b + 1, h => by
    rcases Nat.lt_or_ge b a with c | c
    · have : a = b + 1 := by omega
      rw [this]; exact Nat.le_refl _
    · exact Nat.le_trans (lfN_mono c) (Nat.le_add_right _ _)
theorem lf_ex {u : Nat → Bool} {j : Nat} : ∀ {n}, j < lfN u n → ∃ b, b < n ∧ u b = true ∧ lfN u b = j
  | 0, h => absurd h (Nat.not_lt_zero _)
  | n + 1, h => by
    by_cases c : j < lfN u n
    · obtain ⟨b, h1, h2⟩ := lf_ex c
      exact ⟨b, Nat.lt_succ_of_lt h1, h2⟩
    · cases e : u n with
      | false => rw [lfN_f e] at h; exact absurd h c
      | true => rw [lfN_t e] at h; exact ⟨n, Nat.lt_succ_self n, e, by omega⟩
/-- which is the j-th left -/
def nthP (u : Nat → Bool) (j : Nat) (b : Nat) : Bool := u b && Nat.beq (lfN u b) j
def nthL (u : Nat → Bool) (j : Nat) : Nat := (ffst (nthP u j) 7).getD 0
theorem nthP_t {u : Nat → Bool} {j b : Nat} : nthP u j b = true ↔ u b = true ∧ lfN u b = j := by
  unfold nthP
  rw [Bool.and_eq_true, Nat.beq_eq]
theorem nth_ff {u : Nat → Bool} {b : Nat} (hb : b < 7) (hu : u b = true) : ffst (nthP u (lfN u b)) 7 = some b := by
  refine ffst_is hb (nthP_t.mpr ⟨hu, rfl⟩) (fun c hc => ?_)
  cases e : nthP u (lfN u b) c with
  | false => rfl
  | true =>
    obtain ⟨h1, h2⟩ := nthP_t.mp e
    have := lfN_mono (u := u) (show c + 1 ≤ b by omega)
    rw [lfN_t h1] at this
    omega
theorem nth_at {u : Nat → Bool} {b : Nat} (hb : b < 7) (hu : u b = true) : nthL u (lfN u b) = b := by
  unfold nthL
  rw [nth_ff hb hu]; rfl
theorem nth_ok {u : Nat → Bool} {j n : Nat} (hn : n ≤ 7) (hj : j < lfN u n) : nthL u j < n ∧ u (nthL u j) = true ∧ lfN u (nthL u j) = j := by
  obtain ⟨b, h1, h2, h3⟩ := lf_ex hj
  rw [← h3, nth_at (by omega) h2]
  exact ⟨h1, h2, rfl⟩
/-- left, time, sum, order -/
abbrev RP : Type := (Nat → Bool) × Nat × Nat × (Nat → Nat)
def exT (a t : Nat → Nat) (i : Nat) (P : RP) (b : Nat) : RP := (fun c => if c = b then false else P.1 c, max P.2.1 (a b) + t b, P.2.2.1 + (max P.2.1 (a b) - a b), fun c => if c = i then b else P.2.2.2 c)
/-- the q-th beginning of i boats -/
def prT (a t : Nat → Nat) (n : Nat) : Nat → Nat → RP
  | 0, _ => (fun b => decide (b < n), 0, 0, fun _ => 0)
  | i + 1, q => exT a t i (prT a t n i (q / (n - i))) (nthL (prT a t n i (q / (n - i))).1 (q % (n - i)))
theorem lf_dec {n : Nat} : ∀ m, m ≤ n → lfN (fun b => decide (b < n)) m = m
  | 0, _ => rfl
  | m + 1, h => by rw [lfN_t (decide_eq_true (by omega)), lf_dec m (by omega)]
theorem lf_rm {u : Nat → Bool} {b : Nat} (hu : u b = true) : ∀ m, lfN (fun c => if c = b then false else u c) m + (if b < m then 1 else 0) = lfN u m
  | 0 => rfl
  | m + 1 => by
    have ih := lf_rm hu m
    by_cases c : m = b
    · subst c
      rw [lfN_f (if_pos rfl), if_pos (Nat.lt_succ_self _), lfN_t hu]
      rw [if_neg (Nat.lt_irrefl _)] at ih
      omega
    · show lfN _ m + cond (if m = b then false else u m) 1 0 + _ = lfN u m + cond (u m) 1 0
      rw [if_neg c]
      by_cases c2 : b < m
      · rw [if_pos c2] at ih
        rw [if_pos (by omega)]; omega
      · rw [if_neg c2] at ih
        rw [if_neg (by omega)]; omega
section Perm
variable {a t : Nat → Nat} {n : Nat}
theorem pr_ok (hn : n ≤ 7) : ∀ {d}, d ≤ n → ∀ q, lfN (prT a t n d q).1 n = n - d ∧ ∀ b, (prT a t n d q).1 b = true → b < n
  | 0, _, _ => ⟨lf_dec n (Nat.le_refl n), fun b h => of_decide_eq_true h⟩
  | d + 1, hd, q => by
    obtain ⟨h1, h2⟩ := pr_ok hn (show d ≤ n by omega) (q / (n - d))
    obtain ⟨k1, k2, k3⟩ := nth_ok (u := (prT a t n d (q / (n - d))).1) (j := q % (n - d)) hn (by rw [h1]; exact Nat.mod_lt _ (by omega))
    refine ⟨?_, fun b hb => ?_⟩
    · have := lf_rm k2 n
      rw [if_pos k1, h1] at this
      show lfN (fun c => if c = nthL (prT a t n d (q / (n - d))).1 (q % (n - d)) then false else (prT a t n d (q / (n - d))).1 c) n = n - (d + 1)
      omega
    · have hb : (if b = nthL (prT a t n d (q / (n - d))).1 (q % (n - d)) then false else (prT a t n d (q / (n - d))).1 b) = true := hb
      split at hb
      · cases hb
      · exact h2 b hb
/-- the boat of a child -/
theorem pr_ch (hn : n ≤ 7) {d : Nat} (hd : d < n) (q : Nat) {b : Nat} (hb : (prT a t n d q).1 b = true) : lfN (prT a t n d q).1 b < n - d ∧ prT a t n (d + 1) (q * (n - d) + lfN (prT a t n d q).1 b) = exT a t d (prT a t n d q) b := by
  obtain ⟨h1, h2⟩ := pr_ok (a := a) (t := t) hn (show d ≤ n by omega) q
  have hbn := h2 b hb
  have lt : lfN (prT a t n d q).1 b < n - d := by
    have := lfN_mono (u := (prT a t n d q).1) (show b + 1 ≤ n by omega)
    rw [lfN_t hb, h1] at this
    omega
  refine ⟨lt, ?_⟩
  have e1 : (q * (n - d) + lfN (prT a t n d q).1 b) / (n - d) = q := by
    rw [Nat.mul_comm, Nat.mul_add_div (by omega), Nat.div_eq_of_lt lt, Nat.add_zero]
  have e2 : (q * (n - d) + lfN (prT a t n d q).1 b) % (n - d) = lfN (prT a t n d q).1 b := by
    rw [Nat.mul_comm, Nat.mul_add_mod, Nat.mod_eq_of_lt lt]
  show exT a t d (prT a t n d ((q * (n - d) + lfN (prT a t n d q).1 b) / (n - d))) (nthL (prT a t n d ((q * (n - d) + lfN (prT a t n d q).1 b) / (n - d))).1 ((q * (n - d) + lfN (prT a t n d q).1 b) % (n - d))) = _
  rw [e1, e2, nth_at (by omega) hb]
/-- the sum of the o-th order -/
def wvT (a t : Nat → Nat) (n o : Nat) : Nat := (prT a t n n o).2.2.1
theorem pr_le : ∀ r, r ≤ n → ∀ q x, x < fac r → (prT a t n (n - r) q).2.2.1 ≤ wvT a t n (q * fac r + x)
  | 0, _, q, x, hx => by
    have : x = 0 := by
      have e : fac 0 = 1 := rfl
      omega
    subst this
    show _ ≤ (prT a t n n (q * 1 + 0)).2.2.1
    rw [Nat.mul_one, Nat.add_zero, Nat.sub_zero]; exact Nat.le_refl _
  | r + 1, hr, q, x, hx => by
    have f0 := fac_pos r
    have hxr : x / fac r < r + 1 := (Nat.div_lt_iff_lt_mul f0).mpr hx
    have ih := pr_le r (by omega) (q * (r + 1) + x / fac r) (x % fac r) (Nat.mod_lt _ f0)
    have e : (q * (r + 1) + x / fac r) * fac r + x % fac r = q * fac (r + 1) + x := by
      rw [Nat.add_mul, Nat.mul_assoc, Nat.add_assoc, Nat.mul_comm (x / fac r), Nat.div_add_mod]; rfl
    rw [e] at ih
    refine Nat.le_trans ?_ ih
    have e2 : n - r = (n - (r + 1)) + 1 := by omega
    have e3 : n - (n - (r + 1)) = r + 1 := by omega
    rw [e2]
    show _ ≤ (prT a t n (n - (r + 1)) ((q * (r + 1) + x / fac r) / (n - (n - (r + 1))))).2.2.1 + _
    rw [e3, Nat.mul_comm q, Nat.mul_add_div (by omega), Nat.div_eq_of_lt hxr, Nat.add_zero]
    exact Nat.le_add_right _ _
theorem pr_bd (ha : ∀ b, a b ≤ 719) (ht : ∀ b, t b ≤ 99) : ∀ d q, (prT a t n d q).2.1 ≤ 719 + 99 * d ∧ (prT a t n d q).2.2.1 ≤ d * (719 + 99 * d)
  | 0, _ => ⟨Nat.zero_le _, Nat.zero_le _⟩
  | d + 1, q => by
    obtain ⟨h1, h2⟩ := pr_bd ha ht d (q / (n - d))
    obtain ⟨b, hb⟩ : ∃ b, b = nthL (prT a t n d (q / (n - d))).1 (q % (n - d)) := ⟨_, rfl⟩
    have e : prT a t n (d + 1) q = exT a t d (prT a t n d (q / (n - d))) b := by rw [hb]; rfl
    rw [e]
    have h3 := ha b
    have h4 := ht b
    have h5 : d * (719 + 99 * d) ≤ d * (719 + 99 * (d + 1)) := Nat.mul_le_mul_left d (by omega)
    have h6 : (d + 1) * (719 + 99 * (d + 1)) = d * (719 + 99 * (d + 1)) + (719 + 99 * (d + 1)) := Nat.succ_mul _ _
    refine ⟨?_, ?_⟩
    · show max (prT a t n d (q / (n - d))).2.1 (a b) + t b ≤ _
      omega
    · show (prT a t n d (q / (n - d))).2.2.1 + (max (prT a t n d (q / (n - d))).2.1 (a b) - a b) ≤ _
      omega
theorem wv_bd (ha : ∀ b, a b ≤ 719) (ht : ∀ b, t b ≤ 99) (hn : n ≤ 7) {d q : Nat} (hd : d ≤ n) : (prT a t n d q).2.1 ≤ 1412 ∧ (prT a t n d q).2.2.1 ≤ 9884 := by
  obtain ⟨h1, h2⟩ := pr_bd (n := n) ha ht d q
  have : d * (719 + 99 * d) ≤ 7 * (719 + 99 * 7) := Nat.mul_le_mul (by omega) (by omega)
  exact ⟨by omega, by omega⟩
/-- the best of the first k orders -/
def bsO (a t : Nat → Nat) (n : Nat) : Nat → Option Nat
  | 0 => none
  | k + 1 => match bsO a t n k with
    | none => some k
    | some p => if wvT a t n k < wvT a t n p then some k else some p
theorem bs_lt : ∀ {k p}, bsO a t n k = some p → p < k
  | 0, _, h => by cases h
  | k + 1, p, h => by
    unfold bsO at h
    cases e : bsO a t n k with
    | none => rw [e] at h; injection h with h; omega
    | some p2 =>
      have := bs_lt e
      rw [e] at h
      by_cases c : wvT a t n k < wvT a t n p2
      · rw [show (match some p2 with | none => some k | some p => if wvT a t n k < wvT a t n p then some k else some p) = some k from if_pos c] at h
        injection h with h; omega
      · rw [show (match some p2 with | none => some k | some p => if wvT a t n k < wvT a t n p then some k else some p) = some p2 from if_neg c] at h
        injection h with h; omega
theorem bs_pos : ∀ k, ∃ p, bsO a t n (k + 1) = some p
  | k => by
    unfold bsO
    cases bsO a t n k with
    | none => exact ⟨_, rfl⟩
    | some p2 =>
      by_cases c : wvT a t n k < wvT a t n p2
      · exact ⟨_, if_pos c⟩
      · exact ⟨_, if_neg c⟩
theorem bs_stay {k p : Nat} (h : bsO a t n k = some p) : ∀ m, (∀ x, x < m → wvT a t n p ≤ wvT a t n (k + x)) → bsO a t n (k + m) = some p
  | 0, _ => h
  | m + 1, hm => by
    have ih := bs_stay h m (fun x hx => hm x (by omega))
    show (match bsO a t n (k + m) with
      | none => some (k + m)
      | some p => if wvT a t n (k + m) < wvT a t n p then some (k + m) else some p) = some p
    rw [ih]
    exact if_neg (by have := hm m (by omega); omega)
end Perm

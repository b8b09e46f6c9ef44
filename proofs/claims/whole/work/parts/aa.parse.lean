/-! CONDITIONS, read from tokens -/
abbrev Phi : Type := (Nat → Int32) → Bool
/-- what is read, and what is left; or the place that is refused -/
abbrev PC : Type := (List (Nat × Nat) × Phi) ⊕ Nat
def tstF (w s k : Nat) : Phi := fun v => if s = 60 then decide (v w < nI k) else if s = 62 then decide (nI k < v w) else decide (v w = nI k)
def pTest : List (Nat × Nat) → PC
  | (w, g) :: (s, g2) :: (k, g3) :: r => if w < 8 then (if 60 ≤ s ∧ s ≤ 62 then (if 1000 ≤ k ∧ k < 2000 then .inl (r, tstF w s (k - 1000)) else .inr g3) else .inr g2) else .inr g
  | (w, g) :: (s, g2) :: [] => if w < 8 then .inr g2 else .inr g
  | (_, g) :: [] => .inr g
  | [] => .inr 0
/-- more of it, behind a word -/
def pLoop (sep : Nat) (op : Bool → Bool → Bool) (one : List (Nat × Nat) → PC) : Nat → PC → PC
  | 0, x => x
  | _ + 1, .inr g => .inr g
  | _ + 1, .inl ([], φ) => .inl ([], φ)
  | f + 1, .inl ((t, g) :: r, φ) => if t = sep then pLoop sep op one f (match one r with
    | .inr g => .inr g
    | .inl (r2, ψ) => .inl (r2, fun v => op (φ v) (ψ v))) else .inl ((t, g) :: r, φ)
def pAll (one : List (Nat × Nat) → PC) (l : List (Nat × Nat)) : PC := pLoop 21 and one 900 (one l)
def pAny (one : List (Nat × Nat) → PC) (l : List (Nat × Nat)) : PC := pLoop 20 or (pAll one) 900 (pAll one l)
def pNot : PC → PC
  | .inr g => .inr g
  | .inl (r, φ) => .inl (r, fun v => !φ v)
def pShut : PC → PC
  | .inr g => .inr g
  | .inl ((t, g) :: r, φ) => if t = 41 then .inl (r, φ) else .inr g
  | .inl ([], _) => .inr 0
/-- one condition, with k more that may stand open -/
def pOne : Nat → List (Nat × Nat) → PC
  | 0, l => pTest l
  | _ + 1, [] => .inr 0
  | k + 1, (t, g) :: r => if t = 22 then pNot (pOne k r) else if t = 40 then pShut (pAny (pOne k) r) else pTest ((t, g) :: r)
/-- bytes that a token takes, at least -/
def tkW (t : Nat) : Nat := if t < 23 then (if t = 20 ∨ t = 17 ∨ t = 19 then 2 else 3) else 1
def hdP : List (Nat × Nat) → Nat
  | [] => 0
  | (_, g) :: _ => g
/-- tokens stand as far apart as they are long -/
def GapL : List (Nat × Nat) → Prop
  | [] => True
  | (_, _) :: [] => True
  | (t, g) :: (t2, g2) :: r => g + tkW t ≤ g2 ∧ GapL ((t2, g2) :: r)
theorem tkW_ok : ∀ s : Fin 23, tkW s.val ≤ wdN s.val := by decide
/-- a word is as long as it is -/
theorem sl_len {f : Nat → Nat} {k s : Nat} (hs : s < 23) (hf : ∀ i, i < k → 97 ≤ f i ∧ f i ≤ 122) (e : slN f k = s) : k = wdN s := by
  obtain ⟨k7, e2⟩ := (sl_pk hs hf).mp e
  obtain ⟨⟨w1, w2⟩, w3, w4⟩ := wd_ok ⟨s, hs⟩
  replace w1 : wdN s ≤ 7 := w1
  replace w4 : pkN (wdL s) (wdN s) = wdK.getD s 0 := w4
  have wa : ∀ i, i < wdN s → 97 ≤ wdL s i ∧ wdL s i ≤ 122 := fun i hi => by
    have := w3 ⟨i, by omega⟩
    replace this : if i < wdN s then 97 ≤ wdL s i ∧ wdL s i ≤ 122 else wdL s i = 32 := this
    rw [if_pos hi] at this; exact this
  exact (pk_inj (fun i hi => by have := hf i hi; omega) (fun i hi => by have := wa i hi; omega) (e2.trans w4.symm)).1
theorem end_w {v : Nat → Nat} {n q : Nat} : q + tkW (tokC v q (endP v n q)) ≤ endP v n q := by
  have gt := endP_gt (v := v) (n := n) (p := q)
  by_cases l : isLt (v q)
  · have ls := endP_lt (n := n) l
    by_cases c : tokC v q (endP v n q) < 23
    · have e : slN (fun i => v (q + i)) (endP v n q - q) = tokC v q (endP v n q) := by
        unfold tokC
        rw [if_neg (show ¬ isDg (v q) by omega), if_pos l]
      have h1 := sl_len c (fun i hi => ls (q + i) (by omega) (by omega)) e
      have h2 := tkW_ok ⟨_, c⟩
      replace h2 : tkW (tokC v q (endP v n q)) ≤ wdN (tokC v q (endP v n q)) := h2
      omega
    · unfold tkW
      rw [if_neg c]; omega
  · have := tokC_sg (e := endP v n q) l
    unfold tkW
    rw [if_neg (by omega)]; omega
theorem lexF_h {v : Nat → Nat} {n : Nat} : ∀ f p, p ≤ n → ∃ t g r, lexF v n f p = (t, g) :: r ∧ p ≤ g
  | 0, p, hp => ⟨4000, n, [], rfl, hp⟩
  | f + 1, p, hp => by
    have e : lexF v n (f + 1) p = if n ≤ p then [(4000, n)] else if isBl (v p) then lexF v n f (p + 1) else (tokC v p (endP v n p), p) :: lexF v n f (endP v n p) := rfl
    rw [e]
    by_cases c : n ≤ p
    · rw [if_pos c]; exact ⟨4000, n, [], rfl, hp⟩
    · rw [if_neg c]
      by_cases b : isBl (v p)
      · rw [if_pos b]
        obtain ⟨t, g, r, h1, h2⟩ := lexF_h (v := v) (n := n) f (p + 1) (by omega)
        exact ⟨t, g, r, h1, by omega⟩
      · rw [if_neg b]; exact ⟨_, p, _, rfl, Nat.le_refl _⟩
theorem lexF_gap {v : Nat → Nat} {n : Nat} : ∀ f p, p ≤ n → GapL (lexF v n f p)
  | 0, p, _ => trivial
  | f + 1, p, hp => by
    have e : lexF v n (f + 1) p = if n ≤ p then [(4000, n)] else if isBl (v p) then lexF v n f (p + 1) else (tokC v p (endP v n p), p) :: lexF v n f (endP v n p) := rfl
    rw [e]
    by_cases c : n ≤ p
    · rw [if_pos c]; trivial
    · rw [if_neg c]
      by_cases b : isBl (v p)
      · rw [if_pos b]; exact lexF_gap f (p + 1) (by omega)
      · rw [if_neg b]
        have le := endP_le (v := v) (show p < n by omega)
        have ih := lexF_gap (v := v) (n := n) f (endP v n p) le
        obtain ⟨t, g, r, h1, h2⟩ := lexF_h (v := v) (n := n) f (endP v n p) le
        rw [h1] at ih ⊢
        have w := end_w (v := v) (n := n) (q := p)
        exact ⟨by omega, ih⟩
theorem lex_gap {v : Nat → Nat} {n p : Nat} (hp : p ≤ n) : GapL (lex v n p) := lexF_gap _ p hp

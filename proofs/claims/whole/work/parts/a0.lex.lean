/-! THE TAPE READ: tokens behind a place -/
/-- the words, eight signs each -/
def wdT : List Nat := [119, 97, 116, 101, 114, 32, 32, 32, 114, 97, 105, 110, 32, 32, 32, 32, 100, 97, 121, 32, 32, 32, 32, 32, 119, 101, 101, 107, 32, 32, 32, 32, 109, 105, 110, 117, 116, 101, 32, 32, 111, 117, 116, 32, 32, 32, 32, 32, 107, 105, 110, 100, 32, 32, 32, 32, 119, 101, 101, 100, 32, 32, 32, 32, 112, 114, 105, 99, 101, 32, 32, 32, 98, 117, 115, 121, 32, 32, 32, 32, 100, 101, 112, 111, 115, 105, 116, 32, 108, 97, 116, 101, 32, 32, 32, 32, 114, 105, 103, 104, 116, 32, 32, 32, 99, 117, 115, 104, 105, 111, 110, 32, 104, 97, 114, 109, 32, 32, 32, 32, 115, 104, 117, 116, 32, 32, 32, 32, 101, 97, 99, 104, 32, 32, 32, 32, 116, 111, 32, 32, 32, 32, 32, 32, 103, 114, 97, 99, 101, 32, 32, 32, 105, 102, 32, 32, 32, 32, 32, 32, 111, 114, 32, 32, 32, 32, 32, 32, 97, 110, 100, 32, 32, 32, 32, 32, 110, 111, 116, 32, 32, 32, 32, 32]
/-- the words as the reference packs them -/
def wdK : List Nat := [512736126322, 1918986606, 6578553, 2003133803, 120299592184933, 7304564, 1802071652, 2003133796, 482955846501, 1651864441, 28259031251642740, 1818326117, 491394656372, 27995161227784046, 1751216749, 1936225652, 1700881256, 29807, 444300616549, 26982, 28530, 6385252, 7237492]
def wdL (s i : Nat) : Nat := wdT.getD (8 * s + i) 0
/-- letters packed -/
def pkN (f : Nat → Nat) : Nat → Nat
  | 0 => 0
  | k + 1 => pkN f k * 256 + f k
theorem pk_inj {f g : Nat → Nat} : ∀ {k m : Nat}, (∀ i, i < k → 1 ≤ f i ∧ f i < 256) → (∀ i, i < m → 1 ≤ g i ∧ g i < 256) → pkN f k = pkN g m → k = m ∧ ∀ i, i < k → f i = g i
  | 0, 0, _, _, _ => ⟨rfl, fun i hi => absurd hi (Nat.not_lt_zero i)⟩
  | 0, m + 1, _, hg, h => by
    have := hg m (by omega)
    have h : 0 = pkN g m * 256 + g m := h
    omega
  | k + 1, 0, hf, _, h => by
    have := hf k (by omega)
    have h : pkN f k * 256 + f k = 0 := h
    omega
  | k + 1, m + 1, hf, hg, h => by
    have a1 := hf k (by omega)
    have a2 := hg m (by omega)
    have h : pkN f k * 256 + f k = pkN g m * 256 + g m := h
    have e1 : f k = g m := by omega
    have e2 : pkN f k = pkN g m := by omega
    obtain ⟨i1, i2⟩ := pk_inj (k := k) (m := m) (fun i hi => hf i (by omega)) (fun i hi => hg i (by omega)) e2
    subst i1
    refine ⟨rfl, fun i hi => ?_⟩
    rcases Nat.lt_succ_iff_lt_or_eq.mp hi with z | z
    · exact i2 i z
    · rw [z]; exact e1
theorem pk_cg {f g : Nat → Nat} : ∀ {k : Nat}, (∀ i, i < k → f i = g i) → pkN f k = pkN g k
  | 0, _ => rfl
  | k + 1, h => by
    show pkN f k * 256 + f k = pkN g k * 256 + g k
    rw [pk_cg (fun i hi => h i (by omega)), h k (by omega)]
theorem pkN_lt {f : Nat → Nat} : ∀ {k : Nat}, (∀ i, i < k → f i < 256) → pkN f k < 256 ^ k
  | 0, _ => Nat.one_pos
  | k + 1, h => by
    have i1 := pkN_lt (f := f) (k := k) (fun i hi => h i (by omega))
    have i2 := h k (by omega)
    show pkN f k * 256 + f k < 256 ^ (k + 1)
    rw [Nat.pow_succ]; omega
/-- the length of a word -/
def wdN (s : Nat) : Nat := [5, 4, 3, 4, 6, 3, 4, 4, 5, 4, 7, 4, 5, 7, 4, 4, 4, 2, 5, 2, 2, 3, 3].getD s 0
theorem wd_ok : ∀ s : Fin 23, (wdN s.val ≤ 7 ∧ 2 ≤ wdN s.val) ∧ (∀ i : Fin 8, if i.val < wdN s.val then 97 ≤ wdL s.val i.val ∧ wdL s.val i.val ≤ 122 else wdL s.val i.val = 32) ∧ pkN (wdL s.val) (wdN s.val) = wdK.getD s.val 0 := by decide
/-- the run of k letters f is the word s, as the class compares -/
def mtB (f : Nat → Nat) (k s i : Nat) : Bool := decide ((if i < k then f i else 32) = wdL s i)
def mtA (f : Nat → Nat) (k s : Nat) : Bool := (ffst (fun i => !mtB f k s i) 8).isNone
theorem mtA_iff {f : Nat → Nat} {k s : Nat} : mtA f k s = true ↔ ∀ i, i < 8 → (if i < k then f i else 32) = wdL s i := by
  unfold mtA
  cases e : ffst (fun i => !mtB f k s i) 8 with
  | none =>
    refine ⟨fun _ i hi => ?_, fun _ => rfl⟩
    have := ffst_none e i hi
    replace this : (!mtB f k s i) = false := this
    cases e2 : mtB f k s i with
    | true => exact of_decide_eq_true e2
    | false => rw [e2] at this; cases this
  | some j =>
    obtain ⟨h1, h2, -⟩ := ffst_some e
    refine ⟨fun z => (nomatch z), fun z => ?_⟩
    replace h2 : (!mtB f k s j) = true := h2
    rw [show mtB f k s j = true from decide_eq_true (z j h1)] at h2
    cases h2
theorem mt_pk {f : Nat → Nat} {k s : Nat} (hs : s < 23) (hk : k ≤ 7) (hf : ∀ i, i < k → 97 ≤ f i ∧ f i ≤ 122) : mtA f k s = true ↔ pkN f k = wdK.getD s 0 := by
  obtain ⟨⟨w1, w2⟩, w3, w4⟩ := wd_ok ⟨s, hs⟩
  replace w1 : wdN s ≤ 7 := w1
  replace w4 : pkN (wdL s) (wdN s) = wdK.getD s 0 := w4
  replace w3 : ∀ i, i < 8 → if i < wdN s then 97 ≤ wdL s i ∧ wdL s i ≤ 122 else wdL s i = 32 := fun i hi => w3 ⟨i, hi⟩
  have wa : ∀ i, i < wdN s → 97 ≤ wdL s i ∧ wdL s i ≤ 122 := fun i hi => by
    have := w3 i (by omega)
    rw [if_pos hi] at this; exact this
  have wb : ∀ i, i < 8 → ¬ i < wdN s → wdL s i = 32 := fun i hi hn => by
    have := w3 i hi
    rw [if_neg hn] at this; exact this
  rw [mtA_iff, ← w4]
  constructor
  · intro h
    have ek : k = wdN s := by
      rcases Nat.lt_trichotomy k (wdN s) with c | c | c
      · have h1 := h k (by omega)
        rw [if_neg (Nat.lt_irrefl k)] at h1
        have := wa k c
        omega
      · exact c
      · have h1 := h (wdN s) (by omega)
        rw [if_pos c, wb (wdN s) (by omega) (Nat.lt_irrefl _)] at h1
        have := hf (wdN s) c
        omega
    rw [← ek]
    refine pk_cg (fun i hi => ?_)
    have := h i (by omega)
    rw [if_pos hi] at this; exact this
  · intro h
    obtain ⟨e1, e2⟩ := pk_inj (fun i hi => by have := hf i hi; omega) (fun i hi => by have := wa i hi; omega) h
    intro i hi
    by_cases c : i < k
    · rw [if_pos c]; exact e2 i c
    · rw [if_neg c, wb i hi (by omega)]
/-- which word -/
def slN (f : Nat → Nat) (k : Nat) : Nat := if 8 ≤ k then 3000 else (ffst (mtA f k) 23).getD 3000
theorem sl_pk {f : Nat → Nat} {k s : Nat} (hs : s < 23) (hf : ∀ i, i < k → 97 ≤ f i ∧ f i ≤ 122) : slN f k = s ↔ k ≤ 7 ∧ pkN f k = wdK.getD s 0 := by
  unfold slN
  by_cases c : 8 ≤ k
  · rw [if_pos c]
    exact ⟨fun z => by omega, fun z => by omega⟩
  · rw [if_neg c]
    have nd : ∀ a b : Fin 23, wdK.getD a.val 0 = wdK.getD b.val 0 → a = b := by decide
    cases e : ffst (mtA f k) 23 with
    | none =>
      refine ⟨fun z => by replace z : (3000 : Nat) = s := z; omega, fun z => ?_⟩
      have h1 := ffst_none e s hs
      rw [(mt_pk hs z.1 hf).mpr z.2] at h1; cases h1
    | some j =>
      obtain ⟨h1, h2, -⟩ := ffst_some e
      have h3 := (mt_pk h1 (by omega) hf).mp h2
      constructor
      · intro z
        replace z : j = s := z
        subst z
        exact ⟨by omega, h3⟩
      · intro z
        have := nd ⟨j, h1⟩ ⟨s, hs⟩ (by show wdK.getD j 0 = wdK.getD s 0; rw [← h3, z.2])
        exact congrArg Fin.val this
abbrev isBl (c : Nat) : Prop := c = 32 ∨ c = 10
abbrev isLt (c : Nat) : Prop := 97 ≤ c ∧ c ≤ 122
abbrev isDg (c : Nat) : Prop := 48 ≤ c ∧ c ≤ 57
/-- the end of a run -/
def rnE (P : Nat → Bool) (v : Nat → Nat) (n : Nat) : Nat → Nat → Nat
  | 0, p => p
  | f + 1, p => if p < n ∧ P (v p) = true then rnE P v n f (p + 1) else p
theorem rnE_ge {P : Nat → Bool} {v : Nat → Nat} {n : Nat} : ∀ {f p}, p ≤ rnE P v n f p
  | 0, _ => Nat.le_refl _
  | f + 1, p => by
    unfold rnE
    split
    · have := rnE_ge (P := P) (v := v) (n := n) (f := f) (p := p + 1); omega
    · exact Nat.le_refl _
theorem rnE_le {P : Nat → Bool} {v : Nat → Nat} {n : Nat} : ∀ {f p}, p ≤ n → rnE P v n f p ≤ n
  | 0, _, h => h
  | f + 1, p, h => by
    unfold rnE
    split
    · exact rnE_le (by omega)
    · exact h
theorem rnE_in {P : Nat → Bool} {v : Nat → Nat} {n : Nat} : ∀ {f p i}, p ≤ i → i < rnE P v n f p → P (v i) = true
  | 0, p, i, h1, h2 => absurd h2 (by show ¬ i < p; omega)
  | f + 1, p, i, h1, h2 => by
    unfold rnE at h2
    by_cases c : p < n ∧ P (v p) = true
    · rw [if_pos c] at h2
      by_cases e : i = p
      · rw [e]; exact c.2
      · exact rnE_in (show p + 1 ≤ i by omega) h2
    · rw [if_neg c] at h2; omega
theorem rnE_end {P : Nat → Bool} {v : Nat → Nat} {n : Nat} : ∀ {f p}, n - p ≤ f → rnE P v n f p < n → P (v (rnE P v n f p)) = false
  | 0, p, h1, h2 => by
    have h2 : p < n := h2
    omega
  | f + 1, p, h1, h2 => by
    unfold rnE at h2 ⊢
    by_cases c : p < n ∧ P (v p) = true
    · rw [if_pos c] at h2 ⊢
      exact rnE_end (by omega) h2
    · rw [if_neg c] at h2 ⊢
      cases e : P (v p) with
      | false => rfl
      | true => exact absurd ⟨h2, e⟩ c
def endP (v : Nat → Nat) (n p : Nat) : Nat := if isLt (v p) then rnE (fun c => decide (isLt c)) v n n (p + 1) else if isDg (v p) then rnE (fun c => decide (isDg c)) v n n (p + 1) else p + 1
def numN (v : Nat → Nat) (p : Nat) : Nat → Nat
  | 0 => 0
  | k + 1 => numN v p k * 10 + (v (p + k) - 48)
def tokC (v : Nat → Nat) (p e : Nat) : Nat := if isDg (v p) then (if e - p ≤ 3 then 1000 + numN v p (e - p) else 3000) else if isLt (v p) then slN (fun i => v (p + i)) (e - p) else if v p = 59 ∨ v p = 40 ∨ v p = 41 ∨ (60 ≤ v p ∧ v p ≤ 62) then v p else 3000
theorem endP_gt {v : Nat → Nat} {n p : Nat} : p < endP v n p := by
  unfold endP
  split
  · have := rnE_ge (P := fun c => decide (isLt c)) (v := v) (n := n) (f := n) (p := p + 1); omega
  · split
    · have := rnE_ge (P := fun c => decide (isDg c)) (v := v) (n := n) (f := n) (p := p + 1); omega
    · omega
theorem endP_le {v : Nat → Nat} {n p : Nat} (h : p < n) : endP v n p ≤ n := by
  unfold endP
  split
  · exact rnE_le (by omega)
  · split
    · exact rnE_le (by omega)
    · omega
/-- tokens and their places from p on, END at n -/
def lexF (v : Nat → Nat) (n : Nat) : Nat → Nat → List (Nat × Nat)
  | 0, _ => [(4000, n)]
  | f + 1, p => if n ≤ p then [(4000, n)] else if isBl (v p) then lexF v n f (p + 1) else (tokC v p (endP v n p), p) :: lexF v n f (endP v n p)
theorem lexF_f {v : Nat → Nat} {n : Nat} : ∀ {f g p}, n - p ≤ f → n - p ≤ g → lexF v n f p = lexF v n g p
  | 0, 0, _, _, _ => rfl
  | 0, g + 1, p, h1, _ => by
    show _ = if n ≤ p then [(4000, n)] else _
    rw [if_pos (by omega)]; rfl
  | f + 1, 0, p, _, h2 => by
    show (if n ≤ p then [(4000, n)] else _) = _
    rw [if_pos (by omega)]; rfl
  | f + 1, g + 1, p, h1, h2 => by
    show (if n ≤ p then [(4000, n)] else if isBl (v p) then lexF v n f (p + 1) else (tokC v p (endP v n p), p) :: lexF v n f (endP v n p)) = (if n ≤ p then [(4000, n)] else if isBl (v p) then lexF v n g (p + 1) else (tokC v p (endP v n p), p) :: lexF v n g (endP v n p))
    by_cases c : n ≤ p
    · rw [if_pos c, if_pos c]
    · rw [if_neg c, if_neg c, lexF_f (f := f) (g := g) (p := p + 1) (by omega) (by omega), lexF_f (f := f) (g := g) (p := endP v n p) (by have := endP_gt (v := v) (n := n) (p := p); omega) (by have := endP_gt (v := v) (n := n) (p := p); omega)]
def lex (v : Nat → Nat) (n p : Nat) : List (Nat × Nat) := lexF v n (n - p) p
theorem lex_e {v : Nat → Nat} {n p : Nat} (h : n ≤ p) : lex v n p = [(4000, n)] := by
  unfold lex
  rw [show n - p = 0 by omega]; rfl
theorem lex_b {v : Nat → Nat} {n p : Nat} (h : p < n) (b : isBl (v p)) : lex v n p = lex v n (p + 1) := by
  unfold lex
  rw [show n - p = (n - (p + 1)) + 1 by omega]
  show (if n ≤ p then _ else if isBl (v p) then lexF v n (n - (p + 1)) (p + 1) else _) = _
  rw [if_neg (by omega), if_pos b]
theorem lex_t {v : Nat → Nat} {n p : Nat} (h : p < n) (b : ¬ isBl (v p)) : lex v n p = (tokC v p (endP v n p), p) :: lex v n (endP v n p) := by
  have gt := endP_gt (v := v) (n := n) (p := p)
  unfold lex
  rw [show n - p = (n - (p + 1)) + 1 by omega]
  show (if n ≤ p then _ else if isBl (v p) then _ else (tokC v p (endP v n p), p) :: lexF v n (n - (p + 1)) (endP v n p)) = _
  rw [if_neg (by omega), if_neg b, lexF_f (g := n - endP v n p) (by omega) (by omega)]
/-- blanks are skipped -/
def skp (v : Nat → Nat) (n : Nat) : Nat → Nat → Nat := rnE (fun c => decide (isBl c)) v n
theorem lex_s {v : Nat → Nat} {n : Nat} : ∀ {f p}, lex v n (skp v n f p) = lex v n p
  | 0, _ => rfl
  | f + 1, p => by
    show lex v n (if p < n ∧ decide (isBl (v p)) = true then skp v n f (p + 1) else p) = _
    by_cases c : p < n ∧ decide (isBl (v p)) = true
    · rw [if_pos c, lex_s, ← lex_b c.1 (of_decide_eq_true c.2)]
    · rw [if_neg c]

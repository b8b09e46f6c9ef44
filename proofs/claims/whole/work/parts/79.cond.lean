/-! CONDITIONS: what stands behind a rule, as a run over a pile -/
def Rp (x : Int64) (l : List Bool) : Prop := ∀ i, i < l.length → x.toBitVec.getLsbD i = l.getD i false
theorem bv1 : ((1 : Int64)).toBitVec = 1#64 := rfl
theorem shl1 (x : Int64) : (x <<< (Int32.toInt64 1 &&& 63)).toBitVec = x.toBitVec <<< 1 := by
  rw [show (Int32.toInt64 1 &&& 63 : Int64) = 1 by decide, Int64.toBitVec_shiftLeft]
  rfl
theorem shr1 (x : Int64) : (Int64.toUInt64 x >>> (Int64.toUInt64 (Int32.toInt64 1) &&& 63)).toInt64.toBitVec = x.toBitVec >>> 1 := by
  show (Int64.toUInt64 x >>> (Int64.toUInt64 (Int32.toInt64 1) &&& 63)).toBitVec = _
  rw [show (Int64.toUInt64 (Int32.toInt64 1) &&& 63 : UInt64) = 1 by decide, UInt64.toBitVec_shiftRight]
  rfl
theorem Rp_push {x : Int64} {l : List Bool} (h : Rp x l) (hl : l.length < 63) (b : Bool) : Rp ((x <<< (Int32.toInt64 1 &&& 63)) ||| (Int32.toInt64 (cond b 1 0))) (b :: l) := by
  intro i hi
  rw [Int64.toBitVec_or, BitVec.getLsbD_or, shl1, BitVec.getLsbD_shiftLeft]
  have hi : i < l.length + 1 := hi
  cases i with
  | zero => cases b <;> rfl
  | succ i =>
    have e : (Int32.toInt64 (cond b 1 0)).toBitVec.getLsbD (i + 1) = false := by
      cases b
      · show (0#64).getLsbD (i+1) = false
        simp
      · show (1#64).getLsbD (i+1) = false
        simp
    rw [e, Bool.or_false]
    have := h i (by omega)
    simp [this]
    omega
theorem Rp_not {x : Int64} {b : Bool} {l : List Bool} (h : Rp x (b :: l)) : Rp (x ^^^ 1) ((!b) :: l) := by
  intro i hi
  have := h i hi
  rw [Int64.toBitVec_xor, BitVec.getLsbD_xor, this]
  cases i with
  | zero => cases b <;> rfl
  | succ i => simp
theorem Rp_or {x : Int64} {b c : Bool} {l : List Bool} (h : Rp x (b :: c :: l)) : Rp ((Int64.toUInt64 x >>> (Int64.toUInt64 (Int32.toInt64 1) &&& 63)).toInt64 ||| (x &&& 1)) ((c || b) :: l) := by
  intro i hi
  have h0 := h 0 (by simp)
  have h1 := h (i + 1) (by simp at hi ⊢; omega)
  rw [Int64.toBitVec_or, BitVec.getLsbD_or, shr1, BitVec.getLsbD_ushiftRight, Int64.toBitVec_and, BitVec.getLsbD_and, Nat.add_comm 1 i, h1]
  cases i with
  | zero => rw [h0]; cases b <;> cases c <;> rfl
  | succ i => simp
theorem Rp_and {x : Int64} {b c : Bool} {l : List Bool} (h : Rp x (b :: c :: l)) (hl : l.length < 60) : Rp ((Int64.toUInt64 x >>> (Int64.toUInt64 (Int32.toInt64 1) &&& 63)).toInt64 &&& ((x &&& 1) ||| (-2))) ((c && b) :: l) := by
  intro i hi
  have h0 := h 0 (by simp)
  have h1 := h (i + 1) (by simp at hi ⊢; omega)
  rw [Int64.toBitVec_and, BitVec.getLsbD_and, shr1, BitVec.getLsbD_ushiftRight, Int64.toBitVec_or, BitVec.getLsbD_or, Int64.toBitVec_and, BitVec.getLsbD_and, Nat.add_comm 1 i, h1]
  cases i with
  | zero => rw [h0]; cases b <;> cases c <;> rfl
  | succ i =>
    have hi : i + 1 < l.length + 1 := hi
    have e : ((-2 : Int64)).toBitVec.getLsbD (i + 1) = true := by
      have k : ∀ i : Fin 63, ((-2 : Int64)).toBitVec.getLsbD (i.val + 1) = true := by decide
      exact k ⟨i, by omega⟩
    rw [e, Bool.or_true, Bool.and_true]; rfl
theorem Rp_bit {x : Int64} {b : Bool} {l : List Bool} (h : Rp x (b :: l)) : x &&& 1 = if b then 1 else 0 := by
  have h0 := h 0 (by simp)
  apply Int64.toBitVec_inj.mp
  apply BitVec.eq_of_getLsbD_eq
  intro i hi
  rw [Int64.toBitVec_and, BitVec.getLsbD_and]
  cases i with
  | zero => rw [h0]; cases b <;> rfl
  | succ i => cases b <;> simp

/-- one step over a pile: 0 lays a truth, 1 turns, 2 or, 3 and -/
def stL : Nat → Bool → List Bool → Option (List Bool)
  | 0, t, l => some (t :: l)
  | 1, _, x :: l => some ((!x) :: l)
  | 2, _, x :: y :: l => some ((y || x) :: l)
  | 3, _, x :: y :: l => some ((y && x) :: l)
  | _, _, _ => none
def ruL (f : Nat → Nat × Bool) (D : Nat) : Nat → Nat → List Bool → Option (List Bool)
  | _, 0, l => some l
  | a, n + 1, l => match stL (f a).1 (f a).2 l with
    | none => none
    | some l' => if D < l'.length then none else ruL f D (a + 1) n l'
theorem ruL_s {f : Nat → Nat × Bool} {D a n : Nat} {l l' : List Bool} (e : stL (f a).1 (f a).2 l = some l') (h : l'.length ≤ D) : ruL f D a (n + 1) l = ruL f D (a + 1) n l' := by
  show (match stL (f a).1 (f a).2 l with
    | none => none
    | some l' => if D < l'.length then none else ruL f D (a + 1) n l') = _
  rw [e]
  exact if_neg (by omega)
theorem ruL_inv {f : Nat → Nat × Bool} {D a n : Nat} {l r : List Bool} (h : ruL f D a (n + 1) l = some r) : ∃ l', stL (f a).1 (f a).2 l = some l' ∧ l'.length ≤ D ∧ ruL f D (a + 1) n l' = some r := by
  replace h : (match stL (f a).1 (f a).2 l with
    | none => none
    | some l' => if D < l'.length then none else ruL f D (a + 1) n l') = some r := h
  cases e : stL (f a).1 (f a).2 l with
  | none => rw [e] at h; cases h
  | some l' =>
    rw [e] at h
    replace h : (if D < l'.length then none else ruL f D (a + 1) n l') = some r := h
    by_cases c : D < l'.length
    · rw [if_pos c] at h; cases h
    · rw [if_neg c] at h; exact ⟨l', rfl, by omega, h⟩
theorem ruL_add {f : Nat → Nat × Bool} {D : Nat} {r : List Bool} : ∀ {m n a l l'}, ruL f D a m l = some l' → ruL f D (a + m) n l' = some r → ruL f D a (m + n) l = some r
  | 0, n, a, l, l', h, k => by
    have h : some l = some l' := h
    injection h with h
    subst h
    rw [Nat.zero_add]; exact k
  | m + 1, n, a, l, l', h, k => by
    obtain ⟨l2, h1, h2, h3⟩ := ruL_inv h
    rw [show m + 1 + n = (m + n) + 1 by omega, ruL_s h1 h2]
    exact ruL_add h3 (by rw [show a + 1 + m = a + (m + 1) by omega]; exact k)
theorem ruL_mono {f : Nat → Nat × Bool} {D D2 : Nat} (hD : D ≤ D2) {r : List Bool} : ∀ {n a l}, ruL f D a n l = some r → ruL f D2 a n l = some r
  | 0, _, _, h => h
  | n + 1, a, l, h => by
    obtain ⟨l2, h1, h2, h3⟩ := ruL_inv h
    rw [ruL_s h1 (by omega)]
    exact ruL_mono hD h3
theorem ruL_cong {f g : Nat → Nat × Bool} {D : Nat} : ∀ {n a l}, (∀ i, a ≤ i → i < a + n → f i = g i) → ruL f D a n l = ruL g D a n l
  | 0, _, _, _ => rfl
  | n + 1, a, l, h => by
    show (match stL (f a).1 (f a).2 l with
      | none => none
      | some l' => if D < l'.length then none else ruL f D (a + 1) n l') = (match stL (g a).1 (g a).2 l with
      | none => none
      | some l' => if D < l'.length then none else ruL g D (a + 1) n l')
    rw [h a (by omega) (by omega)]
    cases stL (g a).1 (g a).2 l with
    | none => rfl
    | some l' =>
      show (if D < l'.length then none else ruL f D (a + 1) n l') = (if D < l'.length then none else ruL g D (a + 1) n l')
      rw [ruL_cong (fun i h1 h2 => h i (by omega) (by omega))]
/-- the steps from a to b lay t, over no more than D of their own -/
def SegL (f : Nat → Nat × Bool) (D a b : Nat) (t : Bool) : Prop := a < b ∧ ∀ l : List Bool, ruL f (l.length + D) a (b - a) l = some (t :: l)
theorem SegL.mono {f : Nat → Nat × Bool} {D D2 a b : Nat} {t : Bool} (h : SegL f D a b t) (hD : D ≤ D2) : SegL f D2 a b t := ⟨h.1, fun l => ruL_mono (by omega) (h.2 l)⟩
theorem SegL.cong {f g : Nat → Nat × Bool} {D a b : Nat} {t : Bool} (h : SegL f D a b t) (e : ∀ i, a ≤ i → i < b → g i = f i) : SegL g D a b t := ⟨h.1, fun l => by
  rw [ruL_cong (g := f) (fun i h1 h2 => e i h1 (by have := h.1; omega))]; exact h.2 l⟩
theorem SegL.lay {f : Nat → Nat × Bool} {a : Nat} {t : Bool} (e : f a = (0, t)) : SegL f 1 a (a + 1) t := ⟨by omega, fun l => by
  rw [show a + 1 - a = 0 + 1 by omega, ruL_s (l' := t :: l) (by rw [e]; rfl) (by show l.length + 1 ≤ l.length + 1; omega)]; rfl⟩
theorem SegL.turn {f : Nat → Nat × Bool} {D a b : Nat} {t : Bool} (h : SegL f D a b t) (hD : 1 ≤ D) (e : (f b).1 = 1) : SegL f D a (b + 1) (!t) := ⟨by have := h.1; omega, fun l => by
  have h1 := h.1
  rw [show b + 1 - a = (b - a) + 1 by omega]
  refine ruL_add (h.2 l) ?_
  rw [show a + (b - a) = b by omega, show (1 : Nat) = 0 + 1 from rfl, ruL_s (l' := (!t) :: l) (by rw [e]; rfl) (by show l.length + 1 ≤ l.length + D; omega)]; rfl⟩
theorem SegL.or {f : Nat → Nat × Bool} {D D2 a b c : Nat} {t u : Bool} (h : SegL f D a b t) (k : SegL f D2 b c u) (hD : 1 ≤ D) (hD2 : D2 + 1 ≤ D) (e : (f c).1 = 2) : SegL f D a (c + 1) (t || u) := ⟨by have := h.1; have := k.1; omega, fun l => by
  have h1 := h.1
  have k1 := k.1
  rw [show c + 1 - a = (b - a) + ((c - b) + 1) by omega]
  refine ruL_add (h.2 l) ?_
  rw [show a + (b - a) = b by omega]
  refine ruL_add (ruL_mono (by show l.length + 1 + D2 ≤ l.length + D; omega) (k.2 (t :: l))) ?_
  rw [show b + (c - b) = c by omega, show (1 : Nat) = 0 + 1 from rfl, ruL_s (l' := (t || u) :: l) (by rw [e]; rfl) (by show l.length + 1 ≤ l.length + D; omega)]; rfl⟩
theorem SegL.and {f : Nat → Nat × Bool} {D D2 a b c : Nat} {t u : Bool} (h : SegL f D a b t) (k : SegL f D2 b c u) (hD : 1 ≤ D) (hD2 : D2 + 1 ≤ D) (e : (f c).1 = 3) : SegL f D a (c + 1) (t && u) := ⟨by have := h.1; have := k.1; omega, fun l => by
  have h1 := h.1
  have k1 := k.1
  rw [show c + 1 - a = (b - a) + ((c - b) + 1) by omega]
  refine ruL_add (h.2 l) ?_
  rw [show a + (b - a) = b by omega]
  refine ruL_add (ruL_mono (by show l.length + 1 + D2 ≤ l.length + D; omega) (k.2 (t :: l))) ?_
  rw [show b + (c - b) = c by omega, show (1 : Nat) = 0 + 1 from rfl, ruL_s (l' := (t && u) :: l) (by rw [e]; rfl) (by show l.length + 1 ≤ l.length + D; omega)]; rfl⟩

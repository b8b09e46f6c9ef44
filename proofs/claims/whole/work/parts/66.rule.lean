/-! CALL: rule -/
/-- what a law says, by places -/
def LawEq (h : MH) (m : Nat) (f : Nat → Int32) : Prop := (∀ j, j < 4 → hI h 601000004 m j = f j ∧ hI h 602000004 m j = f (4 + j) ∧ hI h 603000004 m j = f (8 + j)) ∧ (hI h 605 m 0 = f 12 ∧ hI h 606 m 0 = f 13 ∧ hI h 607 m 0 = f 14 ∧ hI h 608 m 0 = f 15 ∧ hI h 609 m 0 = f 16) ∧ ∀ i, i < 40 → hI h 604000040 m i = f (20 + i)
def bareF (i : Nat) : Int32 := if i < 4 then 0 else if i < 8 then 60 else if i = 13 then 60 else 0
/-- LAWS: days and what they say, but for their rules -/
def RRule (h : MH) : Prop := ∃ n, n ≤ 5 ∧ hI h 1203 0 0 = nI n ∧ hI h 1300 0 0 = nI n ∧ (∃ dy : Nat → Nat, ∀ k, k < n → dy k < 100 ∧ hR h 1201400005 0 k = some (k + 1) ∧ hI h 600 (k + 1) 0 = nI (dy k) ∧ hI h 1309000006 0 k = nI (dy k)) ∧ (∀ k, k < n → LawEq h (k + 1) (fun i => hI h 1308000384 0 (64 * k + i))) ∧ LawEq h 0 bareF
/-- the law of a day among the first ones -/
def lawF (dy : Nat → Nat) (x : Nat) : Nat → Option Nat
  | 0 => none
  | k + 1 => if x < dy k then lawF dy x k else match lawF dy x k with
    | none => some k
    | some j => if dy k < dy j then some j else some k
theorem lawF_lt {dy : Nat → Nat} {x : Nat} : ∀ {n j : Nat}, lawF dy x n = some j → j < n
  | 0, _, h => by cases h
  | n + 1, j, h => by
    replace h : (if x < dy n then lawF dy x n else match lawF dy x n with
      | none => some n
      | some j => if dy n < dy j then some j else some n) = some j := h
    by_cases c : x < dy n
    · rw [if_pos c] at h
      have := lawF_lt h
      omega
    · rw [if_neg c] at h
      cases e : lawF dy x n with
      | none => rw [e] at h; cases h; omega
      | some i =>
        rw [e] at h
        have hi := lawF_lt e
        replace h : (if dy n < dy i then some i else some n) = some j := h
        by_cases c2 : dy n < dy i
        · rw [if_pos c2] at h; cases h; omega
        · rw [if_neg c2] at h; cases h; omega
def dyO (dy : Nat → Nat) : Option Nat → Nat
  | none => 0
  | some j => dy j
def lmO : Option Nat → Nat
  | none => 0
  | some k => k + 1
section Rule
variable {L : Nat} {scr : Nat → Int32} {d : Nat}
theorem rd_laws {X : Type} {h : MH} {i : Int32} {k : Nat → Option X} {z : Option X} {m : Nat} (hb : ¬ oob i 5) (e : hR h 1201400005 0 (ix i) = some m) : rdR 4 h 1201400005 0 i k z = k m := by
  unfold rdR
  rw [if_pos ⟨rfl, hb⟩, e]
theorem c_lawNumber {h : MH} {n x : Nat} {dy : Nat → Nat} (hn : n ≤ 5) (hx : x < 100) (e : hI h 1203 0 0 = nI n) (hd : ∀ k, k < n → dy k < 100 ∧ hR h 1201400005 0 k = some (k + 1) ∧ hI h 600 (k + 1) 0 = nI (dy k)) : E L scr (d + 1) 187 [vR 900011 0, vI (nI x)] h = some (some (vI (oI (lawF dy x n))), h) := by
  refine r_P_lawNumber _ _ _ (Sm.step (t' := 1) (lo' := [some (vR 900011 0), some (vI (nI x)), some (vI (oI (lawF dy x 0))), some (vI (nI (dyO dy (lawF dy x 0)))), some (vI 0), none]) (st' := []) (h' := h) (t_P_lawNumber_0 ..) ?_)
  refine Sm.for (lo := fun k => [some (vR 900011 0), some (vI (nI x)), some (vI (oI (lawF dy x k))), some (vI (nI (dyO dy (lawF dy x k)))), some (vI (nI k)), match k with | 0 => none | j + 1 => some (vR 900005 (j + 1))]) (hh := fun _ => h) n (fun k hk => ?_) (Sm.ret ?_)
  · obtain ⟨h1, h2, h3⟩ := hd k hk
    have hp : dyO dy (lawF dy x k) < 100 := by
      cases e2 : lawF dy x k with
      | none => show 0 < 100; omega
      | some j =>
        have := lawF_lt e2
        exact (hd j (by omega)).1
    rw [t_P_lawNumber_1, e, if_neg (nI_ge hk (by omega)), rd_laws (oob_nI (by omega) (by decide)) (by rw [ix_nI (by omega)]; exact h2), h3, nI_1]
    have ef : lawF dy x (k + 1) = (if x < dy k then lawF dy x k else match lawF dy x k with
      | none => some k
      | some j => if dy k < dy j then some j else some k) := rfl
    by_cases c : x < dy k
    · rw [if_pos c] at ef
      rw [if_pos (nI_lt c (by omega)), ef]
    · rw [if_neg c] at ef
      rw [if_neg (nI_nlt (by omega) (by omega))]
      cases e2 : lawF dy x k with
      | none =>
        rw [e2] at ef
        replace ef : lawF dy x (k + 1) = some k := ef
        rw [if_neg (show ¬ nI (dy k) < nI (dyO dy none) from nI_nlt (b := 0) (by omega) (by omega)), ef]; rfl
      | some j =>
        rw [e2] at ef hp
        replace ef : lawF dy x (k + 1) = if dy k < dy j then some j else some k := ef
        show (if nI (dy k) < nI (dy j) then _ else _) = _
        by_cases c2 : dy k < dy j
        · rw [if_pos c2] at ef
          rw [if_pos (show nI (dy k) < nI (dy j) from nI_lt c2 (by have : dy j < 100 := hp; omega)), ef]
        · rw [if_neg c2] at ef
          rw [if_neg (show ¬ nI (dy k) < nI (dy j) from nI_nlt (by omega) (by omega)), ef]; rfl
  · rw [t_P_lawNumber_1, e, if_pos (nI_le (Nat.le_refl _) (by omega))]
theorem c_M_lawOf {h : MH} {n x : Nat} {dy : Nat → Nat} (hn : n ≤ 5) (hx : x < 100) (e : hI h 1300 0 0 = nI n) (hd : ∀ k, k < n → dy k < 100 ∧ hI h 1309000006 0 k = nI (dy k)) : E L scr (d + 1) 232 [vR 900012 0, vI (nI x)] h = some (some (vI (oI (lawF dy x n))), h) := by
  refine r_M_lawOf _ _ _ (Sm.step (t' := 1) (lo' := [some (vR 900012 0), some (vI (nI x)), some (vI (oI (lawF dy x 0))), some (vI 0)]) (st' := []) (h' := h) (t_M_lawOf_0 ..) ?_)
  refine Sm.for (lo := fun k => [some (vR 900012 0), some (vI (nI x)), some (vI (oI (lawF dy x k))), some (vI (nI k))]) (hh := fun _ => h) n (fun k hk => ?_) (Sm.ret ?_)
  · obtain ⟨h1, h2⟩ := hd k hk
    rw [t_M_lawOf_1, e, if_neg (nI_ge hk (by omega)), rd_M_lawDay (oob_nI (by omega) (by decide)), ix_nI (by omega), h2, nI_1]
    have ef : lawF dy x (k + 1) = (if x < dy k then lawF dy x k else match lawF dy x k with
      | none => some k
      | some j => if dy k < dy j then some j else some k) := rfl
    by_cases c : x < dy k
    · rw [if_pos c] at ef
      rw [if_pos (nI_lt c (by omega)), ef]
    · rw [if_neg c] at ef
      rw [if_neg (nI_nlt (by omega) (by omega))]
      cases e2 : lawF dy x k with
      | none =>
        rw [e2] at ef
        replace ef : lawF dy x (k + 1) = some k := ef
        rw [if_pos (show oI none = -1 from rfl), ef]; rfl
      | some j =>
        have hj := lawF_lt e2
        obtain ⟨j1, j2⟩ := hd j (by omega)
        rw [e2] at ef
        replace ef : lawF dy x (k + 1) = if dy k < dy j then some j else some k := ef
        rw [if_neg (show ¬ oI (some j) = -1 from nI_ne1 (by omega)), rd_M_lawDay (oob_nI (by omega) (by decide)), ix_nI (by omega), h2, rd_M_lawDay (show ¬ oob (oI (some j)) 6 from oob_nI (by omega) (by decide)), show ix (oI (some j)) = j from ix_nI (by omega), j2]
        by_cases c2 : dy k < dy j
        · rw [if_pos c2] at ef
          rw [if_pos (nI_lt c2 (by omega)), ef]
        · rw [if_neg c2] at ef
          rw [if_neg (nI_nlt (by omega) (by omega)), ef]; rfl
  · rw [t_M_lawOf_1, e, if_pos (nI_le (Nat.le_refl _) (by omega))]
theorem c_P_lawOf {h : MH} {n x : Nat} {dy : Nat → Nat} (hn : n ≤ 5) (hx : x < 100) (e : hI h 1203 0 0 = nI n) (hd : ∀ k, k < n → dy k < 100 ∧ hR h 1201400005 0 k = some (k + 1) ∧ hI h 600 (k + 1) 0 = nI (dy k)) : E L scr (d + 2) 188 [vR 900011 0, vI (nI x)] h = some (some (vR 900005 (lmO (lawF dy x n))), h) := by
  refine r_P_lawOf _ _ _ (Sm.ret ?_)
  rw [t_P_lawOf_0, c_lawNumber hn hx e hd, clI_ok]
  cases e2 : lawF dy x n with
  | none => rw [if_pos (show oI none = -1 from rfl)]; rfl
  | some j =>
    have hj := lawF_lt e2
    rw [if_neg (show ¬ oI (some j) = -1 from nI_ne1 (by omega)), rd_laws (show ¬ oob (oI (some j)) 5 from oob_nI (by omega) (by decide)) (by rw [show ix (oI (some j)) = j from ix_nI (by omega)]; exact (hd j hj).2.1)]
    rfl
/-- what the law of a day says on the reference's side -/
def saidF (h : MH) : Option Nat → Nat → Int32
  | none => bareF
  | some k => fun i => hI h 1308000384 0 (64 * k + i)
theorem c_M_said {h : MH} {o : Option Nat} {i : Nat} (ho : ∀ k, o = some k → k < 5) (hi : i < 64) : E L scr (d + 1) 233 [vR 900012 0, vI (oI o), vI (nI i)] h = some (some (vI (saidF h o i)), h) := by
  refine r_M_said _ _ _ _ (Sm.ret ?_)
  cases o with
  | none =>
    rw [t_M_said_0, if_pos (show oI none = -1 from rfl)]
    show _ = some (Sum.inr (some (vI (bareF i)), h))
    unfold bareF
    have e13 : nI i = 13 ↔ i = 13 := nI_eq (b := 13) (by omega) (by decide)
    by_cases c1 : i < 4
    · rw [if_pos (show nI i < 4 from nI_lt (b := 4) c1 (by decide)), if_neg (fun z => by have := e13.mp z; omega), if_pos c1]
    · rw [if_neg (show ¬ nI i < 4 from nI_nlt (b := 4) (by omega) (by omega)), if_neg c1]
      by_cases c2 : i < 8
      · rw [if_pos (show nI i < 8 from nI_lt (b := 8) c2 (by decide)), if_pos c2]
      · rw [if_neg (show ¬ nI i < 8 from nI_nlt (b := 8) (by omega) (by omega)), if_neg c2]
        by_cases c3 : i = 13
        · rw [if_pos (e13.mpr c3), if_pos c3]
        · rw [if_neg (fun z => c3 (e13.mp z)), if_neg c3]
  | some k =>
    have hk := ho k rfl
    rw [t_M_said_0, if_neg (show ¬ oI (some k) = -1 from nI_ne1 (by omega)), show (64 : Int32) = nI 64 from rfl, show oI (some k) = nI k from rfl, nI_mul, nI_add, rd_M_law (oob_nI (by omega) (by decide)), ix_nI (by omega)]
    rfl
theorem law_of {h : MH} {n x : Nat} {dy : Nat → Nat} (hl : ∀ k, k < n → LawEq h (k + 1) (fun i => hI h 1308000384 0 (64 * k + i))) (hb : LawEq h 0 bareF) : LawEq h (lmO (lawF dy x n)) (saidF h (lawF dy x n)) := by
  cases e : lawF dy x n with
  | none => exact hb
  | some j => exact hl j (lawF_lt e)
end Rule

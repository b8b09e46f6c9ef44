/-! TOKENS TAKEN, on the class's side -/
abbrev TokT (t : Nat) : Prop := t < 23 ∨ isSg t ∨ (1000 ≤ t ∧ t < 2000) ∨ t = 3000
/-- a list of tokens that ends -/
def OkL : List (Nat × Nat) → Prop
  | [] => False
  | (t, g) :: r => g ≤ 900 ∧ ((t = 4000 ∧ r = []) ∨ (TokT t ∧ OkL r))
theorem tok_ok {v : Nat → Nat} {n q : Nat} : TokT (tokC v q (endP v n q)) := by
  by_cases dg : isDg (v q)
  · have ds := endP_dg (n := n) dg
    have gt := endP_gt (v := v) (n := n) (p := q)
    unfold tokC
    rw [if_pos dg]
    by_cases k3 : endP v n q - q ≤ 3
    · have nl := numN_3 (v := v) (p := q) k3 (fun i hi => ds (q + i) (by omega) (by omega))
      rw [if_pos k3]
      exact Or.inr (Or.inr (Or.inl (by omega)))
    · rw [if_neg k3]; exact Or.inr (Or.inr (Or.inr rfl))
  · unfold tokC
    rw [if_neg dg]
    by_cases l : isLt (v q)
    · rw [if_pos l]
      unfold slN
      split
      · exact Or.inr (Or.inr (Or.inr rfl))
      · cases e : ffst (mtA (fun i => v (q + i)) (endP v n q - q)) 23 with
        | none => exact Or.inr (Or.inr (Or.inr rfl))
        | some j => exact Or.inl (ffst_some e).1
    · rw [if_neg l]
      by_cases sg : isSg (v q)
      · rw [if_pos sg]; exact Or.inr (Or.inl sg)
      · rw [if_neg sg]; exact Or.inr (Or.inr (Or.inr rfl))
theorem lex_okF {v : Nat → Nat} {n : Nat} (hn : n ≤ 900) : ∀ f p, OkL (lexF v n f p) ∧ (n - p ≤ f → (lexF v n f p).length ≤ n - p + 1)
  | 0, p => ⟨⟨hn, Or.inl ⟨rfl, rfl⟩⟩, fun _ => by show 1 ≤ _; omega⟩
  | f + 1, p => by
    have e : lexF v n (f + 1) p = if n ≤ p then [(4000, n)] else if isBl (v p) then lexF v n f (p + 1) else (tokC v p (endP v n p), p) :: lexF v n f (endP v n p) := rfl
    rw [e]
    by_cases c : n ≤ p
    · rw [if_pos c]
      exact ⟨⟨hn, Or.inl ⟨rfl, rfl⟩⟩, fun _ => by show 1 ≤ _; omega⟩
    · rw [if_neg c]
      by_cases b : isBl (v p)
      · rw [if_pos b]
        obtain ⟨i1, i2⟩ := lex_okF (v := v) hn f (p + 1)
        exact ⟨i1, fun h => by have := i2 (by omega); omega⟩
      · rw [if_neg b]
        have gt := endP_gt (v := v) (n := n) (p := p)
        obtain ⟨i1, i2⟩ := lex_okF (v := v) hn f (endP v n p)
        exact ⟨⟨by omega, Or.inr ⟨tok_ok, i1⟩⟩, fun h => by
          have := i2 (by omega)
          show (lexF v n f (endP v n p)).length + 1 ≤ _
          omega⟩
theorem lex_ok {v : Nat → Nat} {n p : Nat} (hn : n ≤ 900) : OkL (lex v n p) ∧ (lex v n p).length ≤ n - p + 1 := ⟨(lex_okF hn _ p).1, (lex_okF hn _ p).2 (Nat.le_refl _)⟩
/-- where a reader stands: before tokens, or refused at a place -/
abbrev PSt : Type := List (Nat × Nat) ⊕ Nat
def CP (h : MH) (ls : List (Nat × Nat)) : PSt → Prop
  | .inl l => ls.length ≤ 901 ∧ LxR h 0 ls ∧ ∃ i, l = ls.drop i ∧ OkL l ∧ hI h 704 0 0 = nI i ∧ hI h 705 0 0 = -1
  | .inr g => ls.length ≤ 901 ∧ LxR h 0 ls ∧ g ≤ 900 ∧ hI h 705 0 0 = nI g ∧ ∃ i t q, ls[i]? = some (t, q) ∧ (t = 4000 ∨ TokT t) ∧ hI h 704 0 0 = nI i
/-- a token passed if it is so -/
def tkP (ok : Nat → Bool) : PSt → PSt
  | .inl ((t, g) :: r) => if ok t = true then .inl r else .inr g
  | .inl [] => .inl []
  | .inr g => .inr g
abbrev WRd : List (Nat × Nat) := [(704, 0), (705, 0)]
theorem tkI_eq {t c : Nat} (ht : t = 4000 ∨ TokT t) (hc : c < 2000) : tkI t = nI c ↔ t = c := by
  unfold tkI
  by_cases a : t = 3000
  · rw [if_pos a]
    refine ⟨fun z => ?_, fun z => by omega⟩
    have := congrArg Int32.toInt z
    rw [nI_toInt (by omega)] at this
    replace this : (-2 : Int) = c := this
    omega
  · rw [if_neg a]
    by_cases b : t = 4000
    · rw [if_pos b]
      refine ⟨fun z => ?_, fun z => by omega⟩
      have := congrArg Int32.toInt z
      rw [nI_toInt (by omega)] at this
      replace this : (-1 : Int) = c := this
      omega
    · rw [if_neg b]
      have : t < 2000 := by omega
      exact nI_eq (by omega) (by omega)
theorem drop_h {ls r : List (Nat × Nat)} {i : Nat} {q : Nat × Nat} (e : q :: r = ls.drop i) : ls[i]? = some q ∧ r = ls.drop (i + 1) ∧ i < ls.length := by
  have h0 : (ls.drop i)[0]? = ls[i]? := by rw [List.getElem?_drop]; rfl
  have h1 : (ls.drop i).tail = ls.drop (i + 1) := List.tail_drop
  rw [← e] at h0 h1
  have l1 : i < ls.length := by
    rcases Nat.lt_or_ge i ls.length with c | c
    · exact c
    · rw [List.drop_eq_nil_of_le c] at e; cases e
  exact ⟨h0.symm, h1, l1⟩
theorem LxR.fr {W : List (Nat × Nat)} {h h2 : MH} {ls : List (Nat × Nat)} (u : Upd W h h2) (hd : ∀ q ∈ WSc, q ∉ W) (x : LxR h 0 ls) : LxR h2 0 ls := by
  intro j q e
  rw [u.2 702000901 0 (hd _ (by decide)), u.2 703000901 0 (hd _ (by decide))]
  exact x j q e
theorem CP.fr {W : List (Nat × Nat)} {h h2 : MH} {ls : List (Nat × Nat)} {x : PSt} (u : Upd W h h2) (hd : ∀ q ∈ WSc ++ WRd, q ∉ W) (c : CP h ls x) : CP h2 ls x := by
  have e1 := u.2 704 0 (hd _ (by decide))
  have e2 := u.2 705 0 (hd _ (by decide))
  cases x with
  | inl l =>
    obtain ⟨c1, c2, i, c3, c4, c5, c6⟩ := c
    exact ⟨c1, c2.fr u (fun q hq => hd q (List.mem_append_left _ hq)), i, c3, c4, by rw [e1]; exact c5, by rw [e2]; exact c6⟩
  | inr g =>
    obtain ⟨c1, c2, c3, c4, i, t, q, c5, c7, c6⟩ := c
    exact ⟨c1, c2.fr u (fun q hq => hd q (List.mem_append_left _ hq)), c3, by rw [e2]; exact c4, i, t, q, c5, c7, by rw [e1]; exact c6⟩
section CTake
variable {L : Nat} {scr : Nat → Int32} {d : Nat}
theorem c_take {h : MH} {ls : List (Nat × Nat)} {st : PSt} {x : Int32} {ok : Nat → Bool} (c : CP h ls st) (hx : x ≠ -1) (hk : ∀ t g r, st = .inl ((t, g) :: r) → (t = 4000 ∨ TokT t) → (tkI t = x ↔ ok t = true)) : ∃ h2, E L scr (d + 1) 77 [vR 900006 0, vI x] h = some (none, h2) ∧ Upd WRd h h2 ∧ CP h2 ls (tkP ok st) := by
  cases st with
  | inr g =>
    obtain ⟨c1, c2, c3, c4, i, t, q, c5, c7, c6⟩ := id c
    have ng : ¬ nI g = -1 := nI_ne1 (by omega)
    exact ⟨h, r_Reader_take _ _ _ (Sm.ret (by rw [t_Reader_take_0, c4, if_neg ng, if_neg ng])), Upd.rf _ h, c⟩
  | inl l =>
    obtain ⟨c1, c2, i, c3, c4, c5, c6⟩ := id c
    cases l with
    | nil => exact c4.elim
    | cons q r =>
      obtain ⟨t, g⟩ := q
      obtain ⟨d1, d2, d3⟩ := drop_h c3
      obtain ⟨e1, e2⟩ := c2 i _ d1
      rw [Nat.zero_add] at e1 e2
      replace e1 : hI h 702000901 0 i = tkI t := e1
      replace e2 : hI h 703000901 0 i = nI g := e2
      obtain ⟨g9, tt⟩ := id c4
      have tt2 : t = 4000 ∨ TokT t := tt.elim (fun z => Or.inl z.1) (fun z => Or.inr z.1)
      have k := hk t g r rfl tt2
      have ob : ¬ oob (nI i) 901 := oob_nI (by omega) (by decide)
      have ixi : ix (nI i) = i := ix_nI (by omega)
      cases o : ok t with
      | true =>
        have ex := k.mpr o
        have t4 : t ≠ 4000 := fun z => hx (by rw [← ex, z]; rfl)
        have u : Upd WRd h (sI h 704 0 0 (nI (i + 1))) := (Upd.rf _ h).sI (by decide)
        refine ⟨sI h 704 0 0 (nI (i + 1)), r_Reader_take _ _ _ (Sm.ret ?_), u, ?_⟩
        · rw [t_Reader_take_0, c6, if_pos rfl, c5, rd_Reader_tokens ob, ixi, e1, if_pos ex, if_pos rfl, if_neg hx, nI_1]
        · show CP _ ls (if ok t = true then .inl r else .inr g)
          rw [if_pos o]
          refine ⟨c1, c2.fr u (by decide), i + 1, d2, (tt.elim (fun z => absurd z.1 t4) (fun z => z.2)), ?_, ?_⟩
          · simp only [hI_row, and_true, true_and, if_true, up_s]
          · simp only [hI_row, Nat.reduceEqDiff, false_and, if_false]
            exact c6
      | false =>
        have ex : ¬ tkI t = x := fun z => by have := k.mp z; rw [o] at this; cases this
        have u : Upd WRd h (sI h 705 0 0 (nI g)) := (Upd.rf _ h).sI (by decide)
        refine ⟨sI h 705 0 0 (nI g), r_Reader_take _ _ _ (Sm.ret ?_), u, ?_⟩
        · rw [t_Reader_take_0, c6, if_pos rfl, c5, rd_Reader_tokens ob, ixi, e1, if_neg ex, rd_Reader_places ob, ixi, e2]
        · show CP _ ls (if ok t = true then .inl r else .inr g)
          rw [if_neg (by rw [o]; decide)]
          refine ⟨c1, c2.fr u (by decide), g9, ?_, i, t, g, d1, tt2, ?_⟩
          · simp only [hI_row, and_true, true_and, if_true, up_s]
          · simp only [hI_row, Nat.reduceEqDiff, false_and, if_false]
            exact c5
/-- a word or a sign -/
theorem c_takeN {h : MH} {ls : List (Nat × Nat)} {st : PSt} {k : Nat} (c : CP h ls st) (hk : k < 2000) : ∃ h2, E L scr (d + 1) 77 [vR 900006 0, vI (nI k)] h = some (none, h2) ∧ Upd WRd h h2 ∧ CP h2 ls (tkP (fun t => decide (t = k)) st) := c_take c (nI_ne1 (by omega)) (fun t g r _ ht => by rw [tkI_eq ht hk, decide_eq_true_eq])
/-- never -/
theorem c_takeX {h : MH} {ls : List (Nat × Nat)} {st : PSt} (c : CP h ls st) : ∃ h2, E L scr (d + 1) 77 [vR 900006 0, vI (-3)] h = some (none, h2) ∧ Upd WRd h h2 ∧ CP h2 ls (tkP (fun _ => false) st) := by
  refine c_take c (by decide) (fun t g r _ ht => ⟨fun z => ?_, fun z => nomatch z⟩)
  exfalso
  unfold tkI at z
  by_cases a : t = 3000
  · rw [if_pos a] at z; revert z; decide
  · rw [if_neg a] at z
    by_cases b : t = 4000
    · rw [if_pos b] at z; revert z; decide
    · rw [if_neg b] at z
      have t2 : t < 2000 := by omega
      have := congrArg Int32.toInt z
      rw [nI_toInt (by omega)] at this
      replace this : (t : Int) = -3 := this
      omega
end CTake

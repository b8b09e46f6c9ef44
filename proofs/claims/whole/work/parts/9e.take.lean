/-! IMAGES: rows copied from one State to another -/
def cpN (len : Nat) (f g : Nat → Int32) : Nat → Int32 := fun c => if c < len then f c else g c
/-- a row of instance o taken from instance p -/
def cpS (o p : Nat) (q : Nat × Nat) (h : MH) : MH := (fun a b => if a = q.1 ∧ b = o then cpN q.2 (hI h q.1 p) (hI h q.1 o) else hI h a b, h.2)
def cpL (o p : Nat) : List (Nat × Nat) → MH → MH
  | [], h => h
  | q :: r, h => cpL o p r (cpS o p q h)
theorem cpS_I {o p : Nat} {q : Nat × Nat} {h : MH} (a b : Nat) : hI (cpS o p q h) a b = if a = q.1 ∧ b = o then cpN q.2 (hI h q.1 p) (hI h q.1 o) else hI h a b := rfl
theorem cpS_n {o p : Nat} {q : Nat × Nat} {h : MH} {a b : Nat} (n : b ≠ o) : hI (cpS o p q h) a b = hI h a b := by rw [cpS_I]; exact if_neg (fun z => n z.2)
theorem cpS_sI {o p s : Nat} {h : MH} : sI h s o 0 (hI h s p 0) = cpS o p (s, 1) h := by
  show (_, h.2) = (_, h.2)
  refine congrArg (fun z => (z, h.2)) ?_
  funext a b
  show hI (sI h s o 0 (hI h s p 0)) a b = if a = s ∧ b = o then cpN 1 (hI h s p) (hI h s o) else hI h a b
  rw [hI_row]
  by_cases e : a = s ∧ b = o
  · rw [if_pos e, if_pos e]
    funext c
    unfold up cpN
    by_cases z : c = 0
    · rw [if_pos z, if_pos (by omega), z]
    · rw [if_neg z, if_neg (by omega)]
  · rw [if_neg e, if_neg e]
theorem cpS_cp {o p s N : Nat} {h : MH} {X : Type} {k : MH → Option X} (hs : isRow s 0 = true) (ls : lenOf s = N) (hN : N < 2 ^ 31) : cpyI h s p 0 s o 0 (nI N) k = k (cpS o p (s, N) h) := by
  rw [cpyI_ok hs hs ls ls (Nat.le_refl N) hN]
  refine congrArg k ?_
  show (_, h.2) = (_, h.2)
  refine congrArg (fun z => (z, h.2)) ?_
  funext a b
  show hI (cpI h s p 0 s o 0 N) a b = _
  rw [cpI_row]; rfl
theorem cpL_2 {o p : Nat} : ∀ {l : List (Nat × Nat)} {h : MH}, (cpL o p l h).2 = h.2
  | [], _ => rfl
  | q :: r, h => by
    show (cpL o p r (cpS o p q h)).2 = _
    rw [cpL_2]; rfl
theorem cpL_n {o p : Nat} : ∀ {l : List (Nat × Nat)} {h : MH} {a b : Nat}, (b ≠ o ∨ a ∉ l.map Prod.fst) → hI (cpL o p l h) a b = hI h a b
  | [], _, _, _, _ => rfl
  | q :: r, h, a, b, hb => by
    show hI (cpL o p r (cpS o p q h)) a b = _
    rw [cpL_n (hb.imp id (fun w z => w (by rw [List.map_cons]; exact List.mem_cons_of_mem _ z))), cpS_I]
    refine if_neg (fun z => ?_)
    rcases hb with w | w
    · exact w z.2
    · exact w (by rw [List.map_cons, z.1]; exact List.mem_cons_self)
theorem cpL_at {o p : Nat} (hop : p ≠ o) : ∀ {l : List (Nat × Nat)} {h : MH} {q : Nat × Nat}, (l.map Prod.fst).Nodup → q ∈ l → hI (cpL o p l h) q.1 o = cpN q.2 (hI h q.1 p) (hI h q.1 o)
  | [], _, _, _, hq => by cases hq
  | x :: r, h, q, nd, hq => by
    rw [List.map_cons, List.nodup_cons] at nd
    show hI (cpL o p r (cpS o p x h)) q.1 o = _
    rcases List.mem_cons.mp hq with e | e
    · subst e
      rw [cpL_n (Or.inr nd.1), cpS_I, if_pos ⟨rfl, rfl⟩]
    · have ne : q.1 ≠ x.1 := fun z => nd.1 (by rw [← z]; exact List.mem_map.mpr ⟨q, e, rfl⟩)
      rw [cpL_at hop nd.2 e, cpS_n hop, cpS_I, if_neg (fun z => ne z.1)]

/-! ALLOCATION: objects and rows made -/
/-- a row made and put into a final field -/
def alS (c : Nat) (q : Nat × Nat) (h : MH) : MH := setZ (newA h q.1 (lenOf q.1)) c q.2
def alR (c : Nat) : List (Nat × Nat) → MH → MH
  | [], h => h
  | q :: r, h => alR c r (alS c q h)
theorem alS_C {c : Nat} {q : Nat × Nat} {h : MH} (a : Nat) : hC (alS c q h) a = if a = q.1 then hC h a + 1 else hC h a := rfl
theorem alS_I {c : Nat} {q : Nat × Nat} {h : MH} (a b : Nat) : hI (alS c q h) a b = fun k => if a = q.1 ∧ b = hC h q.1 then 0 else hI h a b k := rfl
theorem alS_R {c : Nat} {q : Nat × Nat} {h : MH} (a b : Nat) : hR (alS c q h) a b = fun k => if a = q.1 ∧ b = hC h q.1 then none else hR h a b k := rfl
theorem newA_Cn {h : MH} {s N c : Nat} (hn : c ≠ s) : hC (newA h s N) c = hC h c := if_neg hn
theorem alR_C {c : Nat} : ∀ {l : List (Nat × Nat)} {h : MH} (a : Nat), hC (alR c l h) a = hC h a + (l.map Prod.fst).count a
  | [], _, _ => rfl
  | q :: r, h, a => by
    show hC (alR c r (alS c q h)) a = _
    rw [alR_C a, alS_C, List.map_cons, List.count_cons]
    by_cases e : a = q.1
    · rw [if_pos e, e]; simp; omega
    · rw [if_neg e]; simp [Ne.symm e]
theorem alR_D {c : Nat} : ∀ {l : List (Nat × Nat)} {h : MH}, hD (alR c l h) = hD h
  | [], _ => rfl
  | q :: r, h => by
    show hD (alR c r (alS c q h)) = _
    rw [alR_D]; rfl
theorem alR_n {c : Nat} : ∀ {l : List (Nat × Nat)} {h : MH}, hc (alR c l h) = hc h + l.length ∧ hs (alR c l h) = hs h + (l.map (fun q => lenOf q.1)).sum
  | [], _ => ⟨rfl, rfl⟩
  | q :: r, h => by
    obtain ⟨h1, h2⟩ := alR_n (c := c) (l := r) (h := alS c q h)
    show hc (alR c r (alS c q h)) = _ ∧ hs (alR c r (alS c q h)) = _
    rw [h1, h2]
    refine ⟨?_, ?_⟩
    · show hc h + 1 + r.length = hc h + (r.length + 1); omega
    · rw [List.map_cons, List.sum_cons]
      show hs h + lenOf q.1 + _ = _; omega
theorem alR_Z {c : Nat} {a k : Nat} : ∀ {l : List (Nat × Nat)} {h : MH}, hZ (alR c l h) a k = true ↔ hZ h a k = true ∨ (a = c ∧ k ∈ l.map Prod.snd)
  | [], _ => by simp [alR]
  | q :: r, h => by
    show hZ (alR c r (alS c q h)) a k = true ↔ _
    rw [alR_Z]
    have e : hZ (alS c q h) a k = if a = c ∧ k = q.2 then true else hZ h a k := rfl
    rw [e]
    by_cases z : a = c ∧ k = q.2
    · rw [if_pos z]; simp [z]
    · rw [if_neg z, List.map_cons, List.mem_cons]
      constructor
      · rintro (h1 | h1)
        · exact Or.inl h1
        · exact Or.inr ⟨h1.1, Or.inr h1.2⟩
      · rintro (h1 | ⟨h1, h2 | h2⟩)
        · exact Or.inl h1
        · exact absurd ⟨h1, h2⟩ z
        · exact Or.inr ⟨h1, h2⟩
/-- rows of other instances, and other rows, stand -/
theorem alR_I {c o : Nat} {a b : Nat} : ∀ {l : List (Nat × Nat)} {h : MH}, (l.map Prod.fst).Nodup → (∀ s, s ∈ l.map Prod.fst → hC h s = o) → (b ≠ o ∨ a ∉ l.map Prod.fst) → hI (alR c l h) a b = hI h a b ∧ hR (alR c l h) a b = hR h a b
  | [], _, _, _, _ => ⟨rfl, rfl⟩
  | q :: r, h, nd, hh, hb => by
    rw [List.map_cons, List.nodup_cons] at nd
    have nq : ¬ (a = q.1 ∧ b = hC h q.1) := fun z => by
      rcases hb with w | w
      · exact w (by rw [z.2]; exact hh q.1 (by rw [List.map_cons]; exact List.mem_cons_self))
      · exact w (by rw [z.1, List.map_cons]; exact List.mem_cons_self)
    obtain ⟨h1, h2⟩ := alR_I (c := c) (o := o) (a := a) (b := b) (l := r) (h := alS c q h) nd.2 (fun s hs => by
      rw [alS_C, if_neg (fun z => nd.1 (by rw [← z]; exact hs))]
      exact hh s (by rw [List.map_cons]; exact List.mem_cons_of_mem _ hs)) (hb.imp id (fun w z => w (by rw [List.map_cons]; exact List.mem_cons_of_mem _ z)))
    refine ⟨?_, ?_⟩
    · show hI (alR c r (alS c q h)) a b = _
      rw [h1, alS_I]; funext k; exact if_neg nq
    · show hR (alR c r (alS c q h)) a b = _
      rw [h2, alS_R]; funext k; exact if_neg nq
/-- new rows are noughts -/
theorem alR_0 {c o : Nat} {a : Nat} : ∀ {l : List (Nat × Nat)} {h : MH}, (l.map Prod.fst).Nodup → (∀ s, s ∈ l.map Prod.fst → hC h s = o) → a ∈ l.map Prod.fst → hI (alR c l h) a o = fun _ => 0
  | [], _, _, _, hb => by cases hb
  | q :: r, h, nd, hh, hb => by
    rw [List.map_cons, List.nodup_cons] at nd
    show hI (alR c r (alS c q h)) a o = _
    rw [List.map_cons] at hb
    have hq : hC h q.1 = o := hh q.1 (by rw [List.map_cons]; exact List.mem_cons_self)
    have hr : ∀ s, s ∈ r.map Prod.fst → hC (alS c q h) s = o := fun s hs => by
      rw [alS_C, if_neg (fun z => nd.1 (by rw [← z]; exact hs))]
      exact hh s (by rw [List.map_cons]; exact List.mem_cons_of_mem _ hs)
    rcases List.mem_cons.mp hb with z | z
    · rw [(alR_I nd.2 hr (Or.inr (by rw [z]; exact nd.1))).1, alS_I]
      funext k
      exact if_pos ⟨z, hq.symm⟩
    · exact alR_0 nd.2 hr z
/-- a step of a tree that makes a row -/
theorem al_if {X : Type} {N : Int32} {s c o : Nat} {h : MH} {k : Option X} (hN : N = Int32.ofNat (lenOf s)) (hcs : c ≠ s) (h1 : hC h c = o + 1) (h2 : hC h s = o) : (if N = Int32.ofNat (lenOf s) then if o + 1 = hC (newA h s (lenOf s)) c then (if hC h s = o then k else none) else none else none) = k := by
  rw [if_pos hN, if_pos (by rw [newA_Cn hcs]; exact h1.symm), if_pos h2]

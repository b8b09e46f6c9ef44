/-! ALLOCATION: objects that hold rows, one after another -/
/-- of what g has more than h: objects (class, scalars' keys) and rows of instance o, flags, cells and slots -/
def Obs (Xs : List (Nat × Nat)) (ls : List Nat) (zs : List (Nat × Nat)) (o nc ns : Nat) (h g : MH) : Prop := (∀ a, hC g a = hC h a + (Xs.map Prod.fst ++ ls).count a) ∧ (∀ a, hD g a = if a ∈ Xs.map Prod.fst then o + 1 else hD h a) ∧ (∀ a b, (b ≠ o ∨ (a ∉ ls ∧ ∀ w, w ∈ Xs.map Prod.snd → ¬ (w ≤ a ∧ a < w + 100))) → hI g a b = hI h a b) ∧ (∀ a b, (b ≠ o ∨ a ∉ ls) → hR g a b = hR h a b) ∧ (∀ a k, a ∉ Xs.map Prod.fst → (hZ g a k = true ↔ hZ h a k = true ∨ (a, k) ∈ zs)) ∧ hc g = hc h + nc ∧ hs g = hs h + ns
theorem Obs.tr {X1 X2 : List (Nat × Nat)} {l1 l2 : List Nat} {z1 z2 : List (Nat × Nat)} {o n1 s1 n2 s2 : Nat} {a b c : MH} (x : Obs X1 l1 z1 o n1 s1 a b) (y : Obs X2 l2 z2 o n2 s2 b c) : Obs (X1 ++ X2) (l1 ++ l2) (z1 ++ z2) o (n1 + n2) (s1 + s2) a c := by
  obtain ⟨x1, x2, x3, x4, x5, x6, x7⟩ := x
  obtain ⟨y1, y2, y3, y4, y5, y6, y7⟩ := y
  refine ⟨fun k => ?_, fun k => ?_, fun k i hk => ?_, fun k i hk => ?_, fun k i hk => ?_, by omega, by omega⟩
  · rw [y1, x1]; simp only [List.map_append, List.count_append]; omega
  · rw [y2, x2, List.map_append]
    by_cases e1 : k ∈ X2.map Prod.fst
    · rw [if_pos e1, if_pos (List.mem_append_right _ e1)]
    · rw [if_neg e1]
      by_cases e2 : k ∈ X1.map Prod.fst
      · rw [if_pos e2, if_pos (List.mem_append_left _ e2)]
      · rw [if_neg e2, if_neg (fun z => (List.mem_append.mp z).elim e2 e1)]
  · rw [y3 k i (hk.imp id (fun w => ⟨fun z => w.1 (List.mem_append_right _ z), fun v hv => w.2 v (by rw [List.map_append]; exact List.mem_append_right _ hv)⟩)), x3 k i (hk.imp id (fun w => ⟨fun z => w.1 (List.mem_append_left _ z), fun v hv => w.2 v (by rw [List.map_append]; exact List.mem_append_left _ hv)⟩))]
  · rw [y4 k i (hk.imp id (fun w z => w (List.mem_append_right _ z))), x4 k i (hk.imp id (fun w z => w (List.mem_append_left _ z)))]
  · rw [List.map_append] at hk
    rw [y5 k i (fun z => hk (List.mem_append_right _ z)), x5 k i (fun z => hk (List.mem_append_left _ z)), List.mem_append, or_assoc]
theorem Obs.flag {o P k : Nat} {h : MH} : Obs [] [] [(P, k)] o 0 0 h (setZ h P k) := by
  refine ⟨fun a => rfl, fun a => rfl, fun a b _ => rfl, fun a b _ => rfl, fun a q _ => ?_, rfl, rfl⟩
  show (if a = P ∧ q = k then true else hZ h a q) = true ↔ _
  rw [List.mem_singleton]
  by_cases z : a = P ∧ q = k
  · rw [if_pos z, z.1, z.2]; simp
  · rw [if_neg z]
    constructor
    · exact Or.inl
    · rintro (h | h)
      · exact h
      · injection h with h1 h2; exact absurd ⟨h1, h2⟩ z
theorem Obs.scal {Xs : List (Nat × Nat)} {ls : List Nat} {zs : List (Nat × Nat)} {o nc ns s i : Nat} {v : Int32} {h g : MH} (x : Obs Xs ls zs o nc ns h g) (hs : s ∈ ls ∨ ∃ w, w ∈ Xs.map Prod.snd ∧ w ≤ s ∧ s < w + 100) : Obs Xs ls zs o nc ns h (sI g s o i v) := by
  obtain ⟨x1, x2, x3, x4, x5, x6, x7⟩ := x
  refine ⟨x1, x2, fun a b hb => ?_, x4, x5, x6, x7⟩
  rw [← x3 a b hb]
  funext c
  show (if a = s ∧ b = o ∧ c = i then v else hI g a b c) = _
  refine if_neg (fun z => ?_)
  rcases hb with w | ⟨w1, w2⟩
  · exact w z.2.1
  · rcases hs with y | ⟨y, y1, y2⟩
    · exact w1 (by rw [z.1]; exact y)
    · exact w2 y y1 (by rw [z.1]; exact y2)
theorem obs_al {X w N o : Nat} {l : List (Nat × Nat)} {h : MH} (hX : hC h X = o) (hl : ∀ s, s ∈ l.map Prod.fst → hC h s = o) (nd : (l.map Prod.fst).Nodup) (hn : X ∉ l.map Prod.fst) : Obs [(X, w)] (l.map Prod.fst) [] o (1 + l.length) (N + (l.map (fun q => lenOf q.1)).sum) h (whole (alR X l (newO h X w N)) X o) := by
  have hl2 : ∀ s, s ∈ l.map Prod.fst → hC (newO h X w N) s = o := fun s hs => by
    show (if s = X then hC h s + 1 else hC h s) = o
    rw [if_neg (fun z => hn (by rw [← z]; exact hs))]; exact hl s hs
  refine ⟨fun a => ?_, fun a => ?_, fun a b hb => ?_, fun a b hb => ?_, fun a k hk => ?_, ?_, ?_⟩
  · show hC (alR X l (newO h X w N)) a = _
    rw [alR_C]
    show (if a = X then hC h a + 1 else hC h a) + _ = hC h a + (X :: l.map Prod.fst).count a
    rw [List.count_cons]
    by_cases e : a = X
    · rw [if_pos e, e]; simp; omega
    · rw [if_neg e]; simp [Ne.symm e]
  · show (if a = X then o + 1 else hD (alR X l (newO h X w N)) a) = if a ∈ [X] then o + 1 else hD h a
    rw [alR_D]
    by_cases e : a = X
    · rw [if_pos e, if_pos (by rw [e]; exact List.mem_singleton.mpr rfl)]
    · rw [if_neg e, if_neg (fun z => e (List.mem_singleton.mp z))]; rfl
  · show hI (alR X l (newO h X w N)) a b = _
    rw [(alR_I (c := X) nd hl2 (hb.imp id (fun z => z.1))).1]
    funext c
    show (if w ≤ a ∧ a < w + 100 ∧ b = hC h X then (0 : Int32) else hI h a b c) = hI h a b c
    refine if_neg (fun z => ?_)
    rcases hb with y | ⟨-, y⟩
    · exact y (by rw [z.2.2, hX])
    · exact y w (List.mem_singleton.mpr rfl) ⟨z.1, z.2.1⟩
  · show hR (alR X l (newO h X w N)) a b = _
    rw [(alR_I (c := X) nd hl2 hb).2]; rfl
  · have hk : a ≠ X := fun z => hk (by rw [z]; exact List.mem_singleton.mpr rfl)
    show hZ (alR X l (newO h X w N)) a k = true ↔ _
    rw [alR_Z]
    have e : hZ (newO h X w N) a k = hZ h a k := if_neg hk
    rw [e]
    constructor
    · rintro (h1 | h1)
      · exact Or.inl h1
      · exact absurd h1.1 hk
    · rintro (h1 | h1)
      · exact Or.inl h1
      · cases h1
  · show hc (alR X l (newO h X w N)) = _
    rw [alR_n.1]
    show hc h + 1 + l.length = _; omega
  · show hs (alR X l (newO h X w N)) = _
    rw [alR_n.2]
    show hs h + N + _ = _; omega
/-- a step of a tree that makes an object by its constructor, of parent P -/
theorem ob_if {Y : Type} {X w N mask P k j o : Nat} {cal : Cal} {h h1 : MH} {as : List MV} {K : MH → Option Y} (hX : hC h X = o) (hD1 : hD h X = o) (e : cal j (vU X o :: as) (newO h X w N) = some (none, h1)) (c1 : hC h1 X = o + 1) (d1 : hD h1 X = o) (z1 : ∀ q ∈ List.range 100, Nat.testBit mask q = true → hZ h1 X q = true) (p1 : hC h1 P = o + 1) : (if hD h X = hC h X then clV (cal j (vU X (hC h X) :: as) (newO h X w N)) (fun h1 => if hC h X = hC h X ∧ (hC h X) + 1 = hC h1 X ∧ (hC h X) = hD h1 X ∧ (∀ q ∈ List.range 100, Nat.testBit mask q = true → hZ h1 X q = true) then if o + 1 = hC (whole h1 X (hC h X)) P then (if hC h X = o then K (setZ (whole h1 X (hC h X)) P k) else none) else none else none) else none) = K (setZ (whole h1 X o) P k) := by
  rw [hX, hD1, if_pos rfl, e]
  show (if o = o ∧ o + 1 = hC h1 X ∧ o = hD h1 X ∧ (∀ q ∈ List.range 100, Nat.testBit mask q = true → hZ h1 X q = true) then if o + 1 = hC (whole h1 X o) P then (if o = o then K (setZ (whole h1 X o) P k) else none) else none else none) = _
  rw [if_pos ⟨rfl, c1.symm, d1.symm, z1⟩, if_pos (show o + 1 = hC (whole h1 X o) P from p1.symm), if_pos rfl]

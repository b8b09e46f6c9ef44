/-! THE START: heaps out of nothing, exactly -/
abbrev VL : Type := List (Nat × (Nat → Int32))
def vl : VL → Nat → Nat → Int32
  | [], _ => fun _ => 0
  | (s, f) :: r, a => if a = s then f else vl r a
theorem vl_n {a : Nat} : ∀ {V : VL}, a ∉ V.map Prod.fst → vl V a = fun _ => 0
  | [], _ => rfl
  | (s, f) :: r, h => by
    rw [List.map_cons, List.mem_cons, not_or] at h
    show (if a = s then f else vl r a) = _
    rw [if_neg h.1]; exact vl_n h.2
/-- cells made L, whole D; rows of ints V at instance 0; cells and slots in all -/
def SS (Ls D : List Nat) (V : VL) (nc ns : Nat) (h : MH) : Prop := (∀ a, hC h a = Ls.count a) ∧ (∀ a, hD h a = D.count a) ∧ (∀ a b, hI h a b = if b = 0 then vl V a else fun _ => 0) ∧ (∀ a b i, hR h a b i = none) ∧ hc h = nc ∧ hs h = ns
def mh0 : MH := (fun _ _ _ => 0, fun _ _ _ => 0, fun _ _ _ => none, fun _ => 0, fun _ => 0, fun _ _ => false, 0, 0)
theorem SS.zero : SS [] [] [] 0 0 mh0 := by
  refine ⟨fun _ => rfl, fun _ => rfl, fun a b => ?_, fun _ _ _ => rfl, rfl, rfl⟩
  show (fun _ => (0 : Int32)) = _
  split <;> rfl
section SSs
variable {Ls D : List Nat} {V : VL} {nc ns : Nat} {h : MH}
theorem SS.newA {s N : Nat} (q : SS Ls D V nc ns h) (hv : s ∉ V.map Prod.fst) : SS (s :: Ls) D V (nc + 1) (ns + N) (newA h s N) := by
  obtain ⟨q1, q2, q3, q4, q5, q6⟩ := q
  refine ⟨fun a => ?_, q2, fun a b => ?_, fun a b i => ?_, ?_, ?_⟩
  · show (if a = s then hC h a + 1 else hC h a) = _
    rw [q1, List.count_cons]
    by_cases e : a = s
    · rw [if_pos e, e]; simp
    · rw [if_neg e]; simp [Ne.symm e]
  · funext c
    show (if a = s ∧ b = hC h s then (0 : Int32) else hI h a b c) = _
    by_cases e : a = s ∧ b = hC h s
    · rw [if_pos e]
      by_cases b0 : b = 0
      · rw [if_pos b0, e.1, vl_n hv]
      · rw [if_neg b0]
    · rw [if_neg e, q3]
  · show (if a = s ∧ b = hC h s then none else hR h a b i) = none
    split
    · rfl
    · exact q4 a b i
  · show hc h + 1 = _; omega
  · show hs h + N = _; omega
theorem SS.newO {X w N : Nat} (q : SS Ls D V nc ns h) (hv : ∀ a, a ∈ V.map Prod.fst → ¬ (w ≤ a ∧ a < w + 100)) : SS (X :: Ls) D V (nc + 1) (ns + N) (newO h X w N) := by
  obtain ⟨q1, q2, q3, q4, q5, q6⟩ := q
  refine ⟨fun a => ?_, q2, fun a b => ?_, q4, ?_, ?_⟩
  · rw [newO_C, q1, List.count_cons]
    by_cases e : a = X
    · rw [if_pos e, e]; simp
    · rw [if_neg e]; simp [Ne.symm e]
  · funext c
    show (if w ≤ a ∧ a < w + 100 ∧ b = hC h X then (0 : Int32) else hI h a b c) = _
    by_cases e : w ≤ a ∧ a < w + 100 ∧ b = hC h X
    · rw [if_pos e]
      by_cases b0 : b = 0
      · rw [if_pos b0, vl_n (fun z => hv a z ⟨e.1, e.2.1⟩)]
      · rw [if_neg b0]
    · rw [if_neg e, q3]
  · show hc h + 1 = _; omega
  · show hs h + N = _; omega
theorem SS.setZ {c k : Nat} (q : SS Ls D V nc ns h) : SS Ls D V nc ns (setZ h c k) := q
theorem SS.whole {s n : Nat} (q : SS Ls D V nc ns h) (hn : D.count s = n) : SS Ls (s :: D) V nc ns (whole h s n) := by
  obtain ⟨q1, q2, q3, q4, q5, q6⟩ := q
  refine ⟨q1, fun a => ?_, q3, q4, q5, q6⟩
  show (if a = s then n + 1 else hD h a) = _
  rw [q2, List.count_cons]
  by_cases e : a = s
  · rw [if_pos e, e, hn]; simp
  · rw [if_neg e]; simp [Ne.symm e]
theorem SS.sI {s i : Nat} {v : Int32} (q : SS Ls D V nc ns h) : SS Ls D ((s, up (vl V s) i v) :: V) nc ns (sI h s 0 i v) := by
  obtain ⟨q1, q2, q3, q4, q5, q6⟩ := q
  refine ⟨q1, q2, fun a b => ?_, q4, q5, q6⟩
  rw [hI_row]
  by_cases b0 : b = 0
  · rw [if_pos b0]
    by_cases e : a = s
    · rw [if_pos ⟨e, b0⟩, q3, if_pos rfl]
      show _ = if a = s then _ else _
      rw [if_pos e]
    · rw [if_neg (fun z => e z.1), q3, if_pos b0]
      show _ = if a = s then _ else _
      rw [if_neg e]
  · rw [if_neg b0, if_neg (fun z => b0 z.2), q3, if_neg b0]
theorem SS.row {s : Nat} {f : Nat → Int32} (q : SS Ls D V nc ns h) : SS Ls D ((s, f) :: V) nc ns (withR h [(s, 0, f)]) := by
  obtain ⟨q1, q2, q3, q4, q5, q6⟩ := q
  refine ⟨q1, q2, fun a b => ?_, q4, q5, q6⟩
  by_cases b0 : b = 0
  · rw [if_pos b0]
    by_cases e : a = s
    · rw [e, b0, withR_hit]
      show _ = if s = s then f else _
      rw [if_pos rfl]
    · rw [withR_miss (fun z => e z.1)]
      show hI h a b = if a = s then _ else _
      rw [if_neg e, q3, if_pos b0]
  · rw [if_neg b0, withR_miss (fun z => b0 z.2)]
    show hI h a b = _
    rw [q3, if_neg b0]
theorem SS.cg {L2 : List Nat} {n2 m2 : Nat} (q : SS Ls D V nc ns h) (e : ∀ a, L2.count a = Ls.count a) (en : n2 = nc) (em : m2 = ns) : SS L2 D V n2 m2 h := by
  obtain ⟨q1, q2, q3, q4, q5, q6⟩ := q
  exact ⟨fun a => by rw [q1, e], q2, q3, q4, by rw [en]; exact q5, by rw [em]; exact q6⟩
end SSs
theorem SS.alR {c : Nat} {D : List Nat} {V : VL} : ∀ {l : List (Nat × Nat)} {Ls : List Nat} {nc ns : Nat} {h : MH}, SS Ls D V nc ns h → (∀ s, s ∈ l.map Prod.fst → s ∉ V.map Prod.fst) → SS ((l.map Prod.fst) ++ Ls) D V (nc + l.length) (ns + (l.map (fun q => lenOf q.1)).sum) (alR c l h)
  | [], _, _, _, _, q, _ => q
  | p :: r, Ls, nc, ns, h, q, hv => by
    have q1 : SS (p.1 :: Ls) D V (nc + 1) (ns + lenOf p.1) (alS c p h) := (q.newA (N := lenOf p.1) (hv p.1 (by rw [List.map_cons]; exact List.mem_cons_self))).setZ
    have q2 := SS.alR (c := c) (l := r) q1 (fun s hs => hv s (by rw [List.map_cons]; exact List.mem_cons_of_mem _ hs))
    refine q2.cg (fun a => ?_) ?_ ?_
    · rw [List.map_cons, List.cons_append, List.count_cons, List.count_append, List.count_append, List.count_cons]; omega
    · rw [List.length_cons]; omega
    · rw [List.map_cons, List.sum_cons]; omega
/-- flags of final fields set -/
def Zf (c : Nat) (K : List Nat) (h : MH) : Prop := ∀ k, k ∈ K → hZ h c k = true
theorem Zf.nil (c : Nat) (h : MH) : Zf c [] h := fun _ z => nomatch z
theorem Zf.newA {c s N : Nat} {K : List Nat} {h : MH} (z : Zf c K h) : Zf c K (newA h s N) := z
theorem Zf.whole {c s n : Nat} {K : List Nat} {h : MH} (z : Zf c K h) : Zf c K (whole h s n) := z
theorem Zf.sI {c s n i : Nat} {v : Int32} {K : List Nat} {h : MH} (z : Zf c K h) : Zf c K (sI h s n i v) := z
theorem Zf.row {c : Nat} {l : RW} {K : List Nat} {h : MH} (z : Zf c K h) : Zf c K (withR h l) := z
theorem Zf.newO {c X w N : Nat} {K : List Nat} {h : MH} (hc : c ≠ X) (z : Zf c K h) : Zf c K (newO h X w N) := fun k hk => by
  show (if c = X then false else hZ h c k) = true
  rw [if_neg hc]; exact z k hk
theorem Zf.set {c p k : Nat} {K : List Nat} {h : MH} (z : Zf c K h) : Zf c K (setZ h p k) := fun q hq => by
  show (if c = p ∧ q = k then true else hZ h c q) = true
  split
  · rfl
  · exact z q hq
theorem Zf.add {c k : Nat} {K : List Nat} {h : MH} (z : Zf c K h) : Zf c (k :: K) (setZ h c k) := fun q hq => by
  show (if c = c ∧ q = k then true else hZ h c q) = true
  rcases List.mem_cons.mp hq with e | e
  · rw [if_pos ⟨rfl, e⟩]
  · split
    · rfl
    · exact z q e
theorem Zf.alR {c p : Nat} {l : List (Nat × Nat)} {K : List Nat} {h : MH} (z : Zf c K h) : Zf c K (alR p l h) := fun q hq => alR_Z.mpr (Or.inl (z q hq))
theorem Zf.mask {c m : Nat} {K : List Nat} {h : MH} (z : Zf c K h) (hm : ∀ q, q ∈ List.range 100 → Nat.testBit m q = true → q ∈ K) : ∀ q ∈ List.range 100, Nat.testBit m q = true → hZ h c q = true := fun q hq hb => z q (hm q hq hb)
/-- the first k places of a row written -/
def wrN (h : MH) (s : Nat) (v : Int32) : Nat → MH
  | 0 => h
  | k + 1 => sI (wrN h s v k) s 0 k v
theorem wrN_row (h : MH) (s : Nat) (v : Int32) : ∀ k, wrN h s v k = withR h [(s, 0, filF (hI h s 0) v k)]
  | 0 => by
    rw [filF_0]
    exact (withR_id (fun q hq => by rw [List.mem_singleton] at hq; subst hq; rfl)).symm
  | k + 1 => by
    show sI (wrN h s v k) s 0 k v = _
    rw [wrN_row h s v k, withR_set, filF_s]

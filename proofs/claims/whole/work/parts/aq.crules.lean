/-! RULES, on the class's side: what is read of a law -/
theorem upN_F (f : Nat → Nat) (i x : Nat) : (fun j => nI (upN f i x j)) = up (fun j => nI (f j)) i (nI x) := by
  funext j
  show nI (if j = i then x else f j) = if j = i then nI x else nI (f j)
  split <;> rfl
theorem LawEq.same {h h2 : MH} {m : Nat} {f : Nat → Int32} (e : ∀ s, s ∈ lawS → hI h2 s m = hI h s m) (q : LawEq h m f) : LawEq h2 m f := by
  unfold LawEq
  rw [e 601000004 (by decide), e 602000004 (by decide), e 603000004 (by decide), e 604000040 (by decide), e 605 (by decide), e 606 (by decide), e 607 (by decide), e 608 (by decide), e 609 (by decide)]
  exact q
section LSet
variable {h : MH} {m : Nat} {F : Nat → Int32} {k : Nat} {v : Int32}
theorem LawEq.p1 (hk : k < 4) (q : LawEq h m F) : LawEq (sI h 601000004 m k v) m (up F k v) := by
  obtain ⟨q1, ⟨q2, q3, q4, q5, q6⟩, q7⟩ := q
  have e : ∀ s, s ≠ 601000004 → hI (sI h 601000004 m k v) s m = hI h s m := fun s hs => hI_rn (fun z => hs z.1)
  unfold LawEq
  rw [hI_rs, e 602000004 (by decide), e 603000004 (by decide), e 604000040 (by decide), e 605 (by decide), e 606 (by decide), e 607 (by decide), e 608 (by decide), e 609 (by decide)]
  refine ⟨fun j hj => ?_, ⟨by rw [up_n (by omega), q2], by rw [up_n (by omega), q3], by rw [up_n (by omega), q4], by rw [up_n (by omega), q5], by rw [up_n (by omega), q6]⟩, fun i hi => by rw [up_n (by omega), q7 i hi]⟩
  obtain ⟨a, b, c⟩ := q1 j hj
  refine ⟨?_, by rw [up_n (by omega), b], by rw [up_n (by omega), c]⟩
  unfold up
  split
  · rfl
  · exact a
theorem LawEq.p2 (hk : k < 4) (q : LawEq h m F) : LawEq (sI h 602000004 m k v) m (up F (4 + k) v) := by
  obtain ⟨q1, ⟨q2, q3, q4, q5, q6⟩, q7⟩ := q
  have e : ∀ s, s ≠ 602000004 → hI (sI h 602000004 m k v) s m = hI h s m := fun s hs => hI_rn (fun z => hs z.1)
  unfold LawEq
  rw [hI_rs, e 601000004 (by decide), e 603000004 (by decide), e 604000040 (by decide), e 605 (by decide), e 606 (by decide), e 607 (by decide), e 608 (by decide), e 609 (by decide)]
  refine ⟨fun j hj => ?_, ⟨by rw [up_n (by omega), q2], by rw [up_n (by omega), q3], by rw [up_n (by omega), q4], by rw [up_n (by omega), q5], by rw [up_n (by omega), q6]⟩, fun i hi => by rw [up_n (by omega), q7 i hi]⟩
  obtain ⟨a, b, c⟩ := q1 j hj
  refine ⟨by rw [up_n (by omega), a], ?_, by rw [up_n (by omega), c]⟩
  by_cases z : j = k
  · rw [z, up_s, up_s]
  · rw [up_n z, up_n (by omega), b]
theorem LawEq.p3 (hk : k < 4) (q : LawEq h m F) : LawEq (sI h 603000004 m k v) m (up F (8 + k) v) := by
  obtain ⟨q1, ⟨q2, q3, q4, q5, q6⟩, q7⟩ := q
  have e : ∀ s, s ≠ 603000004 → hI (sI h 603000004 m k v) s m = hI h s m := fun s hs => hI_rn (fun z => hs z.1)
  unfold LawEq
  rw [hI_rs, e 601000004 (by decide), e 602000004 (by decide), e 604000040 (by decide), e 605 (by decide), e 606 (by decide), e 607 (by decide), e 608 (by decide), e 609 (by decide)]
  refine ⟨fun j hj => ?_, ⟨by rw [up_n (by omega), q2], by rw [up_n (by omega), q3], by rw [up_n (by omega), q4], by rw [up_n (by omega), q5], by rw [up_n (by omega), q6]⟩, fun i hi => by rw [up_n (by omega), q7 i hi]⟩
  obtain ⟨a, b, c⟩ := q1 j hj
  refine ⟨by rw [up_n (by omega), a], by rw [up_n (by omega), b], ?_⟩
  by_cases z : j = k
  · rw [z, up_s, up_s]
  · rw [up_n z, up_n (by omega), c]
theorem LawEq.p4 (hk : k < 40) (q : LawEq h m F) : LawEq (sI h 604000040 m k v) m (up F (20 + k) v) := by
  obtain ⟨q1, ⟨q2, q3, q4, q5, q6⟩, q7⟩ := q
  have e : ∀ s, s ≠ 604000040 → hI (sI h 604000040 m k v) s m = hI h s m := fun s hs => hI_rn (fun z => hs z.1)
  unfold LawEq
  rw [hI_rs, e 601000004 (by decide), e 602000004 (by decide), e 603000004 (by decide), e 605 (by decide), e 606 (by decide), e 607 (by decide), e 608 (by decide), e 609 (by decide)]
  refine ⟨fun j hj => ?_, ⟨by rw [up_n (by omega), q2], by rw [up_n (by omega), q3], by rw [up_n (by omega), q4], by rw [up_n (by omega), q5], by rw [up_n (by omega), q6]⟩, fun i hi => ?_⟩
  · obtain ⟨a, b, c⟩ := q1 j hj
    exact ⟨by rw [up_n (by omega), a], by rw [up_n (by omega), b], by rw [up_n (by omega), c]⟩
  · by_cases z : i = k
    · rw [z, up_s, up_s]
    · rw [up_n z, up_n (by omega), q7 i hi]
theorem LawEq.s12 (q : LawEq h m F) : LawEq (sI h 605 m 0 v) m (up F 12 v) := by
  obtain ⟨q1, ⟨q2, q3, q4, q5, q6⟩, q7⟩ := q
  have e : ∀ s, s ≠ 605 → hI (sI h 605 m 0 v) s m = hI h s m := fun s hs => hI_rn (fun z => hs z.1)
  unfold LawEq
  rw [hI_rs, e 601000004 (by decide), e 602000004 (by decide), e 603000004 (by decide), e 604000040 (by decide), e 606 (by decide), e 607 (by decide), e 608 (by decide), e 609 (by decide)]
  refine ⟨fun j hj => ?_, ⟨by rw [up_s, up_s], by rw [up_n (by omega), q3], by rw [up_n (by omega), q4], by rw [up_n (by omega), q5], by rw [up_n (by omega), q6]⟩, fun i hi => by rw [up_n (by omega), q7 i hi]⟩
  obtain ⟨a, b, c⟩ := q1 j hj
  exact ⟨by rw [up_n (by omega), a], by rw [up_n (by omega), b], by rw [up_n (by omega), c]⟩
theorem LawEq.s13 (q : LawEq h m F) : LawEq (sI h 606 m 0 v) m (up F 13 v) := by
  obtain ⟨q1, ⟨q2, q3, q4, q5, q6⟩, q7⟩ := q
  have e : ∀ s, s ≠ 606 → hI (sI h 606 m 0 v) s m = hI h s m := fun s hs => hI_rn (fun z => hs z.1)
  unfold LawEq
  rw [hI_rs, e 601000004 (by decide), e 602000004 (by decide), e 603000004 (by decide), e 604000040 (by decide), e 605 (by decide), e 607 (by decide), e 608 (by decide), e 609 (by decide)]
  refine ⟨fun j hj => ?_, ⟨by rw [up_n (by omega), q2], by rw [up_s, up_s], by rw [up_n (by omega), q4], by rw [up_n (by omega), q5], by rw [up_n (by omega), q6]⟩, fun i hi => by rw [up_n (by omega), q7 i hi]⟩
  obtain ⟨a, b, c⟩ := q1 j hj
  exact ⟨by rw [up_n (by omega), a], by rw [up_n (by omega), b], by rw [up_n (by omega), c]⟩
theorem LawEq.s14 (q : LawEq h m F) : LawEq (sI h 607 m 0 v) m (up F 14 v) := by
  obtain ⟨q1, ⟨q2, q3, q4, q5, q6⟩, q7⟩ := q
  have e : ∀ s, s ≠ 607 → hI (sI h 607 m 0 v) s m = hI h s m := fun s hs => hI_rn (fun z => hs z.1)
  unfold LawEq
  rw [hI_rs, e 601000004 (by decide), e 602000004 (by decide), e 603000004 (by decide), e 604000040 (by decide), e 605 (by decide), e 606 (by decide), e 608 (by decide), e 609 (by decide)]
  refine ⟨fun j hj => ?_, ⟨by rw [up_n (by omega), q2], by rw [up_n (by omega), q3], by rw [up_s, up_s], by rw [up_n (by omega), q5], by rw [up_n (by omega), q6]⟩, fun i hi => by rw [up_n (by omega), q7 i hi]⟩
  obtain ⟨a, b, c⟩ := q1 j hj
  exact ⟨by rw [up_n (by omega), a], by rw [up_n (by omega), b], by rw [up_n (by omega), c]⟩
theorem LawEq.s15 (q : LawEq h m F) : LawEq (sI h 608 m 0 v) m (up F 15 v) := by
  obtain ⟨q1, ⟨q2, q3, q4, q5, q6⟩, q7⟩ := q
  have e : ∀ s, s ≠ 608 → hI (sI h 608 m 0 v) s m = hI h s m := fun s hs => hI_rn (fun z => hs z.1)
  unfold LawEq
  rw [hI_rs, e 601000004 (by decide), e 602000004 (by decide), e 603000004 (by decide), e 604000040 (by decide), e 605 (by decide), e 606 (by decide), e 607 (by decide), e 609 (by decide)]
  refine ⟨fun j hj => ?_, ⟨by rw [up_n (by omega), q2], by rw [up_n (by omega), q3], by rw [up_n (by omega), q4], by rw [up_s, up_s], by rw [up_n (by omega), q6]⟩, fun i hi => by rw [up_n (by omega), q7 i hi]⟩
  obtain ⟨a, b, c⟩ := q1 j hj
  exact ⟨by rw [up_n (by omega), a], by rw [up_n (by omega), b], by rw [up_n (by omega), c]⟩
theorem LawEq.s16 (q : LawEq h m F) : LawEq (sI h 609 m 0 v) m (up F 16 v) := by
  obtain ⟨q1, ⟨q2, q3, q4, q5, q6⟩, q7⟩ := q
  have e : ∀ s, s ≠ 609 → hI (sI h 609 m 0 v) s m = hI h s m := fun s hs => hI_rn (fun z => hs z.1)
  unfold LawEq
  rw [hI_rs, e 601000004 (by decide), e 602000004 (by decide), e 603000004 (by decide), e 604000040 (by decide), e 605 (by decide), e 606 (by decide), e 607 (by decide), e 608 (by decide)]
  refine ⟨fun j hj => ?_, ⟨by rw [up_n (by omega), q2], by rw [up_n (by omega), q3], by rw [up_n (by omega), q4], by rw [up_n (by omega), q5], by rw [up_s, up_s]⟩, fun i hi => by rw [up_n (by omega), q7 i hi]⟩
  obtain ⟨a, b, c⟩ := q1 j hj
  exact ⟨by rw [up_n (by omega), a], by rw [up_n (by omega), b], by rw [up_n (by omega), c]⟩
end LSet
/-- a rule, as the class holds it -/
def RuC (h : MH) (m b i : Nat) (x : (Nat × Nat × Nat × Nat) × Phi) : Prop := x.1.1 ≤ 2 ∧ x.1.2.1 ≤ 100 ∧ hI h 611000040 m i = nI x.1.1 ∧ hI h 612000040 m i = nI x.1.2.1 ∧ (x.1.1 = 0 → hI h 613000040 m i = nI x.1.2.2.1 ∧ hI h 614000040 m i = nI x.1.2.2.2) ∧ (x.1.1 ≠ 0 → ∃ a e, hI h 613000040 m i = nI a ∧ hI h 614000040 m i = nI e ∧ e ≤ b ∧ ((x.1.2.2.1 = 1 ∧ a = e ∧ ∀ v, x.2 v = true) ∨ (x.1.2.2.1 = 0 ∧ ∀ v, SegL (fun j => dcC v (hI h 616000300 m j)) 19 a e (x.2 v))))
/-- a law, as the class holds it, with b codes -/
def LwC (h : MH) (m b : Nat) (S : LSt) : Prop := LawEq h m (fun j => nI (S.1 j)) ∧ S.2.1 ≤ 40 ∧ hI h 610 m 0 = nI S.2.1 ∧ CdN h m b ∧ ∀ i, i < S.2.1 → RuC h m b i (S.2.2 i)
abbrev ruS : List Nat := [611000040, 612000040, 613000040, 614000040, 616000300]
theorem RuC.cg {h h2 : MH} {m b b2 i : Nat} {x : (Nat × Nat × Nat × Nat) × Phi} (hb : b ≤ b2) (e1 : ∀ s, s ∈ [611000040, 612000040, 613000040, 614000040] → hI h2 s m i = hI h s m i) (e2 : ∀ j, j < b → hI h2 616000300 m j = hI h 616000300 m j) (q : RuC h m b i x) : RuC h2 m b2 i x := by
  obtain ⟨q1, q2, q3, q4, q5, q6⟩ := q
  unfold RuC
  rw [e1 611000040 (by decide), e1 612000040 (by decide), e1 613000040 (by decide), e1 614000040 (by decide)]
  refine ⟨q1, q2, q3, q4, q5, fun z => ?_⟩
  obtain ⟨a, e, y1, y2, y3, y4⟩ := q6 z
  exact ⟨a, e, y1, y2, by omega, y4.imp id (fun w => ⟨w.1, fun v => SegL.cong (w.2 v) (fun j _ j2 => by show dcC v _ = dcC v _; rw [e2 j (by omega)])⟩)⟩
abbrev lwA : List Nat := lawS ++ [610, 611000040, 612000040, 613000040, 614000040, 615, 616000300]
theorem LwC.same {h h2 : MH} {m b : Nat} {S : LSt} (e : ∀ s, s ∈ lwA → hI h2 s m = hI h s m) (q : LwC h m b S) : LwC h2 m b S := by
  obtain ⟨q1, q2, q3, ⟨q4, q5⟩, q6⟩ := q
  refine ⟨q1.same (fun s hs => e s (List.mem_append_left _ hs)), q2, by rw [e _ (by decide)]; exact q3, ⟨q4, by rw [e _ (by decide)]; exact q5⟩, fun i hi => (q6 i hi).cg (Nat.le_refl _) (fun s hs => ?_) (fun j _ => by rw [e 616000300 (by decide)])⟩
  rw [e s ((by decide : ∀ s, s ∈ [611000040, 612000040, 613000040, 614000040] → s ∈ lwA) s hs)]
theorem LwC.rd {h h2 : MH} {m b : Nat} {S : LSt} (u : Upd WRd h h2) (q : LwC h m b S) : LwC h2 m b S := q.same (fun s hs => u.2 s m (fun z => (by decide : ∀ s, s ∈ lwA → s ∉ WRd.map Prod.fst) s hs (List.mem_map_of_mem (f := Prod.fst) z)))
/-- numbers said -/
theorem LwC.nm {h h2 : MH} {m b i x : Nat} {S : LSt} (e : ∀ s, s ∈ [610, 611000040, 612000040, 613000040, 614000040, 615, 616000300] → hI h2 s m = hI h s m) (l : LawEq h2 m (up (fun j => nI (S.1 j)) i (nI x))) (q : LwC h m b S) : LwC h2 m b (setN S i x) := by
  obtain ⟨q1, q2, q3, ⟨q4, q5⟩, q6⟩ := q
  refine ⟨?_, q2, by rw [e _ (by decide)]; exact q3, ⟨q4, by rw [e _ (by decide)]; exact q5⟩, fun i hi => (q6 i hi).cg (Nat.le_refl _) (fun s hs => ?_) (fun j _ => by rw [e 616000300 (by decide)])⟩
  · show LawEq h2 m (fun j => nI (upN S.1 i x j))
    rw [upN_F]; exact l
  · rw [e s ((by decide : ∀ s, s ∈ [611000040, 612000040, 613000040, 614000040] → s ∈ [610, 611000040, 612000040, 613000040, 614000040, 615, 616000300]) s hs)]
theorem LwC.n1 {h : MH} {m b k x s i : Nat} {S : LSt} (hs : s ∉ [610, 611000040, 612000040, 613000040, 614000040, 615, 616000300]) (q : LwC h m b S) (l : LawEq (sI h s m k (nI x)) m (up (fun j => nI (S.1 j)) i (nI x))) : LwC (sI h s m k (nI x)) m b (setN S i x) := q.nm (fun t ht => hI_rn (fun z => hs (by rw [← z.1]; exact ht))) l
abbrev WRu (m : Nat) : List (Nat × Nat) := [(601000004, m), (602000004, m), (603000004, m), (604000040, m), (605, m), (606, m), (607, m), (608, m), (609, m)] ++ WOne m ++ WAr m
theorem WRu_rd {m : Nat} : ∀ q ∈ WRd, q ∈ WRu m := fun q hq => List.mem_append_left _ (List.mem_append_right _ (WOne_l q hq))
theorem WRu_one {m : Nat} : ∀ q ∈ WOne m, q ∈ WRu m := fun q hq => List.mem_append_left _ (List.mem_append_right _ hq)
theorem WRu_ar {m : Nat} : ∀ q ∈ WAr m, q ∈ WRu m := fun q hq => List.mem_append_right _ hq
abbrev num9 : List Nat := [601000004, 602000004, 603000004, 604000040, 605, 606, 607, 608, 609]
theorem WRu_nm {m s : Nat} (hs : s ∈ num9) : (s, m) ∈ WRu m := by
  refine List.mem_append_left _ (List.mem_append_left _ ?_)
  simp only [num9, List.mem_cons, List.not_mem_nil, or_false] at hs
  rcases hs with rfl | rfl | rfl | rfl | rfl | rfl | rfl | rfl | rfl <;> simp
/-- places in a CP aren't touched by a law's rows -/
theorem CP.nm {h : MH} {ls : List (Nat × Nat)} {x : PSt} {s m k : Nat} {v : Int32} (hs : s ∈ num9) (c : CP h ls x) : CP (sI h s m k v) ls x := by
  refine c.fr (W := [(s, m)]) ((Upd.rf _ h).sI (List.mem_singleton.mpr rfl)) (fun q hq z => ?_)
  rw [List.mem_singleton] at z
  have : ∀ q, q ∈ WSc ++ WRd → q.1 ∉ num9 := by decide
  exact this q hq (by rw [z]; exact hs)
theorem upd_nm {h h1 : MH} {m s k : Nat} {v : Int32} (hs : s ∈ num9) (u : Upd (WRu m) h h1) : Upd (WRu m) h (sI h1 s m k v) := u.sI (WRu_nm hs)
/-- one token more -/
theorem pn_split {lo hi : Nat} {l : List (Nat × Nat)} (ok : OkL l) (gp : GapL l) : (∃ t g r, l = (t, g) :: r ∧ isNm lo hi t = true ∧ OkL r ∧ GapL r ∧ hdP l ≤ hdP r ∧ tkP (isNm lo hi) (.inl l) = .inl r ∧ pNum lo hi l = .inl (r, t - 1000)) ∨ ∃ g, tkP (isNm lo hi) (.inl l) = .inr g ∧ pNum lo hi l = .inr g := by
  cases l with
  | nil => exact ok.elim
  | cons y r =>
    obtain ⟨t, g⟩ := y
    by_cases n : isNm lo hi t = true
    · have tt := of_decide_eq_true n
      have ok1 : OkL r := ok.2.elim (fun z => by omega) (fun z => z.2)
      obtain ⟨g1, -, g2⟩ := gap_t gp ok1
      exact Or.inl ⟨t, g, r, rfl, n, ok1, g2, by show g ≤ _; omega, if_pos n, if_pos n⟩
    · exact Or.inr ⟨g, if_neg n, if_neg n⟩
theorem pk_split {k : Nat} {l : List (Nat × Nat)} (hk : k < 2000) (ok : OkL l) (gp : GapL l) : (∃ g r, l = (k, g) :: r ∧ OkL r ∧ GapL r ∧ hdP l ≤ hdP r ∧ tkP (fun t => decide (t = k)) (.inl l) = .inl r ∧ pTk k l = .inl r) ∨ ∃ g, tkP (fun t => decide (t = k)) (.inl l) = .inr g ∧ pTk k l = .inr g := by
  cases l with
  | nil => exact ok.elim
  | cons y r =>
    obtain ⟨t, g⟩ := y
    by_cases n : t = k
    · have ok1 : OkL r := ok.2.elim (fun z => by omega) (fun z => z.2)
      obtain ⟨g1, -, g2⟩ := gap_t gp ok1
      exact Or.inl ⟨g, r, by rw [n], ok1, g2, by show g ≤ _; omega, if_pos (decide_eq_true n), if_pos n⟩
    · exact Or.inr ⟨g, if_neg (fun z => n (of_decide_eq_true z)), if_neg n⟩
/-- refused: numbers of rules and codes stand in their bounds -/
def RfC (h : MH) (m : Nat) : Prop := (∃ R, R ≤ 40 ∧ hI h 610 m 0 = nI R) ∧ ∃ b, CdN h m b
theorem LwC.rf {h : MH} {m b : Nat} {S : LSt} (q : LwC h m b S) : RfC h m := ⟨⟨_, q.2.1, q.2.2.1⟩, b, q.2.2.2.1⟩
/-- what reading a rule leaves -/
def KO (h2 : MH) (ls : List (Nat × Nat)) (m : Nat) : PR → Prop
  | .inr g => CP h2 ls (.inr g) ∧ RfC h2 m
  | .inl (r, S) => CP h2 ls (.inl r) ∧ GapL r ∧ ∃ b, 3 * b ≤ hdP r ∧ LwC h2 m b S
theorem CP.ok {h : MH} {ls l : List (Nat × Nat)} (c : CP h ls (.inl l)) : OkL l := by
  obtain ⟨-, -, i, -, c4, -, -⟩ := c
  exact c4

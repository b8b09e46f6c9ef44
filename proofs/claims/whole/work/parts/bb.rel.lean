/-! THE RELATION between both sides, whole -/
abbrev SAll : List (Nat × Nat) := SWater ++ SSpell ++ SWeed ++ SNest ++ SRace ++ SDoubt ++ SChance ++ SLoyal ++ SRoll ++ SGuide ++ SParty ++ SBoat ++ SDry ++ SFail ++ SPass ++ SHire
theorem SAll_0 : ∀ q ∈ SAll, q.2 = 0 := by decide
theorem RIm.ag {h h2 : MH} (u : Ag SAll h h2) (r : RIm h) : RIm h2 := by
  obtain ⟨x1, x2, x3, x4, x5, x6, x7, x8, x9, x10, x11, x12, x13, x14, x15, x16⟩ := r
  have a : ∀ {S : List (Nat × Nat)}, (∀ q, q ∈ S → q ∈ SAll) → Ag S h h2 := fun hs q hq => u q (hs q hq)
  have m : ∀ q, q ∈ SAll → q ∈ SAll := fun _ h => h
  simp only [SAll, List.mem_append] at m
  exact ⟨x1.ag (a (fun q hq => by simp only [SAll, List.mem_append, hq, true_or, or_true])), x2.ag (a (fun q hq => by simp only [SAll, List.mem_append, hq, true_or, or_true])), x3.ag (a (fun q hq => by simp only [SAll, List.mem_append, hq, true_or, or_true])), x4.ag (a (fun q hq => by simp only [SAll, List.mem_append, hq, true_or, or_true])), x5.ag (a (fun q hq => by simp only [SAll, List.mem_append, hq, true_or, or_true])), x6.ag (a (fun q hq => by simp only [SAll, List.mem_append, hq, true_or, or_true])), x7.ag (a (fun q hq => by simp only [SAll, List.mem_append, hq, true_or, or_true])), x8.ag (a (fun q hq => by simp only [SAll, List.mem_append, hq, true_or, or_true])), x9.ag (a (fun q hq => by simp only [SAll, List.mem_append, hq, true_or, or_true])), x10.ag (a (fun q hq => by simp only [SAll, List.mem_append, hq, true_or, or_true])), x11.ag (a (fun q hq => by simp only [SAll, List.mem_append, hq, true_or, or_true])), x12.ag (a (fun q hq => by simp only [SAll, List.mem_append, hq, true_or, or_true])), x13.ag (a (fun q hq => by simp only [SAll, List.mem_append, hq, true_or, or_true])), x14.ag (a (fun q hq => by simp only [SAll, List.mem_append, hq, true_or, or_true])), x15.ag (a (fun q hq => by simp only [SAll, List.mem_append, hq, true_or, or_true])), x16.ag (a (fun q hq => by simp only [SAll, List.mem_append, hq, true_or, or_true]))⟩
/-- images stand where their rows do -/
theorem RImg.same {h h2 : MH} (a : Ag [(1207, 0), (1392, 0), (1394012600, 0)] h h2) (b : ∀ q, q ∈ tkAll → ∀ j, hI h2 q.1 (j + 1) = hI h q.1 (j + 1)) (c : ∀ i, hR h2 1206500003 0 i = hR h 1206500003 0 i) (e : ∀ X, X ∈ 900009 :: stX.map Prod.fst → hC h2 X = hC h X ∧ hD h2 X = hD h X) (f : ∀ s, s ∈ stRw → hC h2 s = hC h s) (r : RImg h) : RImg h2 := by
  obtain ⟨k, hk, e1, e2, ⟨a1, a2⟩, ims⟩ := r
  refine ⟨k, hk, by rw [a (1207, 0) (by decide)]; exact e1, by rw [a (1392, 0) (by decide)]; exact e2, ⟨fun X hX => by rw [(e X hX).1, (e X hX).2]; exact a1 X hX, fun s hs => by rw [f s hs]; exact a2 s hs⟩, fun j hj => ?_⟩
  obtain ⟨s, p1, p2, p3, p4⟩ := ims j hj
  exact ⟨s, p1, fun q hq c hc => by rw [b q hq j]; exact p2 q hq c hc, by rw [a (1394012600, 0) (by decide)]; exact p3, by rw [c j]; exact p4⟩
/-- objects of laws stand -/
theorem RLal.same {h h2 : MH} (a : hI h2 1203 0 = hI h 1203 0) (b : hC h2 900005 = hC h 900005 ∧ hD h2 900005 = hD h 900005) (c : ∀ s, s ∈ lwR → hC h2 s = hC h s) (e : ∀ i, hR h2 1201400005 0 i = hR h 1201400005 0 i) (r : RLal h) : RLal h2 := by
  obtain ⟨n, K, x1, x2, x3, x4, x5, x6, x7, x8, x9, x10⟩ := r
  exact ⟨n, K, by rw [a]; exact x1, x2, x3, x4, x5, by rw [b.1]; exact x6, by rw [b.2]; exact x7, fun s hs => by rw [c s hs]; exact x8 s hs, fun k hk => by rw [e k]; exact x9 k hk, fun k h1 h3 => by rw [e k]; exact x10 k h1 h3⟩
/-- what laws say stands -/
def LawSame (h h2 : MH) : Prop := (∀ s, s ∈ lcS → ∀ b, hI h2 s b = hI h s b) ∧ (∀ s, s ∈ [1308000384, 1310000006, 1317002700, 1318002700, 1319002700, 1309000006, 1203, 1300] ++ clS → hI h2 s 0 = hI h s 0) ∧ ∀ k, hR h2 1201400005 0 k = hR h 1201400005 0 k
theorem LawSame.go {h h2 : MH} (q : LawSame h h2) (r : RRule h ∧ RNum h ∧ RLaw h ∧ RStp h) : RRule h2 ∧ RNum h2 ∧ RLaw h2 ∧ RStp h2 := by
  obtain ⟨q1, q2, q3⟩ := q
  obtain ⟨n, hn, cL, mL, L⟩ := Laws.of r.1 r.2.1 r.2.2.1 r.2.2.2
  have o : OldL n h h2 := ⟨fun s hs b _ => q1 s hs b, fun c _ => by rw [q2 _ (by decide)], fun c _ => by rw [q2 _ (by decide)], fun s hs c _ => by rw [q2 s (List.mem_append_right _ hs)], fun s hs c _ => by rw [q2 s (List.mem_append_left _ ((by decide : ∀ s, s ∈ [1317002700, 1318002700, 1319002700] → s ∈ [1308000384, 1310000006, 1317002700, 1318002700, 1319002700, 1309000006, 1203, 1300]) s hs))], fun c _ => by rw [q2 _ (by decide)], fun k _ => q3 k⟩
  exact Laws.to hn (by rw [q2 _ (by decide)]; exact cL) (by rw [q2 _ (by decide)]; exact mL) (L.old hn o)
def Rel (h : MH) : Prop := RIm h ∧ RImg h ∧ RTape h ∧ RFault h ∧ RCnt h ∧ (RRule h ∧ RNum h ∧ RLaw h ∧ RStp h) ∧ RLal h
abbrev badS : List Nat := lcS ++ ([1308000384, 1310000006, 1317002700, 1318002700, 1319002700, 1309000006, 1203, 1300] ++ clS) ++ [1204, 1307, 1207, 1392, 1394012600]
/-- rows that are no laws', no images' -/
def okW (W : List (Nat × Nat)) : Prop := ∀ q, q ∈ W → q.1 ∉ badS ∧ (q.2 = 0 ∨ q.1 ∉ tkAll.map Prod.fst)
theorem Rel.upd {h h2 : MH} {W : List (Nat × Nat)} (r : Rel h) (u : Upd W h h2) (w : okW W) (im : RIm h2) (tp : RTape h2) : Rel h2 := by
  obtain ⟨-, r2, -, r4, r5, r6, r7⟩ := r
  have b : ∀ a k, a ∈ badS → hI h2 a k = hI h a k := fun a k ha => u.2 a k (fun z => (w _ z).1 ha)
  have eC : hC h2 = hC h := u.C
  have eD : hD h2 = hD h := by unfold hD; rw [u.1]
  have eR : hR h2 = hR h := u.R
  have b1 : ∀ s, s ∈ lcS → s ∈ badS := fun s hs => List.mem_append_left _ (List.mem_append_left _ hs)
  have b2 : ∀ s, s ∈ [1308000384, 1310000006, 1317002700, 1318002700, 1319002700, 1309000006, 1203, 1300] ++ clS → s ∈ badS := fun s hs => List.mem_append_left _ (List.mem_append_right _ hs)
  have b3 : ∀ s, s ∈ [1204, 1307, 1207, 1392, 1394012600] → s ∈ badS := fun s hs => List.mem_append_right _ hs
  have ls : LawSame h h2 := ⟨fun s hs k => b s k (b1 s hs), fun s hs => b s 0 (b2 s hs), fun k => by rw [eR]⟩
  refine ⟨im, r2.same (fun q hq => ?_) (fun q hq j => u.2 _ _ (fun z => ?_)) (fun i => by rw [eR]) (fun X _ => by rw [eC, eD]; exact ⟨rfl, rfl⟩) (fun s _ => by rw [eC]), tp, r4.ag (fun q hq => ?_), r5.ag (fun q hq => ?_), ls.go r6, r7.same (b _ _ (b2 _ (by decide))) (by rw [eC, eD]; exact ⟨rfl, rfl⟩) (fun s _ => by rw [eC]) (fun i => by rw [eR])⟩
  · simp only [List.mem_cons, List.not_mem_nil, or_false] at hq
    rcases hq with rfl | rfl | rfl <;> exact b _ _ (b3 _ (by decide))
  · rcases (w _ z).2 with y | y
    · exact absurd y (by show j + 1 ≠ 0; omega)
    · exact y (show q.1 ∈ tkAll.map Prod.fst from List.mem_map_of_mem (f := Prod.fst) hq)
  · simp only [SFault, List.mem_cons, List.not_mem_nil, or_false] at hq
    rcases hq with rfl | rfl <;> exact b _ _ (b3 _ (by decide))
  · simp only [SCnt, List.mem_cons, List.not_mem_nil, or_false] at hq
    rcases hq with rfl | rfl | rfl | rfl
    · exact b _ _ (b2 _ (by decide))
    · exact b _ _ (b2 _ (by decide))
    · exact b _ _ (b3 _ (by decide))
    · exact b _ _ (b3 _ (by decide))
theorem Rel.fi {h h2 : MH} (f : FrI h h2) (g : RImg h2) (r : Rel h) : Rel h2 := by
  obtain ⟨r1, r2, r3, r4, r5, r6, r7⟩ := r
  obtain ⟨f1, f2, -, -, f5⟩ := f
  have b : ∀ q, q ∈ SAll ++ STape ++ SFault ++ [(1203, 0), (1300, 0)] → hI h2 q.1 q.2 = hI h q.1 q.2 := fun q hq => f1 q.1 q.2 ((by decide : ∀ q, q ∈ SAll ++ STape ++ SFault ++ [(1203, 0), (1300, 0)] → q ∉ (1207, 0) :: WIm) q hq) (Or.inl ((by decide : ∀ q, q ∈ SAll ++ STape ++ SFault ++ [(1203, 0), (1300, 0)] → q.2 = 0) q hq))
  have e : ∀ a, a ∉ 900009 :: stX.map Prod.fst → a ∉ stRw → hC h2 a = hC h a ∧ hD h2 a = hD h a := f5
  have bL : hI h2 1203 0 = hI h 1203 0 := b (1203, 0) (by decide)
  have bM : hI h2 1300 0 = hI h 1300 0 := b (1300, 0) (by decide)
  obtain ⟨n, m, c1, c2, c3, c4, c5, c6⟩ := r5
  obtain ⟨k, hk, e1, e2, -⟩ := id g
  refine ⟨r1.ag (fun q hq => b q (by simp only [List.mem_append, hq, true_or])), g, r3.ag (fun q hq => b q (by simp only [List.mem_append, hq, true_or, or_true])), r4.ag (fun q hq => b q (by simp only [List.mem_append, hq, true_or, or_true])), ⟨n, k, c1, hk, by rw [bL]; exact c3, by rw [bM]; exact c4, e1, e2⟩, LawSame.go ⟨fun s hs k => ?_, fun s hs => ?_, fun k => f2 _ _ _ (by decide) (Or.inl rfl)⟩ r6, r7.same bL (e _ (by decide) (by decide)) (fun s hs => (e s ((by decide : ∀ s, s ∈ lwR → s ∉ 900009 :: stX.map Prod.fst) s hs) ((by decide : ∀ s, s ∈ lwR → s ∉ stRw) s hs)).1) (fun i => f2 _ _ _ (by decide) (Or.inl rfl))⟩
  · exact f1 s k (fun z => (by decide : ∀ s, s ∈ lcS → s ∉ ((1207, 0) :: WIm : List (Nat × Nat)).map Prod.fst) s hs (List.mem_map_of_mem (f := Prod.fst) z)) (Or.inr ((by decide : ∀ s, s ∈ lcS → NoSt s) s hs))
  · exact f1 s 0 (fun z => (by decide : ∀ s, s ∈ [1308000384, 1310000006, 1317002700, 1318002700, 1319002700, 1309000006, 1203, 1300] ++ clS → s ∉ ((1207, 0) :: WIm : List (Nat × Nat)).map Prod.fst) s hs (List.mem_map_of_mem (f := Prod.fst) z)) (Or.inl rfl)
theorem Rel.ft {h h2 : MH} (f : FrT h h2) (i : RIm h2) (g : RImg h2) (r : Rel h) : Rel h2 := by
  obtain ⟨-, -, r3, r4, r5, r6, r7⟩ := r
  obtain ⟨f1, f2⟩ := f
  have eC : hC h2 = hC h := by unfold hC; rw [f2]
  have eD : hD h2 = hD h := by unfold hD; rw [f2]
  have eR : hR h2 = hR h := by unfold hR; rw [f2]
  have b : ∀ q, q ∈ STape ++ SFault ++ SCnt → hI h2 q.1 q.2 = hI h q.1 q.2 := fun q hq => f1 q.1 q.2 (Or.inr ((by decide : ∀ q, q ∈ STape ++ SFault ++ SCnt → NoRe q.1) q hq))
  exact ⟨i, g, r3.ag (fun q hq => b q (by simp only [List.mem_append, hq, true_or])), r4.ag (fun q hq => b q (by simp only [List.mem_append, hq, true_or, or_true])), r5.ag (fun q hq => b q (by simp only [List.mem_append, hq, or_true])), LawSame.go ⟨fun s hs k => f1 s k (Or.inr ((by decide : ∀ s, s ∈ lcS → NoRe s) s hs)), fun s hs => f1 s 0 (Or.inr ((by decide : ∀ s, s ∈ [1308000384, 1310000006, 1317002700, 1318002700, 1319002700, 1309000006, 1203, 1300] ++ clS → NoRe s) s hs)), fun k => by rw [eR]⟩ r6, r7.same (f1 _ _ (Or.inr (by decide))) (by rw [eC, eD]; exact ⟨rfl, rfl⟩) (fun s _ => by rw [eC]) (fun i => by rw [eR])⟩
theorem Rel.fl {h h2 : MH} (f : FrL h h2) (p : RTape h2 ∧ RFault h2 ∧ RRule h2 ∧ RNum h2 ∧ RLaw h2 ∧ RStp h2 ∧ RLal h2 ∧ RCnt h2) (r : Rel h) : Rel h2 := by
  obtain ⟨r1, r2, -⟩ := r
  obtain ⟨f1, f2, -, -, f5⟩ := f
  obtain ⟨p1, p2, p3, p4, p5, p6, p7, p8⟩ := p
  refine ⟨r1.ag (fun q hq => ?_), r2.same (fun q hq => ?_) (fun q hq j => ?_) (fun i => f2 _ _ _ (by decide) (by decide)) (fun X hX => f5 X ((by decide : ∀ X, X ∈ 900009 :: stX.map Prod.fst → X ≠ 900005) X hX) ((by decide : ∀ X, X ∈ 900009 :: stX.map Prod.fst → X ∉ lwR) X hX)) (fun s hs => (f5 s ((by decide : ∀ s, s ∈ stRw → s ≠ 900005) s hs) ((by decide : ∀ s, s ∈ stRw → s ∉ lwR) s hs)).1), p1, p2, p8, ⟨p3, p4, p5, p6⟩, p7⟩
  · obtain ⟨a, b⟩ := (by decide : ∀ q, q ∈ SAll → q.1 ∉ lawRows ∧ ¬ (600 ≤ q.1 ∧ q.1 < 700)) q hq
    exact f1 q.1 q.2 a b
  · obtain ⟨a, b⟩ := (by decide : ∀ q, q ∈ [(1207, 0), (1392, 0), (1394012600, 0)] → q.1 ∉ lawRows ∧ ¬ (600 ≤ q.1 ∧ q.1 < 700)) q hq
    exact f1 q.1 q.2 a b
  · obtain ⟨a, b⟩ := (by decide : ∀ q, q ∈ tkAll → q.1 ∉ lawRows ∧ ¬ (600 ≤ q.1 ∧ q.1 < 700)) q hq
    exact f1 q.1 _ a b

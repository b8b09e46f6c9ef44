/-! LAWS: the relation behind one more, and behind a fault -/
theorem ruL_shift {f g : Nat → Nat × Bool} {D : Nat} : ∀ {n a c : Nat} {l : List Bool}, (∀ i, i < n → f (a + i) = g (c + i)) → ruL f D a n l = ruL g D c n l
  | 0, _, _, _, _ => rfl
  | n + 1, a, c, l, h => by
    have h0 := h 0 (by omega)
    rw [Nat.add_zero, Nat.add_zero] at h0
    show (match stL (f a).1 (f a).2 l with
      | none => none
      | some l' => if D < l'.length then none else ruL f D (a + 1) n l') = (match stL (g c).1 (g c).2 l with
      | none => none
      | some l' => if D < l'.length then none else ruL g D (c + 1) n l')
    rw [h0]
    cases stL (g c).1 (g c).2 l with
    | none => rfl
    | some l' =>
      show (if D < l'.length then none else ruL f D (a + 1) n l') = (if D < l'.length then none else ruL g D (c + 1) n l')
      rw [ruL_shift (n := n) (a := a + 1) (c := c + 1) (fun i hi => by
        have := h (i + 1) (by omega)
        rw [show a + 1 + i = a + (i + 1) by omega, show c + 1 + i = c + (i + 1) by omega]; exact this)]
/-- where steps of laws end -/
def RStp (h : MH) : Prop := ∃ n, n ≤ 5 ∧ hI h 1300 0 0 = nI n ∧ ∀ l, l < n → ∃ R, R ≤ 40 ∧ hI h 1310000006 0 l = nI R ∧ ∀ i, i < R → ∃ e, hI h 1316000240 0 (40 * l + i) = nI e ∧ e ≤ 450 * (l + 1)
/-- objects of laws made -/
def RLal (h : MH) : Prop := ∃ n K, hI h 1203 0 0 = nI n ∧ n ≤ 5 ∧ n ≤ K ∧ K ≤ n + 1 ∧ K ≤ 5 ∧ hC h 900005 = K + 1 ∧ hD h 900005 = K + 1 ∧ (∀ s, s ∈ alLaw.map Prod.fst → hC h s = K + 1) ∧ (∀ k, k < K → hR h 1201400005 0 k = some (k + 1)) ∧ ∀ k, K ≤ k → k < 5 → hR h 1201400005 0 k = none
abbrev lcS : List Nat := [600, 601000004, 602000004, 603000004, 604000040, 605, 606, 607, 608, 609, 610, 611000040, 612000040, 613000040, 614000040, 615, 616000300]
/-- the first l laws stand -/
def OldL (l : Nat) (h h2 : MH) : Prop := (∀ s, s ∈ lcS → ∀ b, b ≠ l + 1 → hI h2 s b = hI h s b) ∧ (∀ c, c < 64 * l → hI h2 1308000384 0 c = hI h 1308000384 0 c) ∧ (∀ c, c < l → hI h2 1310000006 0 c = hI h 1310000006 0 c) ∧ (∀ s, s ∈ clS → ∀ c, c < 40 * l → hI h2 s 0 c = hI h s 0 c) ∧ (∀ s, s ∈ [1317002700, 1318002700, 1319002700] → ∀ c, c < 450 * l → hI h2 s 0 c = hI h s 0 c) ∧ (∀ c, c < l → hI h2 1309000006 0 c = hI h 1309000006 0 c) ∧ ∀ k, k < l → hR h2 1201400005 0 k = hR h 1201400005 0 k
theorem LawEq.cg {h : MH} {m : Nat} {f g : Nat → Int32} (e : ∀ i, i < 64 → g i = f i) (q : LawEq h m f) : LawEq h m g := by
  obtain ⟨q1, ⟨q2, q3, q4, q5, q6⟩, q7⟩ := q
  exact ⟨fun j hj => by rw [e j (by omega), e (4 + j) (by omega), e (8 + j) (by omega)]; exact q1 j hj, ⟨by rw [e 12 (by omega)]; exact q2, by rw [e 13 (by omega)]; exact q3, by rw [e 14 (by omega)]; exact q4, by rw [e 15 (by omega)]; exact q5, by rw [e 16 (by omega)]; exact q6⟩, fun i hi => by rw [e (20 + i) (by omega)]; exact q7 i hi⟩
theorem OldL.le {l m : Nat} {h h2 : MH} {f : Nat → Int32} (o : OldL l h h2) (hm : m ≠ l + 1) (q : LawEq h m f) : LawEq h2 m f := q.same (fun s hs => o.1 s ((by decide : ∀ s, s ∈ lawS → s ∈ lcS) s hs) m hm)
theorem OldL.rs {l k R : Nat} {h h2 : MH} {s p : Nat → Nat} {φ : Nat → (Nat → Int32) → Bool} (o : OldL l h h2) (hk5 : k < 5) (hk : k < l) (hst : ∀ i, i < R → ∃ e, hI h 1316000240 0 (40 * k + i) = nI e ∧ e ≤ 450 * (k + 1)) (q : RsEq h (k + 1) k R s p φ) : RsEq h2 (k + 1) k R s p φ := by
  obtain ⟨o1, o2, o3, o4, o5, o6, o7⟩ := o
  obtain ⟨q1, q2, q3, q4⟩ := q
  have cl : ∀ s, s ∈ lcS → hI h2 s (k + 1) = hI h s (k + 1) := fun s hs => o1 s hs _ (by omega)
  refine ⟨q1, by rw [cl _ (by decide)]; exact q2, by rw [o3 k hk]; exact q3, fun i hi => ?_⟩
  have mc : ∀ s, s ∈ clS → hI h2 s 0 (40 * k + i) = hI h s 0 (40 * k + i) := fun s hs => o4 s hs _ (by omega)
  obtain ⟨r1, r2, r3, r4, r5, r6, r7, r8⟩ := q4 i hi
  refine ⟨r1, r2, by rw [cl _ (by decide)]; exact r3, by rw [mc _ (by decide)]; exact r4, by rw [cl _ (by decide)]; exact r5, by rw [mc _ (by decide)]; exact r6, fun z => by rw [cl 613000040 (by decide), cl 614000040 (by decide), mc 1312000240 (by decide), mc 1313000240 (by decide)]; exact r7 z, fun z => ?_⟩
  obtain ⟨a, b, c, e, C, x1, x2, x3, x4, x5, x6, x7, x8, x9⟩ := r8 z
  obtain ⟨e', y1, y2⟩ := hst i hi
  have ee : e = e' := (nI_eq (by omega) (by omega)).mp (by rw [← x4, y1])
  have st : ∀ s, s ∈ [1317002700, 1318002700, 1319002700] → ∀ j, j < e → hI h2 s 0 j = hI h s 0 j := fun s hs j hj => o5 s hs j (by
    have : 450 * (k + 1) ≤ 450 * l := Nat.mul_le_mul_left _ hk
    omega)
  refine ⟨a, b, c, e, C, by rw [cl _ (by decide)]; exact x1, by rw [cl _ (by decide)]; exact x2, by rw [mc _ (by decide)]; exact x3, by rw [mc _ (by decide)]; exact x4, by rw [cl _ (by decide)]; exact x5, x6, x7, x8, ?_⟩
  rcases x9 with w | ⟨w1, w2, w3, w4⟩
  · exact Or.inl w
  · refine Or.inr ⟨w1, w2, fun v => ⟨?_, ?_⟩, fun j j1 j2 hj => ?_⟩
    · rw [cl 616000300 (by decide)]; exact (w3 v).1
    · rw [← (w3 v).2]
      refine ruL_cong (fun j j1 j2 => ?_)
      rw [st 1317002700 (by decide) j (by omega), st 1318002700 (by decide) j (by omega), st 1319002700 (by decide) j (by omega)]
    · rw [st 1317002700 (by decide) j j2] at hj
      rw [st 1318002700 (by decide) j j2]
      exact w4 j j1 j2 hj
/-- what is known of the first laws -/
def Laws (n : Nat) (h : MH) : Prop := (∃ dy : Nat → Nat, ∀ k, k < n → dy k < 100 ∧ hR h 1201400005 0 k = some (k + 1) ∧ hI h 600 (k + 1) 0 = nI (dy k) ∧ hI h 1309000006 0 k = nI (dy k)) ∧ (∀ k, k < n → LawEq h (k + 1) (fun i => hI h 1308000384 0 (64 * k + i))) ∧ LawEq h 0 bareF ∧ (∀ l, l < n → ∃ f : Nat → Nat, LB f ∧ ∀ j, j < 64 → hI h 1308000384 0 (64 * l + j) = nI (f j)) ∧ (∀ l, l < n → ∃ R s p φ, RsEq h (l + 1) l R s p φ) ∧ hI h 610 0 0 = 0 ∧ ∀ l, l < n → ∃ R, R ≤ 40 ∧ hI h 1310000006 0 l = nI R ∧ ∀ i, i < R → ∃ e, hI h 1316000240 0 (40 * l + i) = nI e ∧ e ≤ 450 * (l + 1)
theorem Laws.of {h : MH} (qr : RRule h) (qn : RNum h) (ql : RLaw h) (qb : RStp h) : ∃ n, n ≤ 5 ∧ hI h 1203 0 0 = nI n ∧ hI h 1300 0 0 = nI n ∧ Laws n h := by
  obtain ⟨n, hn, cL, mL, r1, r2, r3⟩ := qr
  obtain ⟨n2, hn2, mL2, r4⟩ := qn
  obtain ⟨⟨n3, hn3, mL3, r5⟩, r6⟩ := ql
  obtain ⟨n4, hn4, mL4, r7⟩ := qb
  have e2 : n2 = n := (nI_eq (by omega) (by omega)).mp (by rw [← mL2, mL])
  have e3 : n3 = n := (nI_eq (by omega) (by omega)).mp (by rw [← mL3, mL])
  have e4 : n4 = n := (nI_eq (by omega) (by omega)).mp (by rw [← mL4, mL])
  subst e2; subst e3; subst e4
  exact ⟨_, hn, cL, mL, r1, r2, r3, r4, r5, r6, r7⟩
theorem Laws.to {h : MH} {n : Nat} (hn : n ≤ 5) (cL : hI h 1203 0 0 = nI n) (mL : hI h 1300 0 0 = nI n) (q : Laws n h) : RRule h ∧ RNum h ∧ RLaw h ∧ RStp h := by
  obtain ⟨r1, r2, r3, r4, r5, r6, r7⟩ := q
  exact ⟨⟨n, hn, cL, mL, r1, r2, r3⟩, ⟨n, hn, mL, r4⟩, ⟨⟨n, hn, mL, r5⟩, r6⟩, n, hn, mL, r7⟩
theorem Laws.old {l : Nat} {h h2 : MH} (hl : l ≤ 5) (o : OldL l h h2) (q : Laws l h) : Laws l h2 := by
  obtain ⟨⟨dy, r1⟩, r2, r3, r4, r5, r6, r7⟩ := q
  refine ⟨⟨dy, fun k hk => ?_⟩, fun k hk => ?_, o.le (by omega) r3, fun k hk => ?_, fun k hk => ?_, ?_, fun k hk => ?_⟩
  · obtain ⟨a1, a2, a3, a4⟩ := r1 k hk
    exact ⟨a1, by rw [o.2.2.2.2.2.2 k hk]; exact a2, by rw [o.1 _ (by decide) _ (by omega)]; exact a3, by rw [o.2.2.2.2.2.1 k hk]; exact a4⟩
  · exact (o.le (by omega) (r2 k hk)).cg (fun i hi => o.2.1 _ (by omega))
  · obtain ⟨f, f1, f2⟩ := r4 k hk
    exact ⟨f, f1, fun j hj => by rw [o.2.1 _ (by omega)]; exact f2 j hj⟩
  · obtain ⟨R, s, p, φ, q⟩ := r5 k hk
    obtain ⟨R2, y1, y2, y3⟩ := r7 k hk
    have e : R2 = R := (nI_eq (by omega) (by have := q.1; omega)).mp (by rw [← y2, q.2.2.1])
    subst e
    exact ⟨R2, s, p, φ, o.rs (by omega) hk y3 q⟩
  · rw [o.1 _ (by decide) 0 (by omega)]; exact r6
  · obtain ⟨R, y1, y2, y3⟩ := r7 k hk
    refine ⟨R, y1, by rw [o.2.2.1 k hk]; exact y2, fun i hi => ?_⟩
    obtain ⟨e, z1, z2⟩ := y3 i hi
    exact ⟨e, by rw [o.2.2.2.1 _ (by decide) _ (by omega)]; exact z1, z2⟩
/-- the new law, as both sides hold it -/
theorem new_RsEq {h : MH} {l b c : Nat} {g : MH} {S : LSt} (hl : l < 5) (lc : LwC h (l + 1) c S) (lm : LwM g b S) (hb : b ≤ 2550) (eR : hI h 1310000006 0 l = nI S.2.1) (k1 : ∀ i, i < S.2.1 → hI h 1311000240 0 (40 * l + i) = hI g 1311000240 0 (200 + i) ∧ hI h 1312000240 0 (40 * l + i) = hI g 1312000240 0 (200 + i) ∧ hI h 1313000240 0 (40 * l + i) = hI g 1313000240 0 (200 + i) ∧ hI h 1314000240 0 (40 * l + i) = hI g 1314000240 0 (200 + i) ∧ hI h 1315000240 0 (40 * l + i) = hI g 1315000240 0 (200 + i) + (450 : Int32) * (nI l - 5) ∧ hI h 1316000240 0 (40 * l + i) = hI g 1316000240 0 (200 + i) + (450 : Int32) * (nI l - 5)) (k2 : ∀ j, 2250 + j < b → hI h 1317002700 0 (450 * l + j) = hI g 1317002700 0 (2250 + j) ∧ hI h 1318002700 0 (450 * l + j) = hI g 1318002700 0 (2250 + j) ∧ hI h 1319002700 0 (450 * l + j) = hI g 1319002700 0 (2250 + j)) : RsEq h (l + 1) l S.2.1 (fun i => (S.2.2 i).1.1) (fun i => (S.2.2 i).1.2.1) (fun i => (S.2.2 i).2) ∧ ∀ i, i < S.2.1 → ∃ e, hI h 1316000240 0 (40 * l + i) = nI e ∧ e ≤ 450 * (l + 1) := by
  obtain ⟨-, c2, c3, c4, c5⟩ := lc
  obtain ⟨-, -, -, -, m5, m6⟩ := lm
  refine ⟨⟨c2, c3, eR, fun i hi => ?_⟩, fun i hi => ?_⟩
  · obtain ⟨x1, x2, x3, x4, x5, x6⟩ := c5 i hi
    obtain ⟨-, -, y3, y4, y5, a, e, y6, y7, y8, y8', y9, y9', y10⟩ := m6 i hi
    obtain ⟨z1, z2, z3, z4, z5, z6⟩ := k1 i hi
    refine ⟨x1, x2, x3, by rw [z1]; exact y3, x4, by rw [z4]; exact y4, fun s0 => ?_, fun s0 => ?_⟩
    · obtain ⟨p1, p2⟩ := x5 s0
      obtain ⟨p3, p4⟩ := y5 s0
      exact ⟨by rw [z2, p1, p3], by rw [z3, p2, p4]⟩
    · obtain ⟨ca, ce, p1, p2, p3, p4⟩ := x6 s0
      rw [y6, shl_add hl y8] at z5
      rw [y7, shl_add hl y8'] at z6
      have bb := c4.1
      refine ⟨ca, ce, a - 2250 + 450 * l, e - 2250 + 450 * l, c, p1, p2, z5, z6, c4.2, p3, bb, by omega, ?_⟩
      rcases p4 with ⟨f1, f2, f3⟩ | ⟨f1, f2⟩
      · rcases y10 s0 with ⟨g1, g2, g3⟩ | ⟨g1, -, -⟩
        · exact Or.inl ⟨f2, by rw [g2], f3⟩
        · rw [f1] at g1; cases g1
      · rcases y10 s0 with ⟨g1, -, -⟩ | ⟨g1, g2, g3⟩
        · rw [f1] at g1; cases g1
        · have ae := (g2 (fun _ => 0)).1
          refine Or.inr ⟨(f2 (fun _ => 0)).1, by omega, fun v => ⟨ruL_mono (by decide) ((f2 v).2 []), ?_⟩, fun j j1 j2 hj => ?_⟩
          · have := ruL_mono (D2 := 60) (by decide) ((g2 v).2 [])
            rw [← this, show e - 2250 + 450 * l - (a - 2250 + 450 * l) = e - a by omega]
            refine ruL_shift (fun q hq => ?_)
            obtain ⟨w1, w2, w3⟩ := k2 (a - 2250 + q) (by omega)
            rw [show 450 * l + (a - 2250 + q) = a - 2250 + 450 * l + q by omega, show 2250 + (a - 2250 + q) = a + q by omega] at w1 w2 w3
            show dcM v _ _ _ = dcM v _ _ _
            rw [w1, w2, w3]
          · obtain ⟨w1, w2, -⟩ := k2 (j - 450 * l) (by omega)
            rw [show 450 * l + (j - 450 * l) = j by omega] at w1 w2
            rw [w1] at hj
            rw [w2]
            exact g3 (2250 + (j - 450 * l)) (by omega) (by omega) hj
  · obtain ⟨-, -, -, -, -, a, e, y6, y7, y8, y8', y9, y9', y10⟩ := m6 i hi
    obtain ⟨-, -, -, -, -, z6⟩ := k1 i hi
    rw [y7, shl_add hl y8'] at z6
    exact ⟨e - 2250 + 450 * l, z6, by omega⟩

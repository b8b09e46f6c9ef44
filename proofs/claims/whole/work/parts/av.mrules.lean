/-! RULES, on the reference's side -/
abbrev WCl : List (Nat × Nat) := [(1311000240, 0), (1312000240, 0), (1313000240, 0), (1314000240, 0), (1315000240, 0), (1316000240, 0)]
abbrev WMr : List (Nat × Nat) := WCq ++ [(1308000384, 0), (1310000006, 0)] ++ WCl
theorem wmr1 : ∀ q ∈ WLx, q ∈ WMr := by decide
theorem wmr2 : ∀ q ∈ WCq, q ∈ WMr := by decide
theorem wmr3 : ∀ q ∈ WCl, q ∈ WMr := by decide
/-- a rule, as the reference's draft holds it -/
def RuM (h : MH) (b i : Nat) (x : (Nat × Nat × Nat × Nat) × Phi) : Prop := x.1.1 ≤ 2 ∧ x.1.2.1 ≤ 100 ∧ hI h 1311000240 0 (200 + i) = nI x.1.1 ∧ hI h 1314000240 0 (200 + i) = nI x.1.2.1 ∧ (x.1.1 = 0 → hI h 1312000240 0 (200 + i) = nI x.1.2.2.1 ∧ hI h 1313000240 0 (200 + i) = nI x.1.2.2.2) ∧ (∃ a e, hI h 1315000240 0 (200 + i) = nI a ∧ hI h 1316000240 0 (200 + i) = nI e ∧ 2250 ≤ a ∧ 2250 ≤ e ∧ e ≤ b ∧ a ≤ b ∧ (x.1.1 ≠ 0 → ((x.1.2.2.1 = 1 ∧ a = e ∧ ∀ v, x.2 v = true) ∨ (x.1.2.2.1 = 0 ∧ (∀ v, SegL (dcS h v) 19 a e (x.2 v)) ∧ ∀ j, a ≤ j → j < e → ¬ 2 < hI h 1317002700 0 j → ∃ q, q < 8 ∧ hI h 1318002700 0 j = nI q))))
/-- a law, as the reference's draft holds it, with steps up to b -/
def LwM (h : MH) (b : Nat) (S : LSt) : Prop := (∀ j, j < 64 → hI h 1308000384 0 (320 + j) = nI (S.1 j)) ∧ S.2.1 ≤ 40 ∧ hI h 1310000006 0 5 = nI S.2.1 ∧ hI h 1302 0 0 = nI b ∧ 2250 ≤ b ∧ ∀ i, i < S.2.1 → RuM h b i (S.2.2 i)
abbrev clS : List Nat := [1311000240, 1312000240, 1313000240, 1314000240, 1315000240, 1316000240]
theorem RuM.cg {h h2 : MH} {b b2 i : Nat} {x : (Nat × Nat × Nat × Nat) × Phi} (hb : b ≤ b2) (e1 : ∀ s, s ∈ clS → hI h2 s 0 (200 + i) = hI h s 0 (200 + i)) (e2 : ∀ j, j < b → hI h2 1317002700 0 j = hI h 1317002700 0 j ∧ hI h2 1318002700 0 j = hI h 1318002700 0 j ∧ hI h2 1319002700 0 j = hI h 1319002700 0 j) (q : RuM h b i x) : RuM h2 b2 i x := by
  obtain ⟨q1, q2, q3, q4, q5, q6⟩ := q
  unfold RuM
  rw [e1 1311000240 (by decide), e1 1312000240 (by decide), e1 1313000240 (by decide), e1 1314000240 (by decide), e1 1315000240 (by decide), e1 1316000240 (by decide)]
  obtain ⟨a, e, y1, y2, y3, y3', y4, y5, y6⟩ := q6
  refine ⟨q1, q2, q3, q4, q5, a, e, y1, y2, y3, y3', by omega, by omega, fun z => (y6 z).imp id (fun w => ⟨w.1, fun v => SegL.cong (w.2.1 v) (fun j _ j2 => ?_), fun j j1 j2 hj => ?_⟩)⟩
  · obtain ⟨a1, a2, a3⟩ := e2 j (by omega)
    show dcM v _ _ _ = dcM v _ _ _
    rw [a1, a2, a3]
  · obtain ⟨a1, a2, a3⟩ := e2 j (by omega)
    rw [a1] at hj
    rw [a2]; exact w.2.2 j j1 j2 hj
abbrev lwB : List Nat := [1308000384, 1310000006, 1302, 1317002700, 1318002700, 1319002700] ++ clS
theorem LwM.same {h h2 : MH} {b : Nat} {S : LSt} (e : ∀ s, s ∈ lwB → hI h2 s 0 = hI h s 0) (q : LwM h b S) : LwM h2 b S := by
  obtain ⟨q1, q2, q3, q4, q5, q6⟩ := q
  refine ⟨fun j hj => by rw [e _ (by decide)]; exact q1 j hj, q2, by rw [e _ (by decide)]; exact q3, by rw [e _ (by decide)]; exact q4, q5, fun i hi => (q6 i hi).cg (Nat.le_refl _) (fun s hs => ?_) (fun j _ => ?_)⟩
  · rw [e s ((by decide : ∀ s, s ∈ clS → s ∈ lwB) s hs)]
  · rw [e 1317002700 (by decide), e 1318002700 (by decide), e 1319002700 (by decide)]; exact ⟨rfl, rfl, rfl⟩
theorem LwM.lx {h h2 : MH} {b : Nat} {S : LSt} (u : Upd WLx h h2) (q : LwM h b S) : LwM h2 b S := q.same (fun s hs => u.2 s 0 (fun z => (by decide : ∀ s, s ∈ lwB → s ∉ WLx.map Prod.fst) s hs (List.mem_map_of_mem (f := Prod.fst) z)))
theorem LwM.dp {h : MH} {b : Nat} {S : LSt} {v : Int32} (q : LwM h b S) : LwM (sI h 1306 0 0 v) b S := q.same (fun s hs => hI_rn (fun z => (by decide : ∀ s, s ∈ lwB → s ≠ 1306) s hs z.1))
/-- a number said -/
theorem LwM.nm {h : MH} {b i x : Nat} {S : LSt} (q : LwM h b S) : LwM (sI h 1308000384 0 (320 + i) (nI x)) b (setN S i x) := by
  obtain ⟨q1, q2, q3, q4, q5, q6⟩ := q
  have e : ∀ s, s ≠ 1308000384 → hI (sI h 1308000384 0 (320 + i) (nI x)) s 0 = hI h s 0 := fun s hs => hI_rn (fun z => hs z.1)
  refine ⟨fun j hj => ?_, q2, by rw [e _ (by decide)]; exact q3, by rw [e _ (by decide)]; exact q4, q5, fun i hi => (q6 i hi).cg (Nat.le_refl _) (fun s hs => ?_) (fun j _ => ?_)⟩
  · rw [hI_rs]
    show up _ _ _ _ = nI (if j = i then x else S.1 j)
    by_cases z : j = i
    · rw [if_pos z, z, up_s]
    · rw [if_neg z, up_n (by omega)]; exact q1 j hj
  · rw [e s ((by decide : ∀ s, s ∈ clS → s ≠ 1308000384) s hs)]
  · rw [e 1317002700 (by decide), e 1318002700 (by decide), e 1319002700 (by decide)]; exact ⟨rfl, rfl, rfl⟩
/-- the rule behind those that stand -/
theorem LwM.cl {h : MH} {b s : Nat} {S : LSt} {v : Int32} (hs : s ∈ clS) (q : LwM h b S) : LwM (sI h s 0 (200 + S.2.1) v) b S := by
  obtain ⟨q1, q2, q3, q4, q5, q6⟩ := q
  have e : ∀ t, t ≠ s → hI (sI h s 0 (200 + S.2.1) v) t 0 = hI h t 0 := fun t ht => hI_rn (fun z => ht z.1)
  have n : ∀ t, t ∈ [1308000384, 1310000006, 1302, 1317002700, 1318002700, 1319002700] → t ≠ s := fun t ht z => (by decide : ∀ t, t ∈ [1308000384, 1310000006, 1302, 1317002700, 1318002700, 1319002700] → t ∉ clS) t ht (by rw [z]; exact hs)
  refine ⟨fun j hj => by rw [e _ (n _ (by decide))]; exact q1 j hj, q2, by rw [e _ (n _ (by decide))]; exact q3, by rw [e _ (n _ (by decide))]; exact q4, q5, fun i hi => (q6 i hi).cg (Nat.le_refl _) (fun t ht => ?_) (fun j _ => ?_)⟩
  · by_cases z : t = s
    · rw [z, hI_rs, up_n (by omega)]
    · rw [e t z]
  · rw [e _ (n 1317002700 (by decide)), e _ (n 1318002700 (by decide)), e _ (n 1319002700 (by decide))]; exact ⟨rfl, rfl, rfl⟩
/-- a rule more -/
theorem LwM.add {h : MH} {b s p a c x y : Nat} {S : LSt} {φ : Phi} (q : LwM h b S) (hR : S.2.1 < 40) (hs : s ≤ 2) (hp : p ≤ 100) (k1 : hI h 1311000240 0 (200 + S.2.1) = nI s) (k2 : hI h 1314000240 0 (200 + S.2.1) = nI p) (k3 : s = 0 → hI h 1312000240 0 (200 + S.2.1) = nI a ∧ hI h 1313000240 0 (200 + S.2.1) = nI c) (k4 : hI h 1315000240 0 (200 + S.2.1) = nI x) (k5 : hI h 1316000240 0 (200 + S.2.1) = nI y) (k6 : 2250 ≤ x ∧ 2250 ≤ y ∧ y ≤ b ∧ x ≤ b) (k7 : s ≠ 0 → (a = 1 ∧ x = y ∧ ∀ v, φ v = true) ∨ (a = 0 ∧ (∀ v, SegL (dcS h v) 19 x y (φ v)) ∧ ∀ j, x ≤ j → j < y → ¬ 2 < hI h 1317002700 0 j → ∃ q, q < 8 ∧ hI h 1318002700 0 j = nI q)) : LwM (sI h 1310000006 0 5 (nI (S.2.1 + 1))) b (addR S s p a c φ) := by
  obtain ⟨q1, q2, q3, q4, q5, q6⟩ := q
  have e : ∀ t, t ≠ 1310000006 → hI (sI h 1310000006 0 5 (nI (S.2.1 + 1))) t 0 = hI h t 0 := fun t ht => hI_rn (fun z => ht z.1)
  refine ⟨fun j hj => by rw [e _ (by decide)]; exact q1 j hj, by show S.2.1 + 1 ≤ 40; omega, by rw [hI_rs, up_s]; rfl, by rw [e _ (by decide)]; exact q4, q5, fun i hi => ?_⟩
  replace hi : i < S.2.1 + 1 := hi
  show RuM _ b i (if i = S.2.1 then ((s, p, a, c), φ) else S.2.2 i)
  have cg : ∀ x, RuM h b i x → RuM (sI h 1310000006 0 5 (nI (S.2.1 + 1))) b i x := fun x r => r.cg (Nat.le_refl _) (fun t ht => by rw [e t ((by decide : ∀ t, t ∈ clS → t ≠ 1310000006) t ht)]) (fun j _ => by rw [e 1317002700 (by decide), e 1318002700 (by decide), e 1319002700 (by decide)]; exact ⟨rfl, rfl, rfl⟩)
  refine cg _ ?_
  by_cases z : i = S.2.1
  · rw [if_pos z, z]
    exact ⟨hs, hp, k1, k2, k3, x, y, k4, k5, k6.1, k6.2.1, k6.2.2.1, k6.2.2.2, k7⟩
  · rw [if_neg z]; exact q6 i (by omega)
/-- laws that stand already stay -/
def FrD (h h2 : MH) : Prop := (∀ c, c < 320 → hI h2 1308000384 0 c = hI h 1308000384 0 c) ∧ (∀ c, c < 5 → hI h2 1310000006 0 c = hI h 1310000006 0 c) ∧ (∀ s, s ∈ clS → ∀ c, c < 200 → hI h2 s 0 c = hI h s 0 c) ∧ KpS h h2 2250
theorem FrD.rf (h : MH) : FrD h h := ⟨fun _ _ => rfl, fun _ _ => rfl, fun _ _ _ _ => rfl, KpS.rf h _⟩
theorem FrD.tr {a b c : MH} (x : FrD a b) (y : FrD b c) : FrD a c := ⟨fun k hk => (y.1 k hk).trans (x.1 k hk), fun k hk => (y.2.1 k hk).trans (x.2.1 k hk), fun s hs k hk => (y.2.2.1 s hs k hk).trans (x.2.2.1 s hs k hk), x.2.2.2.tr y.2.2.2 (Nat.le_refl _)⟩
theorem FrD.of {h h2 : MH} {W : List (Nat × Nat)} (u : Upd W h h2) (hd : ∀ s, s ∈ [1308000384, 1310000006, 1317002700, 1318002700, 1319002700] ++ clS → (s, 0) ∉ W) : FrD h h2 := ⟨fun c _ => by rw [u.2 _ _ (hd 1308000384 (by decide))], fun c _ => by rw [u.2 _ _ (hd 1310000006 (by decide))], fun s hs c _ => by rw [u.2 _ _ (hd s (List.mem_append_right _ hs))], KpS.of _ u (fun q hq => by
  simp only [List.mem_cons, List.not_mem_nil, or_false] at hq
  rcases hq with rfl | rfl | rfl
  · exact hd 1317002700 (by decide)
  · exact hd 1318002700 (by decide)
  · exact hd 1319002700 (by decide))⟩
theorem FrD.law {h : MH} {i : Nat} {x : Int32} : FrD h (sI h 1308000384 0 (320 + i) x) := ⟨fun c hc => by rw [hI_rs, up_n (by omega)], fun c _ => by rw [hI_rn (by decide)], fun s hs c _ => by rw [hI_rn (fun z => (by decide : ∀ s, s ∈ clS → s ≠ 1308000384) s hs z.1)], KpS.of (W := [(1308000384, 0)]) _ ((Upd.rf _ h).sI (by decide)) (by decide)⟩
theorem FrD.cls {h : MH} {x : Int32} : FrD h (sI h 1310000006 0 5 x) := ⟨fun c hc => by rw [hI_rn (by decide)], fun c _ => by rw [hI_rs, up_n (by omega)], fun s hs c _ => by rw [hI_rn (fun z => (by decide : ∀ s, s ∈ clS → s ≠ 1310000006) s hs z.1)], KpS.of (W := [(1310000006, 0)]) _ ((Upd.rf _ h).sI (by decide)) (by decide)⟩
theorem FrD.cl {h : MH} {s i : Nat} {x : Int32} (hs : s ∈ clS) (hi : 200 ≤ i) : FrD h (sI h s 0 i x) := by
  have n : ∀ t, t ∈ [1308000384, 1310000006, 1317002700, 1318002700, 1319002700] → t ≠ s := fun t ht z => (by decide : ∀ t, t ∈ [1308000384, 1310000006, 1317002700, 1318002700, 1319002700] → t ∉ clS) t ht (by rw [z]; exact hs)
  have e : ∀ t, t ≠ s → hI (sI h s 0 i x) t 0 = hI h t 0 := fun t ht => hI_rn (fun z => ht z.1)
  refine ⟨fun c hc => by rw [e _ (n _ (by decide))], fun c _ => by rw [e _ (n _ (by decide))], fun t ht c hc => ?_, fun j _ => by rw [e _ (n 1317002700 (by decide)), e _ (n 1318002700 (by decide)), e _ (n 1319002700 (by decide))]; exact ⟨rfl, rfl, rfl⟩⟩
  by_cases z : t = s
  · rw [z, hI_rs, up_n (by omega)]
  · rw [e t z]
/-- rows of the reference that reading changes -/
def UM (h h2 : MH) : Prop := Upd WMr h h2 ∧ FrD h h2
theorem UM.rf (h : MH) : UM h h := ⟨Upd.rf _ h, FrD.rf h⟩
theorem UM.tr {a b c : MH} (x : UM a b) (y : UM b c) : UM a c := ⟨x.1.tr y.1, x.2.tr y.2⟩
theorem Upd.um {h h2 : MH} (u : Upd WLx h h2) : UM h h2 := ⟨u.mono wmr1, FrD.of u (by decide)⟩
theorem UM.law {h h1 : MH} {i : Nat} {x : Int32} (u : UM h h1) : UM h (sI h1 1308000384 0 (320 + i) x) := u.tr ⟨(Upd.rf _ h1).sI (by decide), FrD.law⟩
theorem UM.cls {h h1 : MH} {x : Int32} (u : UM h h1) : UM h (sI h1 1310000006 0 5 x) := u.tr ⟨(Upd.rf _ h1).sI (by decide), FrD.cls⟩
theorem UM.cl {h h1 : MH} {s i : Nat} {x : Int32} (u : UM h h1) (hs : s ∈ clS) (hi : 200 ≤ i) : UM h (sI h1 s 0 i x) := u.tr ⟨(Upd.rf _ h1).sI ((by decide : ∀ s, s ∈ clS → (s, 0) ∈ WMr) s hs), FrD.cl hs hi⟩
theorem UM.cq {h h1 : MH} {b : Nat} (u : Upd WCq h h1) (k : KpS h h1 b) (hb : 2250 ≤ b) : UM h h1 := ⟨u.mono wmr2, fun c _ => by rw [u.2 _ _ (by decide)], fun c _ => by rw [u.2 _ _ (by decide)], fun s hs c _ => by rw [u.2 s 0 (fun z => (by decide : ∀ s, s ∈ clS → s ∉ WCq.map Prod.fst) s hs (List.mem_map_of_mem (f := Prod.fst) z))], fun j hj => k j (by omega)⟩
theorem MO.kp {h h2 : MH} {v : Nat → Nat} {n D b N : Nat} {x : PC} (t : MO h h2 v n D b N x) : KpS h h2 b := by
  cases x with
  | inr g => obtain ⟨q, -, -, t3⟩ := t; exact t3
  | inl y => obtain ⟨r, φ⟩ := y; obtain ⟨q, b2, -, -, -, -, -, -, t7, -⟩ := t; exact t7
/-- what reading a rule leaves -/
def KM (h2 : MH) (v : Nat → Nat) (n : Nat) : PR → Prop
  | .inr g => ∃ q, AtM h2 v n q ∧ hdP (lex v n q) = g
  | .inl (r, S) => ∃ q b, AtM h2 v n q ∧ lex v n q = r ∧ 3 * b ≤ hdP r + 6750 ∧ LwM h2 b S
def okR : PR → Bool
  | .inl _ => true
  | .inr _ => false
section MRules
variable {L : Nat} {scr : Nat → Int32} {d : Nat}
theorem lexNE {v : Nat → Nat} {n p : Nat} : ∃ t g r, lex v n p = (t, g) :: r := by
  rcases Nat.lt_or_ge n p with c | c
  · exact ⟨4000, n, [], lex_e (by omega)⟩
  · obtain ⟨t, g, r, h, -⟩ := lexF_h (v := v) (n := n) (n - p) p c
    exact ⟨t, g, r, h⟩
/-- a number taken, or not -/
theorem m_num {lo hi : Nat} (hl : lo ≤ 999) (hh : hi ≤ 999) {h : MH} {v : Nat → Nat} {n p : Nat} (a : AtM h v n p) : ∃ h1 q, Upd WLx h h1 ∧ AtM h1 v n q ∧ ((∃ x, E L scr (d + 2) 212 [vR 900012 0, vI (nI lo), vI (nI hi)] h = some (some (vI 1), h1) ∧ pNum lo hi (lex v n p) = .inl (lex v n q, x) ∧ hI h1 1325 0 0 = nI x ∧ hdP (lex v n p) ≤ hdP (lex v n q) ∧ lo ≤ x ∧ x ≤ hi) ∨ (E L scr (d + 2) 212 [vR 900012 0, vI (nI lo), vI (nI hi)] h = some (some (vI 0), h1) ∧ pNum lo hi (lex v n p) = .inr (hdP (lex v n q)))) := by
  obtain ⟨t, g, r, e⟩ := lexNE (v := v) (n := n) (p := p)
  obtain ⟨h1, q, e1, u1, a1, l1, rd⟩ := c_M_takesNumber (L := L) (scr := scr) (d := d) hl hh a e
  refine ⟨h1, q, u1, a1, ?_⟩
  rw [e]
  by_cases z : isNm lo hi t = true
  · have tt := of_decide_eq_true z
    rw [if_pos z] at l1
    have gp : GapL ((t, g) :: r) := by rw [← e]; exact lex_gap a.2.1
    have ok : OkL ((t, g) :: r) := by rw [← e]; exact (lex_ok a.1.1).1
    obtain ⟨g1, -, -⟩ := gap_t gp (ok.2.elim (fun z => by omega) (fun z => z.2))
    refine Or.inl ⟨t - 1000, by rw [e1, z]; rfl, ?_, rd z, by rw [l1]; show g ≤ _; omega, by omega, by omega⟩
    rw [l1]; exact if_pos z
  · rw [if_neg z] at l1
    refine Or.inr ⟨?_, ?_⟩
    · rw [e1, Bool.eq_false_iff.mpr z]; rfl
    · rw [l1]; exact if_neg z
theorem m_wd {s : Nat} (hs : s < 23) {h : MH} {v : Nat → Nat} {n p : Nat} (a : AtM h v n p) : ∃ h1 q, Upd WLx h h1 ∧ AtM h1 v n q ∧ ((E L scr (d + 3) 210 [vR 900012 0, vL (lN (wdK.getD s 0))] h = some (some (vI 1), h1) ∧ (∃ g, lex v n p = (s, g) :: lex v n q) ∧ pTk s (lex v n p) = .inl (lex v n q) ∧ hdP (lex v n p) ≤ hdP (lex v n q)) ∨ (E L scr (d + 3) 210 [vR 900012 0, vL (lN (wdK.getD s 0))] h = some (some (vI 0), h1) ∧ pTk s (lex v n p) = .inr (hdP (lex v n q)) ∧ lex v n q = lex v n p ∧ ∀ g r, lex v n p ≠ (s, g) :: r)) := by
  obtain ⟨t, g, r, e⟩ := lexNE (v := v) (n := n) (p := p)
  obtain ⟨h1, q, e1, u1, a1, l1⟩ := c_M_takes (L := L) (scr := scr) (d := d) hs a e
  refine ⟨h1, q, u1, a1, ?_⟩
  rw [e]
  by_cases z : t = s
  · rw [if_pos z] at l1
    have gp : GapL ((t, g) :: r) := by rw [← e]; exact lex_gap a.2.1
    have ok : OkL ((t, g) :: r) := by rw [← e]; exact (lex_ok a.1.1).1
    obtain ⟨g1, -, -⟩ := gap_t gp (ok.2.elim (fun z => by omega) (fun z => z.2))
    refine Or.inl ⟨by rw [e1, decide_eq_true z]; rfl, ⟨g, by rw [l1, z]⟩, ?_, by rw [l1]; show g ≤ _; omega⟩
    rw [l1]; exact if_pos z
  · rw [if_neg z] at l1
    refine Or.inr ⟨by rw [e1, decide_eq_false z]; rfl, ?_, l1, fun g2 r2 y => ?_⟩
    · rw [l1]; exact if_neg z
    · injection y with y _; injection y with y _; exact z y
theorem m_sg {c : Nat} (hc : isSg c) {h : MH} {v : Nat → Nat} {n p : Nat} (a : AtM h v n p) : ∃ h1 q, Upd WLx h h1 ∧ AtM h1 v n q ∧ ((E L scr (d + 2) 211 [vR 900012 0, vI (nI c)] h = some (some (vI 1), h1) ∧ pTk c (lex v n p) = .inl (lex v n q) ∧ hdP (lex v n p) ≤ hdP (lex v n q)) ∨ (E L scr (d + 2) 211 [vR 900012 0, vI (nI c)] h = some (some (vI 0), h1) ∧ pTk c (lex v n p) = .inr (hdP (lex v n q)))) := by
  obtain ⟨t, g, r, e⟩ := lexNE (v := v) (n := n) (p := p)
  obtain ⟨h1, q, e1, u1, a1, l1⟩ := c_M_takesSign (L := L) (scr := scr) (d := d) hc a e
  refine ⟨h1, q, u1, a1, ?_⟩
  rw [e]
  by_cases z : t = c
  · rw [if_pos z] at l1
    have gp : GapL ((t, g) :: r) := by rw [← e]; exact lex_gap a.2.1
    have ok : OkL ((t, g) :: r) := by rw [← e]; exact (lex_ok a.1.1).1
    obtain ⟨g1, -, -⟩ := gap_t gp (ok.2.elim (fun z => by omega) (fun z => z.2))
    refine Or.inl ⟨by rw [e1, decide_eq_true z]; rfl, ?_, by rw [l1]; show g ≤ _; omega⟩
    rw [l1]; exact if_pos z
  · rw [if_neg z] at l1
    refine Or.inr ⟨by rw [e1, decide_eq_false z]; rfl, ?_⟩
    rw [l1]; exact if_neg z
theorem m_says {h : MH} {i x : Nat} (hi : i < 64) : E L scr (d + 1) 219 [vR 900012 0, vI (nI i), vI (nI x)] h = some (none, sI h 1308000384 0 (320 + i) (nI x)) := by
  refine r_M_says _ _ _ _ (Sm.ret ?_)
  rw [t_M_says_0, show (320 : Int32) = nI 320 from rfl, nI_add, wr_M_law (oob_nI (by omega) (by decide)), ix_nI (by omega)]
theorem AtM.rw' {h h2 : MH} {v : Nat → Nat} {n p : Nat} {W : List (Nat × Nat)} (u : Upd W h h2) (hd : ∀ q ∈ [(1304, 0), (1323100900, 0), (1305, 0)], q ∉ W) (a : AtM h v n p) : AtM h2 v n p := by
  refine ⟨TxV.fr u (fun q hq => hd q ?_) a.1, a.2.1, by rw [u.2 _ _ (hd _ (by decide))]; exact a.2.2⟩
  exact (by decide : ∀ q, q ∈ [(1304, 0), (1323100900, 0)] → q ∈ [(1304, 0), (1323100900, 0), (1305, 0)]) q hq
theorem AtM.law {h : MH} {v : Nat → Nat} {n p i : Nat} {x : Int32} (a : AtM h v n p) : AtM (sI h 1308000384 0 i x) v n p := a.rw' (W := [(1308000384, 0)]) ((Upd.rf _ h).sI (by decide)) (by decide)
theorem setN_comm {S : LSt} {i j x y : Nat} (h : i ≠ j) : setN (setN S i x) j y = setN (setN S j y) i x := by
  show (upN (upN S.1 i x) j y, S.2) = (upN (upN S.1 j y) i x, S.2)
  refine congrArg (fun f => (f, S.2)) ?_
  funext c
  unfold upN
  by_cases a : c = j
  · rw [if_pos a, if_neg (by omega), if_pos a]
  · rw [if_neg a, if_neg a]
theorem m_each {h : MH} {v : Nat → Nat} {n p i b : Nat} {S : LSt} (hi : i < 64) (a : AtM h v n p) (lw : LwM h b S) : ∃ h1 q, UM h h1 ∧ AtM h1 v n q ∧ ((∃ x l2, E L scr (d + 4) 220 [vR 900012 0, vI (nI i)] h = some (some (vI 1), h1) ∧ pTk 16 (lex v n p) = .inl l2 ∧ pNum 1 240 l2 = .inl (lex v n q, x) ∧ hdP (lex v n p) ≤ hdP (lex v n q) ∧ LwM h1 b (setN S i x)) ∨ (E L scr (d + 4) 220 [vR 900012 0, vI (nI i)] h = some (some (vI 0), h1) ∧ (pTk 16 (lex v n p) = .inr (hdP (lex v n q)) ∨ ∃ l2, pTk 16 (lex v n p) = .inl l2 ∧ pNum 1 240 l2 = .inr (hdP (lex v n q))))) := by
  obtain ⟨h1, q1, u1, a1, ⟨e1, -, p1, y1⟩ | ⟨e1, p1, -, -⟩⟩ := m_wd (L := L) (scr := scr) (d := d) (s := 16) (by decide) a
  · obtain ⟨h2, q2, u2, a2, ⟨x2, e2, p2, r2, y2, z1, z2⟩ | ⟨e2, p2⟩⟩ := m_num (L := L) (scr := scr) (d := d + 1) (lo := 1) (hi := 240) (by decide) (by decide) a1
    · refine ⟨sI h2 1308000384 0 (320 + i) (nI x2), q2, (u1.tr u2).um.law, a2.law, Or.inl ⟨x2, _, r_M_eachTold (d := d + 3) _ _ _ (Sm.ret ?_), p1, p2, by omega, ((lw.lx u1).lx u2).nm⟩⟩
      replace e1 : E L scr (d + 3) 210 [vR 900012 0, vL 1700881256] h = some (some (vI 1), h1) := e1
      replace e2 : E L scr (d + 3) 212 [vR 900012 0, vI 1, vI 240] h1 = some (some (vI 1), h2) := e2
      rw [t_M_eachTold_0, e1, clI_ok, if_neg i0n1, e2, clI_ok, if_neg i0n1, r2, m_says hi, clV_ok, rtZ1]
    · refine ⟨h2, q2, (u1.tr u2).um, a2, Or.inr ⟨r_M_eachTold (d := d + 3) _ _ _ (Sm.ret ?_), Or.inr ⟨_, p1, p2⟩⟩⟩
      replace e1 : E L scr (d + 3) 210 [vR 900012 0, vL 1700881256] h = some (some (vI 1), h1) := e1
      replace e2 : E L scr (d + 3) 212 [vR 900012 0, vI 1, vI 240] h1 = some (some (vI 0), h2) := e2
      rw [t_M_eachTold_0, e1, clI_ok, if_neg i0n1, e2, clI_ok, if_pos rfl, rtZ0]
  · refine ⟨h1, q1, u1.um, a1, Or.inr ⟨r_M_eachTold (d := d + 3) _ _ _ (Sm.ret ?_), Or.inl p1⟩⟩
    replace e1 : E L scr (d + 3) 210 [vR 900012 0, vL 1700881256] h = some (some (vI 0), h1) := e1
    rw [t_M_eachTold_0, e1, clI_ok, if_pos rfl, rtZ0]
theorem m_price {h : MH} {v : Nat → Nat} {n p b : Nat} {S : LSt} (a : AtM h v n p) (lw : LwM h b S) (b3 : 3 * b ≤ hdP (lex v n p) + 6750) : ∃ h2, E L scr (d + 5) 221 [vR 900012 0] h = some (some (vI (zb (okR (pPrice S (lex v n p))))), h2) ∧ UM h h2 ∧ KM h2 v n (pPrice S (lex v n p)) := by
  unfold pPrice
  obtain ⟨h1, q1, u1, a1, ⟨x1, e1, p1, r1, y1, -, z1⟩ | ⟨e1, p1⟩⟩ := m_num (L := L) (scr := scr) (d := d + 2) (lo := 0) (hi := 3) (by decide) (by decide) a
  · rw [bd_l p1]
    replace e1 : E L scr (d + 4) 212 [vR 900012 0, vI 0, vI 3] h = some (some (vI 1), h1) := e1
    obtain ⟨h2, q2, u2, a2, ⟨x2, e2, p2, r2, y2, -, z2⟩ | ⟨e2, p2⟩⟩ := m_num (L := L) (scr := scr) (d := d + 2) (lo := 0) (hi := 999) (by decide) (by decide) a1
    · rw [bd_l p2]
      replace e2 : E L scr (d + 4) 212 [vR 900012 0, vI 0, vI 999] h1 = some (some (vI 1), h2) := e2
      have ea : (4 : Int32) + nI x1 = nI (4 + x1) := by rw [show (4 : Int32) = nI 4 from rfl, nI_add]
      obtain ⟨h3, q3, u3, a3, ⟨x3, l3, e3, p3, p4, y3, lw3⟩ | ⟨e3, p3⟩⟩ := m_each (L := L) (scr := scr) (d := d) (i := 4 + x1) (by omega) a2 ((lw.lx u1).lx u2)
      · rw [bd_l p3, bd_l p4]
        refine ⟨sI h3 1308000384 0 (320 + x1) (nI x2), r_M_priceTold (d := d + 4) _ _ (Sm.ret ?_), ((u1.tr u2).um.tr u3).law, q3, b, a3.law, rfl, by show 3 * b ≤ hdP (lex v n q3) + 6750; omega, ?_⟩
        · rw [t_M_priceTold_0, e1, clI_ok, if_neg i0n1, e2, clI_ok, if_neg i0n1, r1, ea, e3, clI_ok, if_neg i0n1, r2, m_says (by omega), clV_ok, rtZ1]; rfl
        · show LwM _ b (setN (setN S x1 x2) (4 + x1) x3)
          rw [setN_comm (by omega)]; exact lw3.nm
      · refine ⟨h3, r_M_priceTold (d := d + 4) _ _ (Sm.ret ?_), (u1.tr u2).um.tr u3, ?_⟩
        · rw [t_M_priceTold_0, e1, clI_ok, if_neg i0n1, e2, clI_ok, if_neg i0n1, r1, ea, e3, clI_ok, if_pos rfl, rtZ0]
          rcases p3 with p3 | ⟨l3, p3, p4⟩
          · rw [bd_r p3]; rfl
          · rw [bd_l p3, bd_r p4]; rfl
        · rcases p3 with p3 | ⟨l3, p3, p4⟩
          · rw [bd_r p3]; exact ⟨q3, a3, rfl⟩
          · rw [bd_l p3, bd_r p4]; exact ⟨q3, a3, rfl⟩
    · rw [bd_r p2]
      replace e2 : E L scr (d + 4) 212 [vR 900012 0, vI 0, vI 999] h1 = some (some (vI 0), h2) := e2
      refine ⟨h2, r_M_priceTold (d := d + 4) _ _ (Sm.ret ?_), (u1.tr u2).um, q2, a2, rfl⟩
      rw [t_M_priceTold_0, e1, clI_ok, if_neg i0n1, e2, clI_ok, if_pos rfl, rtZ0]; rfl
  · rw [bd_r p1]
    replace e1 : E L scr (d + 4) 212 [vR 900012 0, vI 0, vI 3] h = some (some (vI 0), h1) := e1
    refine ⟨h1, r_M_priceTold (d := d + 4) _ _ (Sm.ret ?_), u1.um, q1, a1, rfl⟩
    rw [t_M_priceTold_0, e1, clI_ok, if_pos rfl, rtZ0]; rfl
theorem m_deposit {h : MH} {v : Nat → Nat} {n p b : Nat} {S : LSt} (a : AtM h v n p) (lw : LwM h b S) (b3 : 3 * b ≤ hdP (lex v n p) + 6750) : ∃ h2, E L scr (d + 5) 222 [vR 900012 0] h = some (some (vI (zb (okR (pDeposit S (lex v n p))))), h2) ∧ UM h h2 ∧ KM h2 v n (pDeposit S (lex v n p)) := by
  unfold pDeposit
  obtain ⟨h1, q1, u1, a1, ⟨x1, e1, p1, r1, y1, -, z1⟩ | ⟨e1, p1⟩⟩ := m_num (L := L) (scr := scr) (d := d + 2) (lo := 0) (hi := 3) (by decide) (by decide) a
  · rw [bd_l p1]
    replace e1 : E L scr (d + 4) 212 [vR 900012 0, vI 0, vI 3] h = some (some (vI 1), h1) := e1
    obtain ⟨h2, q2, u2, a2, ⟨x2, e2, p2, r2, y2, -, z2⟩ | ⟨e2, p2⟩⟩ := m_num (L := L) (scr := scr) (d := d + 2) (lo := 0) (hi := 999) (by decide) (by decide) a1
    · rw [bd_l p2]
      replace e2 : E L scr (d + 4) 212 [vR 900012 0, vI 0, vI 999] h1 = some (some (vI 1), h2) := e2
      have ea : (8 : Int32) + nI x1 = nI (8 + x1) := by rw [show (8 : Int32) = nI 8 from rfl, nI_add]
      refine ⟨sI h2 1308000384 0 (320 + (8 + x1)) (nI x2), r_M_depositTold (d := d + 4) _ _ (Sm.ret ?_), (u1.tr u2).um.law, q2, b, a2.law, rfl, by show 3 * b ≤ hdP (lex v n q2) + 6750; omega, ((lw.lx u1).lx u2).nm⟩
      rw [t_M_depositTold_0, e1, clI_ok, if_neg i0n1, e2, clI_ok, if_neg i0n1, r1, ea, r2, m_says (by omega), clV_ok, rtZ1]; rfl
    · rw [bd_r p2]
      replace e2 : E L scr (d + 4) 212 [vR 900012 0, vI 0, vI 999] h1 = some (some (vI 0), h2) := e2
      refine ⟨h2, r_M_depositTold (d := d + 4) _ _ (Sm.ret ?_), (u1.tr u2).um, q2, a2, rfl⟩
      rw [t_M_depositTold_0, e1, clI_ok, if_neg i0n1, e2, clI_ok, if_pos rfl, rtZ0]; rfl
  · rw [bd_r p1]
    replace e1 : E L scr (d + 4) 212 [vR 900012 0, vI 0, vI 3] h = some (some (vI 0), h1) := e1
    refine ⟨h1, r_M_depositTold (d := d + 4) _ _ (Sm.ret ?_), u1.um, q1, a1, rfl⟩
    rw [t_M_depositTold_0, e1, clI_ok, if_pos rfl, rtZ0]; rfl
theorem m_one {h : MH} {v : Nat → Nat} {n p b i hi : Nat} {S : LSt} (hi6 : i < 64) (hh : hi ≤ 999) (a : AtM h v n p) (lw : LwM h b S) (b3 : 3 * b ≤ hdP (lex v n p) + 6750) : ∃ h2, E L scr (d + 5) 225 [vR 900012 0, vI (nI i), vI (nI hi)] h = some (some (vI (zb (okR (pOneN i hi S (lex v n p))))), h2) ∧ UM h h2 ∧ KM h2 v n (pOneN i hi S (lex v n p)) := by
  unfold pOneN
  obtain ⟨h1, q1, u1, a1, ⟨x1, e1, p1, r1, y1, -, z1⟩ | ⟨e1, p1⟩⟩ := m_num (L := L) (scr := scr) (d := d + 2) (lo := 0) (hi := hi) (by decide) hh a
  · rw [bd_l p1]
    replace e1 : E L scr (d + 4) 212 [vR 900012 0, vI 0, vI (nI hi)] h = some (some (vI 1), h1) := e1
    refine ⟨sI h1 1308000384 0 (320 + i) (nI x1), r_M_oneTold (d := d + 4) _ _ _ _ (Sm.ret ?_), u1.um.law, q1, b, a1.law, rfl, by show 3 * b ≤ hdP (lex v n q1) + 6750; omega, (lw.lx u1).nm⟩
    rw [t_M_oneTold_0, e1, clI_ok, if_neg i0n1, r1, m_says hi6, clV_ok, rtZ1]; rfl
  · rw [bd_r p1]
    replace e1 : E L scr (d + 4) 212 [vR 900012 0, vI 0, vI (nI hi)] h = some (some (vI 0), h1) := e1
    refine ⟨h1, r_M_oneTold (d := d + 4) _ _ _ _ (Sm.ret ?_), u1.um, q1, a1, rfl⟩
    rw [t_M_oneTold_0, e1, clI_ok, if_pos rfl, rtZ0]; rfl
theorem m_right {h : MH} {v : Nat → Nat} {n p b : Nat} {S : LSt} (a : AtM h v n p) (lw : LwM h b S) (b3 : 3 * b ≤ hdP (lex v n p) + 6750) : ∃ h2, E L scr (d + 5) 224 [vR 900012 0] h = some (some (vI (zb (okR (pRight S (lex v n p))))), h2) ∧ UM h h2 ∧ KM h2 v n (pRight S (lex v n p)) := by
  unfold pRight
  obtain ⟨h1, q1, u1, a1, ⟨x1, e1, p1, r1, y1, -, z1⟩ | ⟨e1, p1⟩⟩ := m_num (L := L) (scr := scr) (d := d + 2) (lo := 0) (hi := 9) (by decide) (by decide) a
  · rw [bd_l p1]
    replace e1 : E L scr (d + 4) 212 [vR 900012 0, vI 0, vI 9] h = some (some (vI 1), h1) := e1
    obtain ⟨h2, q2, u2, a2, ⟨x2, e2, p2, r2, y2, -, z2⟩ | ⟨e2, p2⟩⟩ := m_num (L := L) (scr := scr) (d := d + 2) (lo := 0) (hi := 3) (by decide) (by decide) a1
    · rw [bd_l p2]
      replace e2 : E L scr (d + 4) 212 [vR 900012 0, vI 0, vI 3] h1 = some (some (vI 1), h2) := e2
      obtain ⟨h3, q3, u3, a3, ⟨x3, e3, p3, r3, y3, -, z3⟩ | ⟨e3, p3⟩⟩ := m_num (L := L) (scr := scr) (d := d + 2) (lo := 1) (hi := 240) (by decide) (by decide) a2
      · rw [bd_l p3]
        replace e3 : E L scr (d + 4) 212 [vR 900012 0, vI 1, vI 240] h2 = some (some (vI 1), h3) := e3
        have ea : (20 : Int32) + 4 * nI x1 + nI x2 = nI (20 + 4 * x1 + x2) := by rw [show (20 : Int32) = nI 20 from rfl, show (4 : Int32) = nI 4 from rfl, nI_mul, nI_add, nI_add]
        refine ⟨sI h3 1308000384 0 (320 + (20 + 4 * x1 + x2)) (nI x3), r_M_rightTold (d := d + 4) _ _ (Sm.ret ?_), (u1.tr (u2.tr u3)).um.law, q3, b, a3.law, rfl, by show 3 * b ≤ hdP (lex v n q3) + 6750; omega, (((lw.lx u1).lx u2).lx u3).nm⟩
        rw [t_M_rightTold_0, e1, clI_ok, if_neg i0n1, e2, clI_ok, if_neg i0n1, e3, clI_ok, if_neg i0n1, r1, r2, ea, r3, m_says (by omega), clV_ok, rtZ1]; rfl
      · rw [bd_r p3]
        replace e3 : E L scr (d + 4) 212 [vR 900012 0, vI 1, vI 240] h2 = some (some (vI 0), h3) := e3
        refine ⟨h3, r_M_rightTold (d := d + 4) _ _ (Sm.ret ?_), (u1.tr (u2.tr u3)).um, q3, a3, rfl⟩
        rw [t_M_rightTold_0, e1, clI_ok, if_neg i0n1, e2, clI_ok, if_neg i0n1, e3, clI_ok, if_pos rfl, rtZ0]; rfl
    · rw [bd_r p2]
      replace e2 : E L scr (d + 4) 212 [vR 900012 0, vI 0, vI 3] h1 = some (some (vI 0), h2) := e2
      refine ⟨h2, r_M_rightTold (d := d + 4) _ _ (Sm.ret ?_), (u1.tr u2).um, q2, a2, rfl⟩
      rw [t_M_rightTold_0, e1, clI_ok, if_neg i0n1, e2, clI_ok, if_pos rfl, rtZ0]; rfl
  · rw [bd_r p1]
    replace e1 : E L scr (d + 4) 212 [vR 900012 0, vI 0, vI 9] h = some (some (vI 0), h1) := e1
    refine ⟨h1, r_M_rightTold (d := d + 4) _ _ (Sm.ret ?_), u1.um, q1, a1, rfl⟩
    rw [t_M_rightTold_0, e1, clI_ok, if_pos rfl, rtZ0]; rfl
theorem m_late {h : MH} {v : Nat → Nat} {n p b : Nat} {S : LSt} (a : AtM h v n p) (lw : LwM h b S) (b3 : 3 * b ≤ hdP (lex v n p) + 6750) : ∃ h2, E L scr (d + 5) 223 [vR 900012 0] h = some (some (vI (zb (okR (pLate S (lex v n p))))), h2) ∧ UM h h2 ∧ KM h2 v n (pLate S (lex v n p)) := by
  unfold pLate
  obtain ⟨h1, q1, u1, a1, ⟨x1, e1, p1, r1, y1, -, z1⟩ | ⟨e1, p1⟩⟩ := m_num (L := L) (scr := scr) (d := d + 2) (lo := 0) (hi := 999) (by decide) (by decide) a
  · rw [bd_l p1]
    replace e1 : E L scr (d + 4) 212 [vR 900012 0, vI 0, vI 999] h = some (some (vI 1), h1) := e1
    obtain ⟨h2, hh2⟩ : ∃ h2, h2 = sI h1 1308000384 0 (320 + 12) (nI x1) := ⟨_, rfl⟩
    have a2 : AtM h2 v n q1 := by rw [hh2]; exact a1.law
    have lw2 : LwM h2 b (setN S 12 x1) := by rw [hh2]; exact (lw.lx u1).nm
    have u2 : UM h h2 := by rw [hh2]; exact u1.um.law
    have e2 : E L scr (d + 4) 219 [vR 900012 0, vI 12, vI (nI x1)] h1 = some (none, h2) := by rw [hh2]; exact m_says (i := 12) (by decide)
    obtain ⟨h3, q3, u3, a3, ⟨x3, l3, e3, p3, p4, y3, lw3⟩ | ⟨e3, p3⟩⟩ := m_each (L := L) (scr := scr) (d := d) (i := 13) (by decide) a2 lw2
    · replace e3 : E L scr (d + 4) 220 [vR 900012 0, vI 13] h2 = some (some (vI 1), h3) := e3
      rw [bd_l p3, bd_l p4]
      obtain ⟨h4, q4, u4, a4, ⟨e4, -, p5, y4⟩ | ⟨e4, p5, -, -⟩⟩ := m_wd (L := L) (scr := scr) (d := d + 1) (s := 18) (by decide) a3
      · replace e4 : E L scr (d + 4) 210 [vR 900012 0, vL 444300616549] h3 = some (some (vI 1), h4) := e4
        rw [bd_l p5]
        obtain ⟨h5, q5, u5, a5, ⟨x5, e5, p6, r5, y5, -, z5⟩ | ⟨e5, p6⟩⟩ := m_num (L := L) (scr := scr) (d := d + 2) (lo := 0) (hi := 240) (by decide) (by decide) a4
        · replace e5 : E L scr (d + 4) 212 [vR 900012 0, vI 0, vI 240] h4 = some (some (vI 1), h5) := e5
          rw [bd_l p6]
          have e6 : E L scr (d + 4) 219 [vR 900012 0, vI 14, vI (nI x5)] h5 = some (none, sI h5 1308000384 0 (320 + 14) (nI x5)) := m_says (i := 14) (by decide)
          refine ⟨sI h5 1308000384 0 (320 + 14) (nI x5), r_M_lateTold (d := d + 4) _ _ (Sm.ret ?_), ((u2.tr u3).tr (u4.tr u5).um).law, q5, b, a5.law, rfl, by show 3 * b ≤ hdP (lex v n q5) + 6750; omega, ((lw3.lx u4).lx u5).nm⟩
          rw [t_M_lateTold_0, e1, clI_ok, if_neg i0n1, r1, e2, clV_ok, e3, clI_ok, if_neg i0n1, e4, clI_ok, if_neg i0n1, e5, clI_ok, if_neg i0n1, r5, e6, clV_ok, rtZ1]; rfl
        · replace e5 : E L scr (d + 4) 212 [vR 900012 0, vI 0, vI 240] h4 = some (some (vI 0), h5) := e5
          rw [bd_r p6]
          refine ⟨h5, r_M_lateTold (d := d + 4) _ _ (Sm.ret ?_), (u2.tr u3).tr (u4.tr u5).um, q5, a5, rfl⟩
          rw [t_M_lateTold_0, e1, clI_ok, if_neg i0n1, r1, e2, clV_ok, e3, clI_ok, if_neg i0n1, e4, clI_ok, if_neg i0n1, e5, clI_ok, if_pos rfl, rtZ0]; rfl
      · replace e4 : E L scr (d + 4) 210 [vR 900012 0, vL 444300616549] h3 = some (some (vI 0), h4) := e4
        rw [bd_r p5]
        refine ⟨h4, r_M_lateTold (d := d + 4) _ _ (Sm.ret ?_), (u2.tr u3).tr u4.um, q4, a4, rfl⟩
        rw [t_M_lateTold_0, e1, clI_ok, if_neg i0n1, r1, e2, clV_ok, e3, clI_ok, if_neg i0n1, e4, clI_ok, if_pos rfl, rtZ0]; rfl
    · replace e3 : E L scr (d + 4) 220 [vR 900012 0, vI 13] h2 = some (some (vI 0), h3) := e3
      refine ⟨h3, r_M_lateTold (d := d + 4) _ _ (Sm.ret ?_), u2.tr u3, ?_⟩
      · rw [t_M_lateTold_0, e1, clI_ok, if_neg i0n1, r1, e2, clV_ok, e3, clI_ok, if_pos rfl, rtZ0]
        rcases p3 with p3 | ⟨l3, p3, p4⟩
        · rw [bd_r p3]; rfl
        · rw [bd_l p3, bd_r p4]; rfl
      · rcases p3 with p3 | ⟨l3, p3, p4⟩
        · rw [bd_r p3]; exact ⟨q3, a3, rfl⟩
        · rw [bd_l p3, bd_r p4]; exact ⟨q3, a3, rfl⟩
  · rw [bd_r p1]
    replace e1 : E L scr (d + 4) 212 [vR 900012 0, vI 0, vI 999] h = some (some (vI 0), h1) := e1
    refine ⟨h1, r_M_lateTold (d := d + 4) _ _ (Sm.ret ?_), u1.um, q1, a1, rfl⟩
    rw [t_M_lateTold_0, e1, clI_ok, if_pos rfl, rtZ0]; rfl
end MRules

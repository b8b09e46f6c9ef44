/-! CALL: law -/
abbrev lawRows : List Nat := lcS ++ [701, 702000901, 703000901, 704, 705, 1203, 1204] ++ (WMz ++ WMl).map Prod.fst
/-- what stands over law() -/
def FrL (h h2 : MH) : Prop := (∀ a b, a ∉ lawRows → ¬ (600 ≤ a ∧ a < 700) → hI h2 a b = hI h a b) ∧ (∀ a b i, a ≠ 1201400005 → a ∉ lwR → hR h2 a b i = hR h a b i) ∧ hc h2 ≤ hc h + 10 ∧ hs h2 ≤ hs h + 529 ∧ ∀ a, a ≠ 900005 → a ∉ lwR → hC h2 a = hC h a ∧ hD h2 a = hD h a
theorem FrL.rf (h : MH) : FrL h h := ⟨fun _ _ _ _ => rfl, fun _ _ _ _ _ => rfl, by omega, by omega, fun _ _ _ => ⟨rfl, rfl⟩⟩
theorem FrL.up {h h1 h2 : MH} {W : List (Nat × Nat)} (f : FrL h h1) (u : Upd W h1 h2) (hw : ∀ q, q ∈ W → q.1 ∈ lawRows) : FrL h h2 := by
  obtain ⟨f1, f2, f3, f4, f5⟩ := f
  have e : h2.2 = h1.2 := u.1
  refine ⟨fun a b ha ha2 => by rw [u.2 a b (fun z => ha (hw _ z)), f1 a b ha ha2], fun a b i z1 z2 => by rw [u.R]; exact f2 a b i z1 z2, ?_, ?_, fun a z1 z2 => ?_⟩
  · have : hc h2 = hc h1 := by unfold hc; rw [e]
    omega
  · have : hs h2 = hs h1 := by unfold hs; rw [e]
    omega
  · have eD : hD h2 = hD h1 := by unfold hD; rw [e]
    rw [u.C, eD]; exact f5 a z1 z2
theorem OldL.rf (l : Nat) (h : MH) : OldL l h h := ⟨fun _ _ _ _ => rfl, fun _ _ => rfl, fun _ _ => rfl, fun _ _ _ _ => rfl, fun _ _ _ _ => rfl, fun _ _ => rfl, fun _ _ => rfl⟩
theorem OldL.tr {l : Nat} {a b c : MH} (x : OldL l a b) (y : OldL l b c) : OldL l a c := ⟨fun s hs k hk => (y.1 s hs k hk).trans (x.1 s hs k hk), fun k hk => (y.2.1 k hk).trans (x.2.1 k hk), fun k hk => (y.2.2.1 k hk).trans (x.2.2.1 k hk), fun s hs k hk => (y.2.2.2.1 s hs k hk).trans (x.2.2.2.1 s hs k hk), fun s hs k hk => (y.2.2.2.2.1 s hs k hk).trans (x.2.2.2.2.1 s hs k hk), fun k hk => (y.2.2.2.2.2.1 k hk).trans (x.2.2.2.2.2.1 k hk), fun k hk => (y.2.2.2.2.2.2 k hk).trans (x.2.2.2.2.2.2 k hk)⟩
/-- rows of the class's law l+1, and others that no law has -/
theorem OldL.of {l : Nat} {h h2 : MH} {W : List (Nat × Nat)} (u : Upd W h h2) (h1 : ∀ q, q ∈ W → q.1 ∈ lcS → q.2 = l + 1) (h3 : ∀ q, q ∈ W → q.1 ∉ [1308000384, 1310000006, 1317002700, 1318002700, 1319002700, 1309000006] ++ clS) : OldL l h h2 := by
  have e : ∀ s, s ∈ [1308000384, 1310000006, 1317002700, 1318002700, 1319002700, 1309000006] ++ clS → hI h2 s 0 = hI h s 0 := fun s hs => u.2 _ _ (fun z => h3 _ z hs)
  refine ⟨fun s hs b hb => u.2 _ _ (fun z => hb (h1 _ z hs)), fun c _ => by rw [e _ (by decide)], fun c _ => by rw [e _ (by decide)], fun s hs c _ => by rw [e s (List.mem_append_right _ hs)], fun s hs c _ => by rw [e s (List.mem_append_left _ ((by decide : ∀ s, s ∈ [1317002700, 1318002700, 1319002700] → s ∈ [1308000384, 1310000006, 1317002700, 1318002700, 1319002700, 1309000006]) s hs))], fun c _ => by rw [e _ (by decide)], fun k _ => by rw [u.R]⟩
/-- the reference's reading leaves laws that stand -/
theorem OldL.ms {l : Nat} {h h2 : MH} (hl : l < 5) (u : Upd WMz h h2) (f : FrD h h2) : OldL l h h2 := by
  obtain ⟨f1, f2, f3, f4⟩ := f
  refine ⟨fun s hs b _ => u.2 _ _ (fun z => (by decide : ∀ s, s ∈ lcS → s ∉ WMz.map Prod.fst) s hs (List.mem_map_of_mem (f := Prod.fst) z)), fun c hc => f1 c (by omega), fun c hc => f2 c (by omega), fun s hs c hc => f3 s hs c (by omega), fun s hs c hc => ?_, fun c _ => by rw [u.2 _ _ (by decide)], fun k _ => by rw [u.R]⟩
  obtain ⟨x1, x2, x3⟩ := f4 c (by omega)
  simp only [List.mem_cons, List.not_mem_nil, or_false] at hs
  rcases hs with rfl | rfl | rfl
  · exact x1
  · exact x2
  · exact x3
/-- the copy, too -/
theorem copy_rows {g : MH} {l R c : Nat} (dy : Int32) (hl : l < 5) (hR : R ≤ 40) (hc : c ≤ 300) {h2 : MH} (e : h2 = sI (sI (opH (clH (lwH g l R) l R) l c) 1309000006 0 l dy) 1300 0 0 (nI (l + 1))) : Upd WMl g h2 ∧ OldL l g h2 ∧ hI h2 1300 0 0 = nI (l + 1) ∧ hI h2 1309000006 0 l = dy ∧ (∀ j, j < 64 → hI h2 1308000384 0 (64 * l + j) = hI g 1308000384 0 (320 + j)) ∧ hI h2 1310000006 0 l = nI R ∧ (∀ i, i < R → hI h2 1311000240 0 (40 * l + i) = hI g 1311000240 0 (200 + i) ∧ hI h2 1312000240 0 (40 * l + i) = hI g 1312000240 0 (200 + i) ∧ hI h2 1313000240 0 (40 * l + i) = hI g 1313000240 0 (200 + i) ∧ hI h2 1314000240 0 (40 * l + i) = hI g 1314000240 0 (200 + i) ∧ hI h2 1315000240 0 (40 * l + i) = hI g 1315000240 0 (200 + i) + (450 : Int32) * (nI l - 5) ∧ hI h2 1316000240 0 (40 * l + i) = hI g 1316000240 0 (200 + i) + (450 : Int32) * (nI l - 5)) ∧ ∀ j, j < c → hI h2 1317002700 0 (450 * l + j) = hI g 1317002700 0 (2250 + j) ∧ hI h2 1318002700 0 (450 * l + j) = hI g 1318002700 0 (2250 + j) ∧ hI h2 1319002700 0 (450 * l + j) = hI g 1319002700 0 (2250 + j) := by
  obtain ⟨g1, hg1⟩ : ∃ g1, g1 = lwH g l R := ⟨_, rfl⟩
  obtain ⟨g2, hg2⟩ : ∃ g2, g2 = clH g1 l R := ⟨_, rfl⟩
  obtain ⟨g3, hg3⟩ : ∃ g3, g3 = opH g2 l c := ⟨_, rfl⟩
  rw [← hg1, ← hg2, ← hg3] at e
  have u1 : Upd [(1308000384, 0), (1310000006, 0)] g g1 := by
    rw [hg1]
    unfold lwH
    refine Upd.sI (withR_Upd (fun q hq => ?_)) (by decide)
    simp only [List.mem_cons, List.not_mem_nil, or_false] at hq
    rcases hq with rfl
    dsimp only; decide
  have u2 : Upd WCl g1 g2 := by rw [hg2]; exact clH_u
  have u3 : Upd [(1317002700, 0), (1318002700, 0), (1319002700, 0)] g2 g3 := by rw [hg3]; exact opH_u
  have u4 : Upd [(1309000006, 0), (1300, 0)] g3 h2 := by rw [e]; exact ((Upd.rf _ g3).sI (by decide)).sI (by decide)
  have L1 : hI g1 1308000384 0 = stO (hI g 1308000384 0) (64 * l) (fun j => hI g 1308000384 0 (320 + j)) 64 := by rw [hg1]; unfold lwH; rw [hI_rn (by decide), withR_hit]
  have L2 : hI g1 1310000006 0 = up (hI g 1310000006 0) l (nI R) := by rw [hg1]; unfold lwH; rw [hI_rs, withR_miss (by decide)]; rfl
  have s1 : ∀ s, s ∈ clS → hI g1 s 0 = hI g s 0 := fun s hs => u1.2 s 0 (fun z => (by decide : ∀ s, s ∈ clS → s ∉ [(1308000384, 0), (1310000006, 0)].map Prod.fst) s hs (List.mem_map_of_mem (f := Prod.fst) z))
  obtain ⟨k1, k2, k3, k4, k5, k6⟩ := clH_r (h := g1) (l := l) (k := R)
  rw [← hg2] at k1 k2 k3 k4 k5 k6
  rw [s1 _ (by decide)] at k1 k2 k3 k4 k5 k6
  obtain ⟨o1, o2, o3⟩ := opH_r (h := g2) (l := l) (k := c)
  rw [← hg3] at o1 o2 o3
  have op2 : ∀ s, s ∈ [1317002700, 1318002700, 1319002700] → hI g2 s 0 = hI g s 0 := fun s hs => by
    rw [u2.2 s 0 (fun z => (by decide : ∀ s, s ∈ [1317002700, 1318002700, 1319002700] → s ∉ WCl.map Prod.fst) s hs (List.mem_map_of_mem (f := Prod.fst) z)), u1.2 s 0 (fun z => (by decide : ∀ s, s ∈ [1317002700, 1318002700, 1319002700] → s ∉ [(1308000384, 0), (1310000006, 0)].map Prod.fst) s hs (List.mem_map_of_mem (f := Prod.fst) z))]
  rw [op2 _ (by decide)] at o1 o2 o3
  have e3 : ∀ s, s ∉ [1309000006, 1300] → hI h2 s 0 = hI g3 s 0 := fun s hs => u4.2 s 0 (fun z => hs (List.mem_map_of_mem (f := Prod.fst) z))
  have e2 : ∀ s, s ∈ clS → hI h2 s 0 = hI g2 s 0 := fun s hs => by
    rw [e3 s ((by decide : ∀ s, s ∈ clS → s ∉ [1309000006, 1300]) s hs), u3.2 s 0 (fun z => (by decide : ∀ s, s ∈ clS → s ∉ [(1317002700, 0), (1318002700, 0), (1319002700, 0)].map Prod.fst) s hs (List.mem_map_of_mem (f := Prod.fst) z))]
  have eL : hI h2 1308000384 0 = hI g1 1308000384 0 := by rw [e3 _ (by decide), u3.2 _ _ (by decide), u2.2 _ _ (by decide)]
  have eC : hI h2 1310000006 0 = hI g1 1310000006 0 := by rw [e3 _ (by decide), u3.2 _ _ (by decide), u2.2 _ _ (by decide)]
  have U : Upd WMl g h2 := (u1.mono (by decide)).tr ((u2.mono (by decide)).tr ((u3.mono (by decide)).tr (u4.mono (by decide))))
  have dd : hI h2 1309000006 0 = up (hI g 1309000006 0) l dy := by rw [e, hI_rn (by decide), hI_rs, u3.2 _ _ (by decide), u2.2 _ _ (by decide), u1.2 _ _ (by decide)]
  refine ⟨U, ⟨fun s hs b _ => U.2 _ _ (fun z => (by decide : ∀ s, s ∈ lcS → s ∉ WMl.map Prod.fst) s hs (List.mem_map_of_mem (f := Prod.fst) z)), fun k hk => by rw [eL, L1, stO_out (Or.inl hk)], fun k hk => by rw [eC, L2, up_n (by omega)], fun s hs k hk => ?_, fun s hs k hk => ?_, fun k hk => by rw [dd, up_n (by omega)], fun k _ => by rw [U.R]⟩, ?_, ?_, fun j hj => by rw [eL, L1, stO_in hj], by rw [eC, L2, up_s], fun i hi => ?_, fun j hj => ?_⟩
  · rw [e2 s hs]
    simp only [clS, List.mem_cons, List.not_mem_nil, or_false] at hs
    rcases hs with rfl | rfl | rfl | rfl | rfl | rfl
    · rw [k1, stO_out (Or.inl hk)]
    · rw [k2, stO_out (Or.inl hk)]
    · rw [k3, stO_out (Or.inl hk)]
    · rw [k4, stO_out (Or.inl hk)]
    · rw [k5, stO_out (Or.inl hk)]
    · rw [k6, stO_out (Or.inl hk)]
  · rw [e3 s ((by decide : ∀ s, s ∈ [1317002700, 1318002700, 1319002700] → s ∉ [1309000006, 1300]) s hs)]
    simp only [List.mem_cons, List.not_mem_nil, or_false] at hs
    rcases hs with rfl | rfl | rfl
    · rw [o1, stO_out (Or.inl hk)]
    · rw [o2, stO_out (Or.inl hk)]
    · rw [o3, stO_out (Or.inl hk)]
  · rw [e, hI_rs, up_s]
  · rw [dd, up_s]
  · rw [e2 1311000240 (by decide), e2 1312000240 (by decide), e2 1313000240 (by decide), e2 1314000240 (by decide), e2 1315000240 (by decide), e2 1316000240 (by decide), k1, k2, k3, k4, k5, k6, stO_in hi, stO_in hi, stO_in hi, stO_in hi, stO_in hi, stO_in hi]
    exact ⟨rfl, rfl, rfl, rfl, rfl, rfl⟩
  · rw [e3 1317002700 (by decide), e3 1318002700 (by decide), e3 1319002700 (by decide), o1, o2, o3, stO_in hj, stO_in hj, stO_in hj]
    exact ⟨rfl, rfl, rfl⟩

/-! CALLS: image, restore -/
/-- counts of the parts of States, with k images -/
def AlC (h : MH) (k : Nat) : Prop := (∀ X, X ∈ 900009 :: stX.map Prod.fst → hC h X = k + 1 ∧ hD h X = k + 1) ∧ ∀ s, s ∈ stRw → hC h s = k + 1
/-- rows that no State has -/
abbrev NoSt (a : Nat) : Prop := a ∉ stRw ∧ ∀ w, w ∈ 1000 :: stX.map Prod.snd → ¬ (w ≤ a ∧ a < w + 100)
/-- what an image holds, by rows of the reference -/
def vIm (s : MH) (a : Nat) : Nat → Int32 := if a = 1395000013 then fun i => hI s (mSc.getD i 0) 0 0 else hI s a 0
def RImg (h : MH) : Prop := ∃ k, k ≤ 3 ∧ hI h 1207 0 0 = nI k ∧ hI h 1392 0 0 = nI k ∧ AlC h k ∧ ∀ j, j < k → ∃ s, RIm s ∧ (∀ q, q ∈ tkAll → ∀ c, c < q.2 → hI h q.1 (j + 1) c = hI s q.1 0 c) ∧ Segs (vIm s) mL (4200 * j) (hI h 1394012600 0) ∧ hR h 1206500003 0 j = some (j + 1)
section Image
variable {L : Nat} {scr : Nat → Int32} {d : Nat}
theorem c_P_image {k : Nat} {h : MH} (hk : k < 3) (ei : hI h 1207 0 0 = nI k) (al : AlC h k) : ∃ g, E L scr (d + 4) 174 [vR 900011 0] h = some (some (vI (nI k)), g) ∧ AlC g (k + 1) ∧ hI g 1207 0 0 = nI (k + 1) ∧ (∀ a b, (a ≠ 1207 ∨ b ≠ 0) → (b ≠ k + 1 ∨ NoSt a) → hI g a b = hI h a b) ∧ (∀ q, q ∈ tkAll → ∀ c, c < q.2 → hI g q.1 (k + 1) c = hI h q.1 0 c) ∧ hR g 1206500003 0 k = some (k + 1) ∧ (∀ a b i, ¬ (a = 1206500003 ∧ b = 0 ∧ i = k) → (b ≠ k + 1 ∨ a ∉ stRw) → hR g a b i = hR h a b i) ∧ hc g = hc h + 49 ∧ hs g = hs h + 2871 ∧ ∀ a, a ∉ 900009 :: stX.map Prod.fst → a ∉ stRw → hC g a = hC h a ∧ hD g a = hD h a := by
  obtain ⟨a1, a2⟩ := al
  obtain ⟨c9, d9⟩ := a1 900009 (by decide)
  obtain ⟨g0, hg0⟩ : ∃ g0, g0 = newO h 900009 1000 6 := ⟨_, rfl⟩
  have C0 : ∀ a, hC g0 a = if a = 900009 then hC h a + 1 else hC h a := fun a => by rw [hg0, newO_C]
  have D0 : hD g0 = hD h := by rw [hg0]; rfl
  obtain ⟨g1, nc, ns, e1, O, hnc, hns⟩ := al_State (L := L) (scr := scr) (d := d) (h := g0) (o := k + 1) (by rw [C0, if_pos rfl, c9]) (fun X hX => by
    rw [C0, if_neg ((by decide : ∀ X, X ∈ stX.map Prod.fst → X ≠ 900009) X hX), D0]
    exact a1 X (List.mem_cons_of_mem _ hX)) (fun s hs => by
    rw [C0, if_neg ((by decide : ∀ s, s ∈ stRw → s ≠ 900009) s hs)]; exact a2 s hs)
  subst hnc; subst hns
  obtain ⟨o1, o2, o3, o4, o5, o6, o7⟩ := O
  have C1 : ∀ a, hC g1 a = (if a = 900009 then hC h a + 1 else hC h a) + (stX.map Prod.fst ++ stRw).count a := fun a => by rw [o1, C0]
  have I1 : ∀ a b, (b ≠ k + 1 ∨ NoSt a) → hI g1 a b = hI h a b := fun a b hb => by
    rw [o3 a b (hb.imp id (fun z => ⟨z.1, fun w hw => z.2 w (List.mem_cons_of_mem _ hw)⟩)), hg0]
    funext c
    show (if 1000 ≤ a ∧ a < 1000 + 100 ∧ b = hC h 900009 then (0 : Int32) else hI h a b c) = _
    refine if_neg (fun z => ?_)
    rcases hb with w | w
    · exact w (by rw [z.2.2, c9])
    · exact w.2 1000 List.mem_cons_self ⟨z.1, z.2.1⟩
  obtain ⟨g2, hg2⟩ : ∃ g2, g2 = whole g1 900009 (k + 1) := ⟨_, rfl⟩
  have I2 : ∀ a b, hI g2 a b = hI g1 a b := fun a b => by rw [hg2]; rfl
  obtain ⟨g3, hg3⟩ : ∃ g3, g3 = cpL (k + 1) 0 tkAll g2 := ⟨_, rfl⟩
  have eT : E L scr (d + 3) 106 [vR 900009 (k + 1), vR 900009 0] g2 = some (none, g3) := by rw [hg3]; exact tk_State (d := d + 1) (by omega)
  have W3 : g3.2 = g2.2 := by rw [hg3]; exact cpL_2
  have I3 : ∀ a b, (b ≠ k + 1 ∨ NoSt a) → hI g3 a b = hI h a b := fun a b hb => by
    rw [hg3, cpL_n (hb.imp id (fun z y => (by decide : ∀ a, a ∈ tkAll.map Prod.fst → ¬ NoSt a) a y z)), I2, I1 a b hb]
  have i3 : hI g3 1207 0 0 = nI k := by rw [I3 _ _ (Or.inl (by omega))]; exact ei
  obtain ⟨g4, hg4⟩ : ∃ g4, g4 = sR g3 1206500003 0 k (some (k + 1)) := ⟨_, rfl⟩
  have I4 : ∀ a b, hI g4 a b = hI g3 a b := fun a b => by rw [hg4]; rfl
  have i4 : hI g4 1207 0 0 = nI k := by rw [I4]; exact i3
  have CD : ∀ a, hC g4 a = hC g1 a ∧ hD g4 a = if a = 900009 then k + 2 else hD g1 a := fun a => by
    have e : g4.2.2.2.1 = g1.2.2.2.1 ∧ g4.2.2.2.2.1 = g2.2.2.2.2.1 := by rw [hg4]; show g3.2.2.2.1 = _ ∧ g3.2.2.2.2.1 = _; rw [W3, hg2]; exact ⟨rfl, rfl⟩
    refine ⟨congrFun e.1 a, ?_⟩
    show g4.2.2.2.2.1 a = _
    rw [e.2, hg2]; rfl
  have nn4 : hc g4 = hc g1 ∧ hs g4 = hs g1 := by
    rw [hg4]; show g3.2.2.2.2.2.2.1 = _ ∧ g3.2.2.2.2.2.2.2 = _; rw [W3, hg2]; exact ⟨rfl, rfl⟩
  have R4 : ∀ a b i, hR g4 a b i = if a = 1206500003 ∧ b = 0 ∧ i = k then some (k + 1) else hR g1 a b i := fun a b i => by
    rw [hg4]
    show (if a = 1206500003 ∧ b = 0 ∧ i = k then some (k + 1) else g3.2.2.1 a b i) = _
    rw [W3, hg2]; rfl
  refine ⟨sI g4 1207 0 0 (nI (k + 1)), r_P_image _ _ (Sm.ret ?_), ⟨fun X hX => ?_, fun s hs => ?_⟩, by rw [hI_rs, up_s], fun a b h1 h2 => ?_, fun q hq c hc => ?_, ?_, fun a b i h1 h2 => ?_, ?_, ?_, fun a h1 h2 => ?_⟩
  · have z1 : ∀ q ∈ List.range 100, Nat.testBit 63 q = true → hZ g1 900009 q = true := fun q hq hm => (o5 900009 q (by decide)).mpr (Or.inr ((by decide : ∀ q, q ∈ List.range 100 → Nat.testBit 63 q = true → ((900009 : Nat), q) ∈ [((900009 : Nat), 0), (900009, 1), (900009, 2), (900009, 3), (900009, 4), (900009, 5)]) q hq hm))
    have c1 : k + 1 + 1 = hC g1 900009 := by rw [C1, if_pos rfl, c9]; rfl
    have d1 : k + 1 = hD g1 900009 := by rw [o2, if_neg (by decide), D0, d9]
    rw [t_P_image_0, ei, if_pos (show nI k < 3 from nI_lt (b := 3) hk (by decide)), d9, c9, if_pos rfl, ← hg0, e1, clV_ok, if_pos ⟨rfl, c1, d1, z1⟩, ← hg2, eT, clV_ok, i3]
    have ew : ∀ K : MH → Option Exit, wrR 5 g3 1206500003 0 (nI k) (k + 1) K = K g4 := fun K => by
      rw [hg4]
      unfold wrR
      rw [if_pos ⟨rfl, oob_nI (N := 3) hk (by decide)⟩, ix_nI (by omega)]
    rw [ew, i4, nI_1, hI_rs, up_s, show nI (k + 1) - 1 = nI k from nI_pred k]
  · show hC g4 X = _ ∧ hD g4 X = _
    rw [(CD X).1, (CD X).2, C1, o2]
    rcases List.mem_cons.mp hX with z | z
    · subst z
      rw [if_pos rfl, if_pos rfl, c9]; exact ⟨rfl, rfl⟩
    · rw [if_neg ((by decide : ∀ X, X ∈ stX.map Prod.fst → X ≠ 900009) X z), if_neg ((by decide : ∀ X, X ∈ stX.map Prod.fst → X ≠ 900009) X z), if_pos z, (a1 X hX).1, (by decide : ∀ X, X ∈ stX.map Prod.fst → (stX.map Prod.fst ++ stRw).count X = 1) X z]
      exact ⟨rfl, rfl⟩
  · show hC g4 s = _
    rw [(CD s).1, C1, if_neg ((by decide : ∀ s, s ∈ stRw → s ≠ 900009) s hs), a2 s hs, (by decide : ∀ s, s ∈ stRw → (stX.map Prod.fst ++ stRw).count s = 1) s hs]
  · rw [hI_rn (fun z => h1.elim (fun y => y z.1) (fun y => y z.2)), I4, I3 a b h2]
  · have nq : ¬ (q.1 = 1207 ∧ k + 1 = 0) := fun z => by omega
    rw [hI_rn nq, I4, hg3, cpL_at (by omega) (by decide) hq, mgL hc, I2, I1 _ _ (Or.inl (by omega))]
  · show hR g4 1206500003 0 k = _
    rw [R4, if_pos ⟨rfl, rfl, rfl⟩]
  · show hR g4 a b i = _
    rw [R4, if_neg h1, o4 a b h2, hg0]; rfl
  · show hc g4 = _
    rw [nn4.1, o6, hg0]; show hc h + 1 + 48 = _; omega
  · show hs g4 = _
    rw [nn4.2, o7, hg0]; show hs h + 6 + 2865 = _; omega
  · show hC g4 a = _ ∧ hD g4 a = _
    have n9 : a ≠ 900009 := fun z => h1 (by rw [z]; exact List.mem_cons_self)
    have nx : a ∉ stX.map Prod.fst := fun z => h1 (List.mem_cons_of_mem _ z)
    rw [(CD a).1, (CD a).2, C1, if_neg n9, if_neg n9, o2, if_neg nx, D0, List.count_eq_zero.mpr (fun z => (List.mem_append.mp z).elim nx h2)]
    exact ⟨rfl, rfl⟩
end Image

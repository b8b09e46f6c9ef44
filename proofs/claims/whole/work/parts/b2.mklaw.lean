/-! LAWS: an object made -/
section MkLaw
variable {L : Nat} {scr : Nat → Int32} {d : Nat}
abbrev lwR : List Nat := alLaw.map Prod.fst
theorem mk_law {h : MH} {o : Nat} (c1 : hC h 900005 = o) (d1 : hD h 900005 = o) (hr : ∀ s, s ∈ lwR → hC h s = o) : ∃ g, E L scr (d + 2) 52 [vU 900005 o] (newO h 900005 600 17) = some (none, g) ∧ hC g 900005 = o + 1 ∧ hD g 900005 = o ∧ (∀ q ∈ List.range 100, Nat.testBit 96286 q = true → hZ g 900005 q = true) ∧ (∀ a, a ≠ 900005 → hC g a = hC h a + lwR.count a) ∧ (∀ a, hD g a = hD h a) ∧ (∀ a b, b ≠ o ∨ (a ∉ lwR ∧ ¬ (600 ≤ a ∧ a < 700)) → hI g a b = hI h a b) ∧ (∀ a b, b ≠ o ∨ a ∉ lwR → hR g a b = hR h a b) ∧ hc g = hc h + 10 ∧ hs g = hs h + 529 := by
  obtain ⟨g0, hg0⟩ : ∃ g0, g0 = newO h 900005 600 17 := ⟨_, rfl⟩
  have C0 : ∀ a, hC g0 a = if a = 900005 then hC h a + 1 else hC h a := fun a => by rw [hg0, newO_C]
  have r0 : ∀ s, s ∈ lwR → hC g0 s = o := fun s hs => by
    rw [C0, if_neg ((by decide : ∀ s, s ∈ lwR → s ≠ 900005) s hs)]; exact hr s hs
  have e1 := al_Law (L := L) (scr := scr) (d := d) (h := g0) (o := o) (by rw [C0, if_pos rfl, c1]) r0
  obtain ⟨g1, hg1⟩ : ∃ g1, g1 = alR 900005 alLaw1 g0 := ⟨_, rfl⟩
  obtain ⟨g2, hg2⟩ : ∃ g2, g2 = sI g1 606 o 0 60 := ⟨_, rfl⟩
  obtain ⟨g3, hg3⟩ : ∃ g3, g3 = alR 900005 alLaw2 g2 := ⟨_, rfl⟩
  rw [← hg1, ← hg2, ← hg3] at e1
  have C1 : ∀ a, hC g1 a = hC g0 a + (alLaw1.map Prod.fst).count a := fun a => by rw [hg1, alR_C]
  have C2 : ∀ a, hC g2 a = hC g1 a := fun a => by rw [hg2]; rfl
  have C3 : ∀ a, hC g3 a = hC g2 a + (alLaw2.map Prod.fst).count a := fun a => by rw [hg3, alR_C]
  have C : ∀ a, hC (withR g3 [(602000004, o, filF (hI g3 602000004 o) 60 4)]) a = hC g0 a + lwR.count a := fun a => by
    show hC g3 a = _
    rw [C3, C2, C1]
    have : lwR.count a = (alLaw1.map Prod.fst).count a + (alLaw2.map Prod.fst).count a := by
      rw [show lwR = alLaw1.map Prod.fst ++ alLaw2.map Prod.fst from rfl, List.count_append]
    omega
  have D : ∀ a, hD g3 a = hD h a := fun a => by rw [hg3, alR_D, hg2]; show hD g1 a = _; rw [hg1, alR_D, hg0]; rfl
  have s1 : ∀ s, s ∈ alLaw1.map Prod.fst → s ∈ lwR := by decide
  have s2 : ∀ s, s ∈ alLaw2.map Prod.fst → s ∈ lwR := by decide
  have h2 : ∀ s, s ∈ alLaw2.map Prod.fst → hC g2 s = o := fun s hs => by
    rw [C2, C1, r0 s (s2 s hs), List.count_eq_zero.mpr ((by decide : ∀ s, s ∈ alLaw2.map Prod.fst → s ∉ alLaw1.map Prod.fst) s hs)]; rfl
  rw [hg0] at e1
  refine ⟨_, e1, ?_, ?_, fun q hq hm => ?_, fun a ha => ?_, fun a => ?_, fun a b hb => ?_, fun a b hb => ?_, ?_, ?_⟩
  · rw [C, C0, if_pos rfl, c1, List.count_eq_zero.mpr (by decide)]
  · show hD g3 900005 = _
    rw [D]; exact d1
  · show hZ g3 900005 q = true
    rw [hg3]
    have := (by decide : ∀ q, q ∈ List.range 100 → Nat.testBit 96286 q = true → q ∈ alLaw1.map Prod.snd ∨ q ∈ alLaw2.map Prod.snd) q hq hm
    rcases this with z | z
    · refine alR_Z.mpr (Or.inl ?_)
      rw [hg2]
      show hZ g1 900005 q = true
      rw [hg1]
      exact alR_Z.mpr (Or.inr ⟨rfl, z⟩)
    · exact alR_Z.mpr (Or.inr ⟨rfl, z⟩)
  · rw [C, C0, if_neg ha]
  · exact D a
  · rw [withR_miss (fun z => ?_)]
    · show hI g3 a b = _
      rw [hg3, (alR_I (c := 900005) (o := o) (by decide) h2 (hb.imp id (fun z y => z.1 (s2 a y)))).1, hg2, hI_rn (fun z => ?_), hg1, (alR_I (c := 900005) (o := o) (by decide) (fun s hs => r0 s (s1 s hs)) (hb.imp id (fun z y => z.1 (s1 a y)))).1, hg0]
      · funext c
        show (if 600 ≤ a ∧ a < 600 + 100 ∧ b = hC h 900005 then (0 : Int32) else hI h a b c) = hI h a b c
        refine if_neg (fun z => ?_)
        rcases hb with w | w
        · exact w (by rw [z.2.2, c1])
        · exact w.2 ⟨z.1, z.2.1⟩
      · rcases hb with w | w
        · exact w z.2
        · exact w.2 ⟨by omega, by omega⟩
    · rcases hb with w | w
      · exact w z.2
      · exact w.1 (by rw [z.1]; decide)
  · show hR g3 a b = _
    rw [hg3, (alR_I (c := 900005) (o := o) (by decide) h2 (hb.imp id (fun z y => z (s2 a y)))).2, hg2]
    show hR g1 a b = _
    rw [hg1, (alR_I (c := 900005) (o := o) (by decide) (fun s hs => r0 s (s1 s hs)) (hb.imp id (fun z y => z (s1 a y)))).2, hg0]
    rfl
  · show hc g3 = _
    rw [hg3, alR_n.1, hg2]
    show hc g1 + _ = _
    rw [hg1, alR_n.1, hg0]
    show hc h + 1 + 4 + 5 = _; omega
  · show hs g3 = _
    rw [hg3, alR_n.2, hg2]
    show hs g1 + _ = _
    rw [hg1, alR_n.2, hg0]
    show hs h + 17 + (4 + (4 + (4 + (40 + 0)))) + (40 + (40 + (40 + (40 + (300 + 0))))) = _; omega
end MkLaw

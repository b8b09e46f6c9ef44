/-! THE RELATION at the start -/
theorem rel_start {h : MH} (q : SS iLM (900012 :: iDM) iVM 147 41152 h) : Rel h := by
  obtain ⟨q1, q2, q3, q4, -, -⟩ := q
  have v : ∀ a, hI h a 0 = vl iVM a := fun a => by rw [q3 a 0, if_pos rfl]
  have z : ∀ a, a ∉ [1330000100, 1307, 800000100, 1204, 602000004, 606] → hI h a 0 = fun _ => 0 := fun a ha => by rw [v a]; exact vl_n ha
  have o : ∀ v : Nat → Int32, ∀ k : Nat, k < 0 → v k = 0 := fun _ k hk => absurd hk (Nat.not_lt_zero k)
  have y : ∀ k : Nat, ∃ w, w ≤ 0 ∧ (0 : Int32) = nI w := fun _ => ⟨0, Nat.le_refl 0, rfl⟩
  have n0 : (0 : Int32) = nI 0 := rfl
  have nn : ∀ {P : Nat → Prop} (k : Nat), k < 0 → P k := fun k hk => absurd hk (Nat.not_lt_zero k)
  refine ⟨⟨?_, ?_, ?_, ?_, ?_, ?_, ?_, ?_, ?_, ?_, ?_, ?_, ?_, ?_, ?_, ?_⟩, ?_, ?_, ?_, ?_, ⟨?_, ?_, ?_, ?_⟩, ?_⟩
  · show hI h 800000100 0 = hI h 1330000100 0
    rw [v, v]
    show filF (fun _ => 0) 50 100 = filF (fun _ => 0) (nI 50) 100
    rfl
  · unfold RSpell
    rw [z _ (by decide), z _ (by decide), z _ (by decide), z _ (by decide), z _ (by decide), z _ (by decide), z _ (by decide), z _ (by decide)]
    exact ⟨rfl, rfl, rfl, 0, by omega, rfl, rfl, fun k hk => absurd hk (Nat.not_lt_zero k)⟩
  · unfold RWeed
    rw [z _ (by decide), z _ (by decide), z _ (by decide), z _ (by decide)]
    exact ⟨rfl, ⟨0, by omega, rfl, rfl⟩, fun k => Or.inl rfl⟩
  · unfold RNest
    rw [z _ (by decide), z _ (by decide), z _ (by decide), z _ (by decide), z _ (by decide), z _ (by decide), z _ (by decide), z _ (by decide)]
    exact ⟨rfl, rfl, rfl, 0, by omega, rfl, rfl⟩
  · unfold RRace
    rw [z _ (by decide), z _ (by decide), z _ (by decide), z _ (by decide), z _ (by decide), z _ (by decide), z _ (by decide), z _ (by decide), z _ (by decide), z _ (by decide)]
    exact ⟨rfl, rfl, rfl, rfl, 0, by omega, rfl, rfl, fun k hk => absurd hk (Nat.not_lt_zero k)⟩
  · unfold RDoubt
    rw [z _ (by decide), z _ (by decide), z _ (by decide), z _ (by decide)]
    exact ⟨0, 0, by omega, by omega, rfl, rfl, rfl, rfl⟩
  · unfold RChance
    rw [z _ (by decide), z _ (by decide)]
    exact ⟨rfl, fun k => ⟨0, by omega, rfl⟩⟩
  · unfold RLoyal
    rw [z _ (by decide), z _ (by decide), z _ (by decide), z _ (by decide)]
    exact ⟨rfl, 0, by omega, rfl, rfl, fun k => ⟨0, by omega, rfl⟩⟩
  · unfold RRoll
    rw [z _ (by decide), z _ (by decide), z _ (by decide), z _ (by decide), z _ (by decide), z _ (by decide)]
    exact ⟨rfl, rfl, 0, by omega, rfl, rfl, fun k => ⟨⟨0, by omega, rfl⟩, 0, by omega, rfl⟩⟩
  · unfold RGuide
    rw [z _ (by decide), z _ (by decide), z _ (by decide), z _ (by decide), z _ (by decide), z _ (by decide)]
    exact ⟨rfl, rfl, 0, by omega, rfl, rfl⟩
  · unfold RParty
    rw [z _ (by decide), z _ (by decide), z _ (by decide), z _ (by decide), z _ (by decide), z _ (by decide)]
    exact ⟨rfl, rfl, 0, by omega, rfl, rfl, fun k => ⟨0, by omega, rfl⟩⟩
  · unfold RBoat
    rw [z _ (by decide), z _ (by decide), z _ (by decide), z _ (by decide)]
    exact ⟨rfl, 0, by omega, rfl, rfl, fun k => ⟨0, by omega, rfl⟩⟩
  · unfold RDry
    rw [z _ (by decide), z _ (by decide), z _ (by decide), z _ (by decide), z _ (by decide)]
    exact ⟨rfl, rfl, ⟨0, by omega, rfl, fun k _ => rfl⟩, fun k => ⟨⟨0, by omega, rfl⟩, 0, by omega, rfl⟩, by decide⟩
  · unfold RFail
    rw [z _ (by decide), z _ (by decide), z _ (by decide), z _ (by decide)]
    exact ⟨rfl, rfl, fun k => ⟨⟨0, by omega, rfl⟩, 0, by omega, rfl⟩⟩
  · unfold RPass
    rw [z _ (by decide), z _ (by decide), z _ (by decide), z _ (by decide)]
    exact ⟨rfl, rfl, fun k => Or.inl rfl⟩
  · unfold RHire
    rw [z _ (by decide), z _ (by decide), z _ (by decide), z _ (by decide), z _ (by decide), z _ (by decide), z _ (by decide), z _ (by decide), z _ (by decide), z _ (by decide), z _ (by decide), z _ (by decide), z _ (by decide), z _ (by decide), z _ (by decide), z _ (by decide), z _ (by decide), z _ (by decide), z _ (by decide), z _ (by decide), z _ (by decide), z _ (by decide)]
    exact ⟨rfl, rfl, rfl, rfl, rfl, 0, 0, 0, by omega, by omega, by omega, rfl, rfl, rfl, rfl, rfl, ⟨fun k hk => absurd hk (Nat.not_lt_zero k), rfl⟩, fun i hi => absurd hi (Nat.not_lt_zero i), fun i j _ hj => absurd hj (Nat.not_lt_zero j)⟩
  · refine ⟨0, by omega, by rw [z _ (by decide)]; rfl, by rw [z _ (by decide)]; rfl, ⟨fun X hX => ?_, fun s hs => ?_⟩, fun j hj => absurd hj (Nat.not_lt_zero j)⟩
    · rw [q1, q2]
      exact (by decide : ∀ X, X ∈ 900009 :: stX.map Prod.fst → List.count X iLM = 0 + 1 ∧ List.count X (900012 :: iDM) = 0 + 1) X hX
    · rw [q1]
      exact (by decide : ∀ X, X ∈ stRw → List.count X iLM = 0 + 1) s hs
  · unfold RTape
    rw [z _ (by decide), z _ (by decide), z _ (by decide), z _ (by decide)]
    exact ⟨0, by omega, rfl, rfl, fun k hk => absurd hk (Nat.not_lt_zero k)⟩
  · show hI h 1204 0 0 = hI h 1307 0 0
    rw [v, v]
    rfl
  · unfold RCnt
    rw [z _ (by decide), z _ (by decide), z _ (by decide), z _ (by decide)]
    exact ⟨0, 0, by omega, by omega, rfl, rfl, rfl, rfl⟩
  · refine ⟨0, by omega, by rw [z _ (by decide)]; rfl, by rw [z _ (by decide)]; rfl, ⟨fun _ => 0, fun k hk => absurd hk (Nat.not_lt_zero k)⟩, fun k hk => absurd hk (Nat.not_lt_zero k), fun j hj => ?_, ?_, fun i hi => ?_⟩
    · rw [z 601000004 (by decide), v 602000004, z 603000004 (by decide)]
      have hj4 : j = 0 ∨ j = 1 ∨ j = 2 ∨ j = 3 := by omega
      rcases hj4 with rfl | rfl | rfl | rfl <;> exact ⟨rfl, rfl, rfl⟩
    · rw [z 605 (by decide), v 606, z 607 (by decide), z 608 (by decide), z 609 (by decide)]
      exact ⟨rfl, rfl, rfl, rfl, rfl⟩
    · rw [z 604000040 (by decide)]
      unfold bareF
      rw [if_neg (by omega), if_neg (by omega), if_neg (by omega)]
  · exact ⟨0, by omega, by rw [z _ (by decide)]; rfl, fun k hk => absurd hk (Nat.not_lt_zero k)⟩
  · exact ⟨⟨0, by omega, by rw [z _ (by decide)]; rfl, fun k hk => absurd hk (Nat.not_lt_zero k)⟩, by rw [z _ (by decide)]⟩
  · exact ⟨0, by omega, by rw [z _ (by decide)]; rfl, fun k hk => absurd hk (Nat.not_lt_zero k)⟩
  · refine ⟨0, 0, by rw [z _ (by decide)]; rfl, by omega, by omega, by omega, by omega, ?_, ?_, fun s hs => ?_, fun k hk => absurd hk (Nat.not_lt_zero k), fun k _ _ => q4 _ _ _⟩
    · rw [q1]; decide
    · rw [q2]; decide
    · rw [q1]
      exact (by decide : ∀ X, X ∈ alLaw.map Prod.fst → List.count X iLM = 0 + 1) s hs

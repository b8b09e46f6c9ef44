/-! The relation of laws stays when other rows change -/
abbrev lawS : List Nat := [600, 601000004, 602000004, 603000004, 604000040, 605, 606, 607, 608, 609]
abbrev SRule : List (Nat × Nat) := (1203, 0) :: (1300, 0) :: (1309000006, 0) :: (1308000384, 0) :: lawS.flatMap (fun s => [(s, 0), (s, 1), (s, 2), (s, 3), (s, 4), (s, 5)])
theorem lawS_mem : ∀ s ∈ lawS, ∀ m : Fin 6, (s, m.val) ∈ SRule := by decide
theorem LawEq.fr {W : List (Nat × Nat)} {h h2 : MH} {m : Nat} {f : Nat → Int32} (u : Upd W h h2) (hd : ∀ q ∈ SRule, q ∉ W) (hm : m ≤ 5) (q : LawEq h m f) : LawEq h2 m f := by
  have e : ∀ s, s ∈ lawS → hI h2 s m = hI h s m := fun s hs => u.2 _ _ (hd _ (lawS_mem s hs ⟨m, by omega⟩))
  unfold LawEq
  rw [e 601000004 (by decide), e 602000004 (by decide), e 603000004 (by decide), e 604000040 (by decide), e 605 (by decide), e 606 (by decide), e 607 (by decide), e 608 (by decide), e 609 (by decide)]
  exact q
theorem RRule.fr {W : List (Nat × Nat)} {h h2 : MH} (u : Upd W h h2) (hd : ∀ q ∈ SRule, q ∉ W) (r : RRule h) : RRule h2 := by
  obtain ⟨n, hn, e, m, ⟨dy, hk⟩, hl, hb⟩ := r
  have a1 : hI h2 1203 0 = hI h 1203 0 := u.2 _ _ (hd _ (by decide))
  have a2 : hI h2 1300 0 = hI h 1300 0 := u.2 _ _ (hd _ (by decide))
  have a3 : hI h2 1309000006 0 = hI h 1309000006 0 := u.2 _ _ (hd _ (by decide))
  have a4 : hI h2 1308000384 0 = hI h 1308000384 0 := u.2 _ _ (hd _ (by decide))
  refine ⟨n, hn, by rw [a1]; exact e, by rw [a2]; exact m, ⟨dy, fun k kn => ?_⟩, fun k kn => ?_, hb.fr u hd (Nat.zero_le _)⟩
  · obtain ⟨h1, h3, h4, h5⟩ := hk k kn
    refine ⟨h1, by rw [u.R]; exact h3, ?_, by rw [a3]; exact h5⟩
    rw [u.2 _ _ (hd _ (lawS_mem 600 (by decide) ⟨k + 1, by omega⟩))]; exact h4
  · rw [a4]
    exact (hl k kn).fr u hd (by omega)
theorem SRule_Scr : ∀ q ∈ SRule, q ∉ Scr := by decide

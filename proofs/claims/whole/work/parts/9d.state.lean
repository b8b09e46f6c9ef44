/-! ALLOCATION: a State (printed by wip/whole/emitstate.py) -/
abbrev stX : List (Nat × Nat) := [(900001, 200), (900007, 800), (900002, 300), (900008, 900), (900004, 500), (900003, 400)]
abbrev stRw : List Nat := alBook.map Prod.fst ++ alRiver.map Prod.fst ++ alDemand.map Prod.fst ++ alRoller.map Prod.fst ++ alGuides.map Prod.fst ++ alDock.map Prod.fst
theorem newO_C {h : MH} {X w N a : Nat} : hC (newO h X w N) a = if a = X then hC h a + 1 else hC h a := rfl
section AllocState
variable {L : Nat} {scr : Nat → Int32} {d : Nat}
theorem Obs.row {Xs : List (Nat × Nat)} {ls : List Nat} {zs : List (Nat × Nat)} {o nc ns s : Nat} {f : Nat → Int32} {h g : MH} (x : Obs Xs ls zs o nc ns h g) (hs : s ∈ ls) : Obs Xs ls zs o nc ns h (withR g [(s, o, f)]) := by
  obtain ⟨x1, x2, x3, x4, x5, x6, x7⟩ := x
  refine ⟨x1, x2, fun a b hb => ?_, x4, x5, x6, x7⟩
  rw [← x3 a b hb, withR_miss (fun z => ?_)]
  · rfl
  · rcases hb with w | ⟨w1, -⟩
    · exact w z.2
    · exact w1 (by rw [z.1]; exact hs)
theorem Obs.z0 {o : Nat} {h : MH} : Obs [] [] [] o 0 0 h h := ⟨fun _ => rfl, fun _ => rfl, fun _ _ _ => rfl, fun _ _ _ => rfl, fun a k _ => ⟨Or.inl, fun z => z.elim id (fun y => nomatch y)⟩, rfl, rfl⟩
theorem al_State {h : MH} {o : Nat} (hP : hC h 900009 = o + 1) (hX : ∀ X, X ∈ stX.map Prod.fst → hC h X = o ∧ hD h X = o) (hl : ∀ s, s ∈ stRw → hC h s = o) : ∃ g nc ns, E L scr (d + 3) 105 [vU 900009 o] h = some (none, g) ∧ Obs stX stRw [(900009, 0), (900009, 1), (900009, 2), (900009, 3), (900009, 4), (900009, 5)] o nc ns h g ∧ nc = 48 ∧ ns = 2865 := by
  have O0 : Obs [] [] [] o 0 0 h h := Obs.z0
  have X0 : hC h 900001 = o := by rw [O0.1, (hX 900001 (by decide)).1]; rfl
  have D0 : hD h 900001 = o := by rw [O0.2.1, if_neg (by decide), (hX 900001 (by decide)).2]
  have L0 : ∀ s, s ∈ alBook.map Prod.fst → hC h s = o := fun s hs => by
    rw [O0.1, hl s ((by decide : ∀ s, s ∈ alBook.map Prod.fst → s ∈ stRw) s hs)]
    refine (congrArg (o + ·) (List.count_eq_zero.mpr ?_)).trans (Nat.add_zero o)
    exact (by decide : ∀ s, s ∈ alBook.map Prod.fst → s ∉ ([] ++ ([]) : List Nat)) s hs
  have LN0 : ∀ s, s ∈ alBook.map Prod.fst → hC (newO h 900001 200 16) s = o := fun s hs => by
    rw [newO_C, if_neg ((by decide : ∀ s, s ∈ alBook.map Prod.fst → s ≠ 900001) s hs)]; exact L0 s hs
  have XN0 : hC (newO h 900001 200 16) 900001 = o + 1 := by rw [newO_C, if_pos rfl, X0]
  have e0 := al_Book (L := L) (scr := scr) (d := d) (h := newO h 900001 200 16) (o := o) XN0 LN0
  have c0 : hC (alR 900001 alBook (newO h 900001 200 16)) 900001 = o + 1 := by show hC (alR 900001 alBook (newO h 900001 200 16)) 900001 = _; rw [alR_C, XN0]; rfl
  have d0 : hD (alR 900001 alBook (newO h 900001 200 16)) 900001 = o := by show hD (alR 900001 alBook (newO h 900001 200 16)) 900001 = _; rw [alR_D]; exact D0
  have z0 : ∀ q ∈ List.range 100, Nat.testBit 15354 q = true → hZ (alR 900001 alBook (newO h 900001 200 16)) 900001 q = true := fun q hq hm => by
    show hZ (alR 900001 alBook (newO h 900001 200 16)) 900001 q = true
    exact alR_Z.mpr (Or.inr ⟨rfl, (by decide : ∀ q, q ∈ List.range 100 → Nat.testBit 15354 q = true → q ∈ alBook.map Prod.snd) q hq hm⟩)
  have p0 : hC (whole (alR 900001 alBook (newO h 900001 200 16)) 900001 o) 900009 = o + 1 := by
    show hC (alR 900001 alBook (newO h 900001 200 16)) 900009 = _
    rw [alR_C, newO_C, if_neg (show ¬ (900009 : Nat) = 900001 by decide), O0.1, hP]; rfl
  obtain ⟨g1, hg1⟩ : ∃ g1, g1 = setZ (whole (alR 900001 alBook (newO h 900001 200 16)) 900001 o) 900009 0 := ⟨_, rfl⟩
  have O1 := O0.tr (Obs.tr (obs_al (w := 200) (N := 16) X0 L0 (by decide) (by decide)) (Obs.flag (P := 900009) (k := 0)))
  rw [← hg1] at O1
  have X1 : hC g1 900007 = o := by rw [O1.1, (hX 900007 (by decide)).1]; rfl
  have D1 : hD g1 900007 = o := by rw [O1.2.1, if_neg (by decide), (hX 900007 (by decide)).2]
  have L1 : ∀ s, s ∈ alRiver.map Prod.fst → hC g1 s = o := fun s hs => by
    rw [O1.1, hl s ((by decide : ∀ s, s ∈ alRiver.map Prod.fst → s ∈ stRw) s hs)]
    refine (congrArg (o + ·) (List.count_eq_zero.mpr ?_)).trans (Nat.add_zero o)
    exact (by decide : ∀ s, s ∈ alRiver.map Prod.fst → s ∉ ([900001] ++ (alBook.map Prod.fst) : List Nat)) s hs
  have LN1 : ∀ s, s ∈ alRiver.map Prod.fst → hC (newO g1 900007 800 16) s = o := fun s hs => by
    rw [newO_C, if_neg ((by decide : ∀ s, s ∈ alRiver.map Prod.fst → s ≠ 900007) s hs)]; exact L1 s hs
  have XN1 : hC (newO g1 900007 800 16) 900007 = o + 1 := by rw [newO_C, if_pos rfl, X1]
  have e1 := al_River (L := L) (scr := scr) (d := d) (h := newO g1 900007 800 16) (o := o) XN1 LN1
  have c1 : hC (withR (alR 900007 alRiver (newO g1 900007 800 16)) [(800000100, o, filF (hI (alR 900007 alRiver (newO g1 900007 800 16)) 800000100 o) 50 100)]) 900007 = o + 1 := by show hC (alR 900007 alRiver (newO g1 900007 800 16)) 900007 = _; rw [alR_C, XN1]; rfl
  have d1 : hD (withR (alR 900007 alRiver (newO g1 900007 800 16)) [(800000100, o, filF (hI (alR 900007 alRiver (newO g1 900007 800 16)) 800000100 o) 50 100)]) 900007 = o := by show hD (alR 900007 alRiver (newO g1 900007 800 16)) 900007 = _; rw [alR_D]; exact D1
  have z1 : ∀ q ∈ List.range 100, Nat.testBit 63325 q = true → hZ (withR (alR 900007 alRiver (newO g1 900007 800 16)) [(800000100, o, filF (hI (alR 900007 alRiver (newO g1 900007 800 16)) 800000100 o) 50 100)]) 900007 q = true := fun q hq hm => by
    show hZ (alR 900007 alRiver (newO g1 900007 800 16)) 900007 q = true
    exact alR_Z.mpr (Or.inr ⟨rfl, (by decide : ∀ q, q ∈ List.range 100 → Nat.testBit 63325 q = true → q ∈ alRiver.map Prod.snd) q hq hm⟩)
  have p1 : hC (whole (withR (alR 900007 alRiver (newO g1 900007 800 16)) [(800000100, o, filF (hI (alR 900007 alRiver (newO g1 900007 800 16)) 800000100 o) 50 100)]) 900007 o) 900009 = o + 1 := by
    show hC (alR 900007 alRiver (newO g1 900007 800 16)) 900009 = _
    rw [alR_C, newO_C, if_neg (show ¬ (900009 : Nat) = 900007 by decide), O1.1, hP]; rfl
  obtain ⟨g2, hg2⟩ : ∃ g2, g2 = setZ (whole (withR (alR 900007 alRiver (newO g1 900007 800 16)) [(800000100, o, filF (hI (alR 900007 alRiver (newO g1 900007 800 16)) 800000100 o) 50 100)]) 900007 o) 900009 1 := ⟨_, rfl⟩
  have O2 := O1.tr (Obs.tr (Obs.row (s := 800000100) (f := filF (hI (alR 900007 alRiver (newO g1 900007 800 16)) 800000100 o) 50 100) (obs_al (w := 800) (N := 16) X1 L1 (by decide) (by decide)) (by decide)) (Obs.flag (P := 900009) (k := 1)))
  replace O2 := show Obs _ _ _ _ _ _ h g2 from (by rw [hg2]; exact O2)
  have X2 : hC g2 900002 = o := by rw [O2.1, (hX 900002 (by decide)).1]; rfl
  have D2 : hD g2 900002 = o := by rw [O2.2.1, if_neg (by decide), (hX 900002 (by decide)).2]
  have L2 : ∀ s, s ∈ alDemand.map Prod.fst → hC g2 s = o := fun s hs => by
    rw [O2.1, hl s ((by decide : ∀ s, s ∈ alDemand.map Prod.fst → s ∈ stRw) s hs)]
    refine (congrArg (o + ·) (List.count_eq_zero.mpr ?_)).trans (Nat.add_zero o)
    exact (by decide : ∀ s, s ∈ alDemand.map Prod.fst → s ∉ ([900001, 900007] ++ (alBook.map Prod.fst ++ alRiver.map Prod.fst) : List Nat)) s hs
  have LN2 : ∀ s, s ∈ alDemand.map Prod.fst → hC (newO g2 900002 300 5) s = o := fun s hs => by
    rw [newO_C, if_neg ((by decide : ∀ s, s ∈ alDemand.map Prod.fst → s ≠ 900002) s hs)]; exact L2 s hs
  have XN2 : hC (newO g2 900002 300 5) 900002 = o + 1 := by rw [newO_C, if_pos rfl, X2]
  have e2 := al_Demand (L := L) (scr := scr) (d := d) (h := newO g2 900002 300 5) (o := o) XN2 LN2
  have c2 : hC (alR 900002 alDemand (newO g2 900002 300 5)) 900002 = o + 1 := by show hC (alR 900002 alDemand (newO g2 900002 300 5)) 900002 = _; rw [alR_C, XN2]; rfl
  have d2 : hD (alR 900002 alDemand (newO g2 900002 300 5)) 900002 = o := by show hD (alR 900002 alDemand (newO g2 900002 300 5)) 900002 = _; rw [alR_D]; exact D2
  have z2 : ∀ q ∈ List.range 100, Nat.testBit 29 q = true → hZ (alR 900002 alDemand (newO g2 900002 300 5)) 900002 q = true := fun q hq hm => by
    show hZ (alR 900002 alDemand (newO g2 900002 300 5)) 900002 q = true
    exact alR_Z.mpr (Or.inr ⟨rfl, (by decide : ∀ q, q ∈ List.range 100 → Nat.testBit 29 q = true → q ∈ alDemand.map Prod.snd) q hq hm⟩)
  have p2 : hC (whole (alR 900002 alDemand (newO g2 900002 300 5)) 900002 o) 900009 = o + 1 := by
    show hC (alR 900002 alDemand (newO g2 900002 300 5)) 900009 = _
    rw [alR_C, newO_C, if_neg (show ¬ (900009 : Nat) = 900002 by decide), O2.1, hP]; rfl
  obtain ⟨g3, hg3⟩ : ∃ g3, g3 = setZ (whole (alR 900002 alDemand (newO g2 900002 300 5)) 900002 o) 900009 2 := ⟨_, rfl⟩
  have O3 := O2.tr (Obs.tr (obs_al (w := 300) (N := 5) X2 L2 (by decide) (by decide)) (Obs.flag (P := 900009) (k := 2)))
  rw [← hg3] at O3
  have X3 : hC g3 900008 = o := by rw [O3.1, (hX 900008 (by decide)).1]; rfl
  have D3 : hD g3 900008 = o := by rw [O3.2.1, if_neg (by decide), (hX 900008 (by decide)).2]
  have L3 : ∀ s, s ∈ alRoller.map Prod.fst → hC g3 s = o := fun s hs => by
    rw [O3.1, hl s ((by decide : ∀ s, s ∈ alRoller.map Prod.fst → s ∈ stRw) s hs)]
    refine (congrArg (o + ·) (List.count_eq_zero.mpr ?_)).trans (Nat.add_zero o)
    exact (by decide : ∀ s, s ∈ alRoller.map Prod.fst → s ∉ ([900001, 900007, 900002] ++ (alBook.map Prod.fst ++ alRiver.map Prod.fst ++ alDemand.map Prod.fst) : List Nat)) s hs
  have LN3 : ∀ s, s ∈ alRoller.map Prod.fst → hC (newO g3 900008 900 6) s = o := fun s hs => by
    rw [newO_C, if_neg ((by decide : ∀ s, s ∈ alRoller.map Prod.fst → s ≠ 900008) s hs)]; exact L3 s hs
  have XN3 : hC (newO g3 900008 900 6) 900008 = o + 1 := by rw [newO_C, if_pos rfl, X3]
  have e3 := al_Roller (L := L) (scr := scr) (d := d) (h := newO g3 900008 900 6) (o := o) XN3 LN3
  have c3 : hC (alR 900008 alRoller (newO g3 900008 900 6)) 900008 = o + 1 := by show hC (alR 900008 alRoller (newO g3 900008 900 6)) 900008 = _; rw [alR_C, XN3]; rfl
  have d3 : hD (alR 900008 alRoller (newO g3 900008 900 6)) 900008 = o := by show hD (alR 900008 alRoller (newO g3 900008 900 6)) 900008 = _; rw [alR_D]; exact D3
  have z3 : ∀ q ∈ List.range 100, Nat.testBit 54 q = true → hZ (alR 900008 alRoller (newO g3 900008 900 6)) 900008 q = true := fun q hq hm => by
    show hZ (alR 900008 alRoller (newO g3 900008 900 6)) 900008 q = true
    exact alR_Z.mpr (Or.inr ⟨rfl, (by decide : ∀ q, q ∈ List.range 100 → Nat.testBit 54 q = true → q ∈ alRoller.map Prod.snd) q hq hm⟩)
  have p3 : hC (whole (alR 900008 alRoller (newO g3 900008 900 6)) 900008 o) 900009 = o + 1 := by
    show hC (alR 900008 alRoller (newO g3 900008 900 6)) 900009 = _
    rw [alR_C, newO_C, if_neg (show ¬ (900009 : Nat) = 900008 by decide), O3.1, hP]; rfl
  obtain ⟨g4, hg4⟩ : ∃ g4, g4 = setZ (whole (alR 900008 alRoller (newO g3 900008 900 6)) 900008 o) 900009 3 := ⟨_, rfl⟩
  have O4 := O3.tr (Obs.tr (obs_al (w := 900) (N := 6) X3 L3 (by decide) (by decide)) (Obs.flag (P := 900009) (k := 3)))
  rw [← hg4] at O4
  have X4 : hC g4 900004 = o := by rw [O4.1, (hX 900004 (by decide)).1]; rfl
  have D4 : hD g4 900004 = o := by rw [O4.2.1, if_neg (by decide), (hX 900004 (by decide)).2]
  have L4 : ∀ s, s ∈ alGuides.map Prod.fst → hC g4 s = o := fun s hs => by
    rw [O4.1, hl s ((by decide : ∀ s, s ∈ alGuides.map Prod.fst → s ∈ stRw) s hs)]
    refine (congrArg (o + ·) (List.count_eq_zero.mpr ?_)).trans (Nat.add_zero o)
    exact (by decide : ∀ s, s ∈ alGuides.map Prod.fst → s ∉ ([900001, 900007, 900002, 900008] ++ (alBook.map Prod.fst ++ alRiver.map Prod.fst ++ alDemand.map Prod.fst ++ alRoller.map Prod.fst) : List Nat)) s hs
  have LN4 : ∀ s, s ∈ alGuides.map Prod.fst → hC (newO g4 900004 500 9) s = o := fun s hs => by
    rw [newO_C, if_neg ((by decide : ∀ s, s ∈ alGuides.map Prod.fst → s ≠ 900004) s hs)]; exact L4 s hs
  have XN4 : hC (newO g4 900004 500 9) 900004 = o + 1 := by rw [newO_C, if_pos rfl, X4]
  have e4 := al_Guides (L := L) (scr := scr) (d := d) (h := newO g4 900004 500 9) (o := o) XN4 LN4
  have c4 : hC (alR 900004 alGuides (newO g4 900004 500 9)) 900004 = o + 1 := by show hC (alR 900004 alGuides (newO g4 900004 500 9)) 900004 = _; rw [alR_C, XN4]; rfl
  have d4 : hD (alR 900004 alGuides (newO g4 900004 500 9)) 900004 = o := by show hD (alR 900004 alGuides (newO g4 900004 500 9)) 900004 = _; rw [alR_D]; exact D4
  have z4 : ∀ q ∈ List.range 100, Nat.testBit 118 q = true → hZ (alR 900004 alGuides (newO g4 900004 500 9)) 900004 q = true := fun q hq hm => by
    show hZ (alR 900004 alGuides (newO g4 900004 500 9)) 900004 q = true
    exact alR_Z.mpr (Or.inr ⟨rfl, (by decide : ∀ q, q ∈ List.range 100 → Nat.testBit 118 q = true → q ∈ alGuides.map Prod.snd) q hq hm⟩)
  have p4 : hC (whole (alR 900004 alGuides (newO g4 900004 500 9)) 900004 o) 900009 = o + 1 := by
    show hC (alR 900004 alGuides (newO g4 900004 500 9)) 900009 = _
    rw [alR_C, newO_C, if_neg (show ¬ (900009 : Nat) = 900004 by decide), O4.1, hP]; rfl
  obtain ⟨g5, hg5⟩ : ∃ g5, g5 = setZ (whole (alR 900004 alGuides (newO g4 900004 500 9)) 900004 o) 900009 4 := ⟨_, rfl⟩
  have O5 := O4.tr (Obs.tr (obs_al (w := 500) (N := 9) X4 L4 (by decide) (by decide)) (Obs.flag (P := 900009) (k := 4)))
  rw [← hg5] at O5
  have X5 : hC g5 900003 = o := by rw [O5.1, (hX 900003 (by decide)).1]; rfl
  have D5 : hD g5 900003 = o := by rw [O5.2.1, if_neg (by decide), (hX 900003 (by decide)).2]
  have L5 : ∀ s, s ∈ alDock.map Prod.fst → hC g5 s = o := fun s hs => by
    rw [O5.1, hl s ((by decide : ∀ s, s ∈ alDock.map Prod.fst → s ∈ stRw) s hs)]
    refine (congrArg (o + ·) (List.count_eq_zero.mpr ?_)).trans (Nat.add_zero o)
    exact (by decide : ∀ s, s ∈ alDock.map Prod.fst → s ∉ ([900001, 900007, 900002, 900008, 900004] ++ (alBook.map Prod.fst ++ alRiver.map Prod.fst ++ alDemand.map Prod.fst ++ alRoller.map Prod.fst ++ alGuides.map Prod.fst) : List Nat)) s hs
  have LN5 : ∀ s, s ∈ alDock.map Prod.fst → hC (newO g5 900003 400 9) s = o := fun s hs => by
    rw [newO_C, if_neg ((by decide : ∀ s, s ∈ alDock.map Prod.fst → s ≠ 900003) s hs)]; exact L5 s hs
  have XN5 : hC (newO g5 900003 400 9) 900003 = o + 1 := by rw [newO_C, if_pos rfl, X5]
  have e5 := al_Dock (L := L) (scr := scr) (d := d) (h := newO g5 900003 400 9) (o := o) XN5 LN5
  have c5 : hC (alR 900003 alDock (newO g5 900003 400 9)) 900003 = o + 1 := by show hC (alR 900003 alDock (newO g5 900003 400 9)) 900003 = _; rw [alR_C, XN5]; rfl
  have d5 : hD (alR 900003 alDock (newO g5 900003 400 9)) 900003 = o := by show hD (alR 900003 alDock (newO g5 900003 400 9)) 900003 = _; rw [alR_D]; exact D5
  have z5 : ∀ q ∈ List.range 100, Nat.testBit 63 q = true → hZ (alR 900003 alDock (newO g5 900003 400 9)) 900003 q = true := fun q hq hm => by
    show hZ (alR 900003 alDock (newO g5 900003 400 9)) 900003 q = true
    exact alR_Z.mpr (Or.inr ⟨rfl, (by decide : ∀ q, q ∈ List.range 100 → Nat.testBit 63 q = true → q ∈ alDock.map Prod.snd) q hq hm⟩)
  have p5 : hC (whole (alR 900003 alDock (newO g5 900003 400 9)) 900003 o) 900009 = o + 1 := by
    show hC (alR 900003 alDock (newO g5 900003 400 9)) 900009 = _
    rw [alR_C, newO_C, if_neg (show ¬ (900009 : Nat) = 900003 by decide), O5.1, hP]; rfl
  obtain ⟨g6, hg6⟩ : ∃ g6, g6 = setZ (whole (alR 900003 alDock (newO g5 900003 400 9)) 900003 o) 900009 5 := ⟨_, rfl⟩
  have O6 := O5.tr (Obs.tr (obs_al (w := 400) (N := 9) X5 L5 (by decide) (by decide)) (Obs.flag (P := 900009) (k := 5)))
  rw [← hg6] at O6
  refine ⟨g6, _, _, r_State_init _ _ (Sm.ret ?_), O6, rfl, rfl⟩
  rw [t_State_init_0]
  rw [D0, X0, if_pos rfl, e0, clV_ok, if_pos ⟨rfl, c0.symm, d0.symm, z0⟩, if_pos p0.symm, if_pos rfl, ← hg1]
  rw [D1, X1, if_pos rfl, e1, clV_ok, if_pos ⟨rfl, c1.symm, d1.symm, z1⟩, if_pos p1.symm, if_pos rfl, ← hg2]
  rw [D2, X2, if_pos rfl, e2, clV_ok, if_pos ⟨rfl, c2.symm, d2.symm, z2⟩, if_pos p2.symm, if_pos rfl, ← hg3]
  rw [D3, X3, if_pos rfl, e3, clV_ok, if_pos ⟨rfl, c3.symm, d3.symm, z3⟩, if_pos p3.symm, if_pos rfl, ← hg4]
  rw [D4, X4, if_pos rfl, e4, clV_ok, if_pos ⟨rfl, c4.symm, d4.symm, z4⟩, if_pos p4.symm, if_pos rfl, ← hg5]
  rw [D5, X5, if_pos rfl, e5, clV_ok, if_pos ⟨rfl, c5.symm, d5.symm, z5⟩, if_pos p5.symm, if_pos rfl, ← hg6]
end AllocState

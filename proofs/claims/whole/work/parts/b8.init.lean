/-! THE START: both objects made (printed by wip/whole/emitinit.py) -/
section Init
variable {L : Nat} {scr : Nat → Int32} {d : Nat}
abbrev stZ : List Nat := (alDock.map Prod.fst ++ [900003]) ++ (alGuides.map Prod.fst ++ [900004]) ++ (alRoller.map Prod.fst ++ [900008]) ++ (alDemand.map Prod.fst ++ [900002]) ++ (alRiver.map Prod.fst ++ [900007]) ++ (alBook.map Prod.fst ++ [900001])
abbrev stD : List Nat := [900003, 900004, 900008, 900002, 900007, 900001]
/-- a State -/
theorem ss_State {Ls D : List Nat} {V : VL} {nc ns : Nat} {h : MH} (q0 : SS Ls D V nc ns h) (hP : Ls.count 900009 = 1) (hX : ∀ X, X ∈ stX.map Prod.fst → Ls.count X = 0 ∧ D.count X = 0) (hl : ∀ s, s ∈ stRw → Ls.count s = 0) (hv : ∀ a, a ∈ V.map Prod.fst → a ∉ stRw ∧ ∀ w, w ∈ stX.map Prod.snd → ¬ (w ≤ a ∧ a < w + 100)) : ∃ g, E L scr (d + 3) 105 [vU 900009 0] h = some (none, g) ∧ SS (stZ ++ Ls) (stD ++ D) ((800000100, filF (fun _ => 0) 50 100) :: V) (nc + 48) (ns + 2865) g ∧ Zf 900009 [0, 1, 2, 3, 4, 5] g ∧ ∀ K, Zf 900011 K h → Zf 900011 K g := by
  have x0 : hC h 900001 = 0 := (q0.1 900001).trans ((hX 900001 (by decide)).1)
  have y0 : hD h 900001 = 0 := (q0.2.1 900001).trans ((hX 900001 (by decide)).2)
  have r0 : ∀ s, s ∈ alBook.map Prod.fst → hC h s = 0 := fun s hs => (q0.1 s).trans (hl s ((by decide : ∀ s, s ∈ alBook.map Prod.fst → s ∈ stRw) s hs))
  obtain ⟨n0, hn0⟩ : ∃ n0, n0 = newO h 900001 200 16 := ⟨_, rfl⟩
  have s0 := q0.newO (X := 900001) (w := 200) (N := 16) (fun a ha => (hv a ha).2 200 (by decide))
  rw [← hn0] at s0
  have c0n : hC n0 900001 = 1 := by rw [hn0, newO_C, if_pos rfl, x0]
  have r0n : ∀ s, s ∈ alBook.map Prod.fst → hC n0 s = 0 := fun s hs => by rw [hn0, newO_C, if_neg ((by decide : ∀ s, s ∈ alBook.map Prod.fst → s ≠ 900001) s hs)]; exact r0 s hs
  have e0 := al_Book (L := L) (scr := scr) (d := d) (h := n0) (o := 0) c0n r0n
  obtain ⟨m0, hm0⟩ : ∃ m0, m0 = alR 900001 alBook n0 := ⟨_, rfl⟩
  have t0 := s0.alR (c := 900001) (l := alBook) (fun s hs z => (hv s z).1 ((by decide : ∀ s, s ∈ alBook.map Prod.fst → s ∈ stRw) s hs))
  rw [← hm0] at t0 e0
  have z0 : ∀ q ∈ List.range 100, Nat.testBit 15354 q = true → hZ m0 900001 q = true := fun q hq hb => by
    rw [hm0]
    exact alR_Z.mpr (Or.inr ⟨rfl, (by decide : ∀ q, q ∈ List.range 100 → Nat.testBit 15354 q = true → q ∈ alBook.map Prod.snd) q hq hb⟩)
  have c0 : hC m0 900001 = 1 := (t0.1 900001).trans (by rw [List.count_append, List.count_cons, show List.count 900001 Ls = 0 from (hX 900001 (by decide)).1, List.count_eq_zero.mpr (by decide)]; rfl)
  have p0 : hC (whole m0 900001 0) 900009 = 1 := (t0.1 900009).trans (by rw [List.count_append, List.count_cons, show List.count 900009 Ls = 1 from hP, List.count_eq_zero.mpr (by decide)]; rfl)
  have d0 : hD m0 900001 = 0 := (t0.2.1 900001).trans ((hX 900001 (by decide)).2)
  obtain ⟨g1, hg1⟩ : ∃ g1, g1 = setZ (whole m0 900001 0) 900009 0 := ⟨_, rfl⟩
  have q1w := (t0.whole (s := 900001) (n := 0) ((hX 900001 (by decide)).2)).setZ (c := 900009) (k := 0)
  rw [← hg1] at q1w
  have q1 : SS ((alBook.map Prod.fst ++ [900001]) ++ Ls) ([900001] ++ D) _ _ _ g1 := q1w.cg (fun a => by simp only [List.count_append, List.count_cons, List.count_nil]; omega) rfl rfl
  have x1 : hC g1 900007 = 0 := (q1.1 900007).trans (by rw [List.count_append, (hX 900007 (by decide)).1]; rfl)
  have y1 : hD g1 900007 = 0 := (q1.2.1 900007).trans (by rw [List.count_append, (hX 900007 (by decide)).2]; rfl)
  have r1 : ∀ s, s ∈ alRiver.map Prod.fst → hC g1 s = 0 := fun s hs => (q1.1 s).trans (by rw [List.count_append, hl s ((by decide : ∀ s, s ∈ alRiver.map Prod.fst → s ∈ stRw) s hs), List.count_eq_zero.mpr ((by decide : ∀ s, s ∈ alRiver.map Prod.fst → s ∉ ((alBook.map Prod.fst ++ [900001]) : List Nat)) s hs)])
  obtain ⟨n1, hn1⟩ : ∃ n1, n1 = newO g1 900007 800 16 := ⟨_, rfl⟩
  have s1 := q1.newO (X := 900007) (w := 800) (N := 16) (fun a ha => (hv a ha).2 800 (by decide))
  rw [← hn1] at s1
  have c1n : hC n1 900007 = 1 := by rw [hn1, newO_C, if_pos rfl, x1]
  have r1n : ∀ s, s ∈ alRiver.map Prod.fst → hC n1 s = 0 := fun s hs => by rw [hn1, newO_C, if_neg ((by decide : ∀ s, s ∈ alRiver.map Prod.fst → s ≠ 900007) s hs)]; exact r1 s hs
  have e1 := al_River (L := L) (scr := scr) (d := d) (h := n1) (o := 0) c1n r1n
  obtain ⟨a1, ha1⟩ : ∃ a1, a1 = alR 900007 alRiver n1 := ⟨_, rfl⟩
  have t1a := s1.alR (c := 900007) (l := alRiver) (fun s hs z => (hv s z).1 ((by decide : ∀ s, s ∈ alRiver.map Prod.fst → s ∈ stRw) s hs))
  rw [← ha1] at t1a e1
  have w1 : hI a1 800000100 0 = fun _ => 0 := by rw [t1a.2.2.1, if_pos rfl]; exact vl_n (fun z => (hv _ z).1 (by decide))
  rw [w1] at e1
  obtain ⟨m1, hm1⟩ : ∃ m1, m1 = withR a1 [(800000100, 0, filF (fun _ => 0) 50 100)] := ⟨_, rfl⟩
  rw [← hm1] at e1
  have t1 := t1a.row (s := 800000100) (f := filF (fun _ => 0) 50 100)
  rw [← hm1] at t1
  have z1 : ∀ q ∈ List.range 100, Nat.testBit 63325 q = true → hZ m1 900007 q = true := fun q hq hb => by
    rw [hm1, ha1]
    show hZ (alR 900007 alRiver n1) 900007 q = true
    exact alR_Z.mpr (Or.inr ⟨rfl, (by decide : ∀ q, q ∈ List.range 100 → Nat.testBit 63325 q = true → q ∈ alRiver.map Prod.snd) q hq hb⟩)
  have c1 : hC m1 900007 = 1 := (t1.1 900007).trans (by rw [List.count_append, List.count_cons, show List.count 900007 ((alBook.map Prod.fst ++ [900001]) ++ Ls) = 0 from by rw [List.count_append, (hX 900007 (by decide)).1]; rfl, List.count_eq_zero.mpr (by decide)]; rfl)
  have p1 : hC (whole m1 900007 0) 900009 = 1 := (t1.1 900009).trans (by rw [List.count_append, List.count_cons, show List.count 900009 ((alBook.map Prod.fst ++ [900001]) ++ Ls) = 1 from by rw [List.count_append, hP]; rfl, List.count_eq_zero.mpr (by decide)]; rfl)
  have d1 : hD m1 900007 = 0 := (t1.2.1 900007).trans (by rw [List.count_append, (hX 900007 (by decide)).2]; rfl)
  obtain ⟨g2, hg2⟩ : ∃ g2, g2 = setZ (whole m1 900007 0) 900009 1 := ⟨_, rfl⟩
  have q2w := (t1.whole (s := 900007) (n := 0) (by rw [List.count_append, (hX 900007 (by decide)).2]; rfl)).setZ (c := 900009) (k := 1)
  rw [← hg2] at q2w
  have q2 : SS ((alRiver.map Prod.fst ++ [900007]) ++ (alBook.map Prod.fst ++ [900001]) ++ Ls) ([900007, 900001] ++ D) _ _ _ g2 := q2w.cg (fun a => by simp only [List.count_append, List.count_cons, List.count_nil]; omega) rfl rfl
  have x2 : hC g2 900002 = 0 := (q2.1 900002).trans (by rw [List.count_append, (hX 900002 (by decide)).1]; rfl)
  have y2 : hD g2 900002 = 0 := (q2.2.1 900002).trans (by rw [List.count_append, (hX 900002 (by decide)).2]; rfl)
  have r2 : ∀ s, s ∈ alDemand.map Prod.fst → hC g2 s = 0 := fun s hs => (q2.1 s).trans (by rw [List.count_append, hl s ((by decide : ∀ s, s ∈ alDemand.map Prod.fst → s ∈ stRw) s hs), List.count_eq_zero.mpr ((by decide : ∀ s, s ∈ alDemand.map Prod.fst → s ∉ ((alRiver.map Prod.fst ++ [900007]) ++ (alBook.map Prod.fst ++ [900001]) : List Nat)) s hs)])
  obtain ⟨n2, hn2⟩ : ∃ n2, n2 = newO g2 900002 300 5 := ⟨_, rfl⟩
  have s2 := q2.newO (X := 900002) (w := 300) (N := 5) (fun a ha => by
    rcases List.mem_cons.mp ha with e | e
    · rw [e]; decide
    · exact (hv a e).2 300 (by decide))
  rw [← hn2] at s2
  have c2n : hC n2 900002 = 1 := by rw [hn2, newO_C, if_pos rfl, x2]
  have r2n : ∀ s, s ∈ alDemand.map Prod.fst → hC n2 s = 0 := fun s hs => by rw [hn2, newO_C, if_neg ((by decide : ∀ s, s ∈ alDemand.map Prod.fst → s ≠ 900002) s hs)]; exact r2 s hs
  have e2 := al_Demand (L := L) (scr := scr) (d := d) (h := n2) (o := 0) c2n r2n
  obtain ⟨m2, hm2⟩ : ∃ m2, m2 = alR 900002 alDemand n2 := ⟨_, rfl⟩
  have t2 := s2.alR (c := 900002) (l := alDemand) (fun s hs z => by
    rcases List.mem_cons.mp z with e | e
    · exact absurd e ((by decide : ∀ s, s ∈ alDemand.map Prod.fst → s ≠ 800000100) s hs)
    · exact (hv s e).1 ((by decide : ∀ s, s ∈ alDemand.map Prod.fst → s ∈ stRw) s hs))
  rw [← hm2] at t2 e2
  have z2 : ∀ q ∈ List.range 100, Nat.testBit 29 q = true → hZ m2 900002 q = true := fun q hq hb => by
    rw [hm2]
    exact alR_Z.mpr (Or.inr ⟨rfl, (by decide : ∀ q, q ∈ List.range 100 → Nat.testBit 29 q = true → q ∈ alDemand.map Prod.snd) q hq hb⟩)
  have c2 : hC m2 900002 = 1 := (t2.1 900002).trans (by rw [List.count_append, List.count_cons, show List.count 900002 ((alRiver.map Prod.fst ++ [900007]) ++ (alBook.map Prod.fst ++ [900001]) ++ Ls) = 0 from by rw [List.count_append, (hX 900002 (by decide)).1]; rfl, List.count_eq_zero.mpr (by decide)]; rfl)
  have p2 : hC (whole m2 900002 0) 900009 = 1 := (t2.1 900009).trans (by rw [List.count_append, List.count_cons, show List.count 900009 ((alRiver.map Prod.fst ++ [900007]) ++ (alBook.map Prod.fst ++ [900001]) ++ Ls) = 1 from by rw [List.count_append, hP]; rfl, List.count_eq_zero.mpr (by decide)]; rfl)
  have d2 : hD m2 900002 = 0 := (t2.2.1 900002).trans (by rw [List.count_append, (hX 900002 (by decide)).2]; rfl)
  obtain ⟨g3, hg3⟩ : ∃ g3, g3 = setZ (whole m2 900002 0) 900009 2 := ⟨_, rfl⟩
  have q3w := (t2.whole (s := 900002) (n := 0) (by rw [List.count_append, (hX 900002 (by decide)).2]; rfl)).setZ (c := 900009) (k := 2)
  rw [← hg3] at q3w
  have q3 : SS ((alDemand.map Prod.fst ++ [900002]) ++ (alRiver.map Prod.fst ++ [900007]) ++ (alBook.map Prod.fst ++ [900001]) ++ Ls) ([900002, 900007, 900001] ++ D) _ _ _ g3 := q3w.cg (fun a => by simp only [List.count_append, List.count_cons, List.count_nil]; omega) rfl rfl
  have x3 : hC g3 900008 = 0 := (q3.1 900008).trans (by rw [List.count_append, (hX 900008 (by decide)).1]; rfl)
  have y3 : hD g3 900008 = 0 := (q3.2.1 900008).trans (by rw [List.count_append, (hX 900008 (by decide)).2]; rfl)
  have r3 : ∀ s, s ∈ alRoller.map Prod.fst → hC g3 s = 0 := fun s hs => (q3.1 s).trans (by rw [List.count_append, hl s ((by decide : ∀ s, s ∈ alRoller.map Prod.fst → s ∈ stRw) s hs), List.count_eq_zero.mpr ((by decide : ∀ s, s ∈ alRoller.map Prod.fst → s ∉ ((alDemand.map Prod.fst ++ [900002]) ++ (alRiver.map Prod.fst ++ [900007]) ++ (alBook.map Prod.fst ++ [900001]) : List Nat)) s hs)])
  obtain ⟨n3, hn3⟩ : ∃ n3, n3 = newO g3 900008 900 6 := ⟨_, rfl⟩
  have s3 := q3.newO (X := 900008) (w := 900) (N := 6) (fun a ha => by
    rcases List.mem_cons.mp ha with e | e
    · rw [e]; decide
    · exact (hv a e).2 900 (by decide))
  rw [← hn3] at s3
  have c3n : hC n3 900008 = 1 := by rw [hn3, newO_C, if_pos rfl, x3]
  have r3n : ∀ s, s ∈ alRoller.map Prod.fst → hC n3 s = 0 := fun s hs => by rw [hn3, newO_C, if_neg ((by decide : ∀ s, s ∈ alRoller.map Prod.fst → s ≠ 900008) s hs)]; exact r3 s hs
  have e3 := al_Roller (L := L) (scr := scr) (d := d) (h := n3) (o := 0) c3n r3n
  obtain ⟨m3, hm3⟩ : ∃ m3, m3 = alR 900008 alRoller n3 := ⟨_, rfl⟩
  have t3 := s3.alR (c := 900008) (l := alRoller) (fun s hs z => by
    rcases List.mem_cons.mp z with e | e
    · exact absurd e ((by decide : ∀ s, s ∈ alRoller.map Prod.fst → s ≠ 800000100) s hs)
    · exact (hv s e).1 ((by decide : ∀ s, s ∈ alRoller.map Prod.fst → s ∈ stRw) s hs))
  rw [← hm3] at t3 e3
  have z3 : ∀ q ∈ List.range 100, Nat.testBit 54 q = true → hZ m3 900008 q = true := fun q hq hb => by
    rw [hm3]
    exact alR_Z.mpr (Or.inr ⟨rfl, (by decide : ∀ q, q ∈ List.range 100 → Nat.testBit 54 q = true → q ∈ alRoller.map Prod.snd) q hq hb⟩)
  have c3 : hC m3 900008 = 1 := (t3.1 900008).trans (by rw [List.count_append, List.count_cons, show List.count 900008 ((alDemand.map Prod.fst ++ [900002]) ++ (alRiver.map Prod.fst ++ [900007]) ++ (alBook.map Prod.fst ++ [900001]) ++ Ls) = 0 from by rw [List.count_append, (hX 900008 (by decide)).1]; rfl, List.count_eq_zero.mpr (by decide)]; rfl)
  have p3 : hC (whole m3 900008 0) 900009 = 1 := (t3.1 900009).trans (by rw [List.count_append, List.count_cons, show List.count 900009 ((alDemand.map Prod.fst ++ [900002]) ++ (alRiver.map Prod.fst ++ [900007]) ++ (alBook.map Prod.fst ++ [900001]) ++ Ls) = 1 from by rw [List.count_append, hP]; rfl, List.count_eq_zero.mpr (by decide)]; rfl)
  have d3 : hD m3 900008 = 0 := (t3.2.1 900008).trans (by rw [List.count_append, (hX 900008 (by decide)).2]; rfl)
  obtain ⟨g4, hg4⟩ : ∃ g4, g4 = setZ (whole m3 900008 0) 900009 3 := ⟨_, rfl⟩
  have q4w := (t3.whole (s := 900008) (n := 0) (by rw [List.count_append, (hX 900008 (by decide)).2]; rfl)).setZ (c := 900009) (k := 3)
  rw [← hg4] at q4w
  have q4 : SS ((alRoller.map Prod.fst ++ [900008]) ++ (alDemand.map Prod.fst ++ [900002]) ++ (alRiver.map Prod.fst ++ [900007]) ++ (alBook.map Prod.fst ++ [900001]) ++ Ls) ([900008, 900002, 900007, 900001] ++ D) _ _ _ g4 := q4w.cg (fun a => by simp only [List.count_append, List.count_cons, List.count_nil]; omega) rfl rfl
  have x4 : hC g4 900004 = 0 := (q4.1 900004).trans (by rw [List.count_append, (hX 900004 (by decide)).1]; rfl)
  have y4 : hD g4 900004 = 0 := (q4.2.1 900004).trans (by rw [List.count_append, (hX 900004 (by decide)).2]; rfl)
  have r4 : ∀ s, s ∈ alGuides.map Prod.fst → hC g4 s = 0 := fun s hs => (q4.1 s).trans (by rw [List.count_append, hl s ((by decide : ∀ s, s ∈ alGuides.map Prod.fst → s ∈ stRw) s hs), List.count_eq_zero.mpr ((by decide : ∀ s, s ∈ alGuides.map Prod.fst → s ∉ ((alRoller.map Prod.fst ++ [900008]) ++ (alDemand.map Prod.fst ++ [900002]) ++ (alRiver.map Prod.fst ++ [900007]) ++ (alBook.map Prod.fst ++ [900001]) : List Nat)) s hs)])
  obtain ⟨n4, hn4⟩ : ∃ n4, n4 = newO g4 900004 500 9 := ⟨_, rfl⟩
  have s4 := q4.newO (X := 900004) (w := 500) (N := 9) (fun a ha => by
    rcases List.mem_cons.mp ha with e | e
    · rw [e]; decide
    · exact (hv a e).2 500 (by decide))
  rw [← hn4] at s4
  have c4n : hC n4 900004 = 1 := by rw [hn4, newO_C, if_pos rfl, x4]
  have r4n : ∀ s, s ∈ alGuides.map Prod.fst → hC n4 s = 0 := fun s hs => by rw [hn4, newO_C, if_neg ((by decide : ∀ s, s ∈ alGuides.map Prod.fst → s ≠ 900004) s hs)]; exact r4 s hs
  have e4 := al_Guides (L := L) (scr := scr) (d := d) (h := n4) (o := 0) c4n r4n
  obtain ⟨m4, hm4⟩ : ∃ m4, m4 = alR 900004 alGuides n4 := ⟨_, rfl⟩
  have t4 := s4.alR (c := 900004) (l := alGuides) (fun s hs z => by
    rcases List.mem_cons.mp z with e | e
    · exact absurd e ((by decide : ∀ s, s ∈ alGuides.map Prod.fst → s ≠ 800000100) s hs)
    · exact (hv s e).1 ((by decide : ∀ s, s ∈ alGuides.map Prod.fst → s ∈ stRw) s hs))
  rw [← hm4] at t4 e4
  have z4 : ∀ q ∈ List.range 100, Nat.testBit 118 q = true → hZ m4 900004 q = true := fun q hq hb => by
    rw [hm4]
    exact alR_Z.mpr (Or.inr ⟨rfl, (by decide : ∀ q, q ∈ List.range 100 → Nat.testBit 118 q = true → q ∈ alGuides.map Prod.snd) q hq hb⟩)
  have c4 : hC m4 900004 = 1 := (t4.1 900004).trans (by rw [List.count_append, List.count_cons, show List.count 900004 ((alRoller.map Prod.fst ++ [900008]) ++ (alDemand.map Prod.fst ++ [900002]) ++ (alRiver.map Prod.fst ++ [900007]) ++ (alBook.map Prod.fst ++ [900001]) ++ Ls) = 0 from by rw [List.count_append, (hX 900004 (by decide)).1]; rfl, List.count_eq_zero.mpr (by decide)]; rfl)
  have p4 : hC (whole m4 900004 0) 900009 = 1 := (t4.1 900009).trans (by rw [List.count_append, List.count_cons, show List.count 900009 ((alRoller.map Prod.fst ++ [900008]) ++ (alDemand.map Prod.fst ++ [900002]) ++ (alRiver.map Prod.fst ++ [900007]) ++ (alBook.map Prod.fst ++ [900001]) ++ Ls) = 1 from by rw [List.count_append, hP]; rfl, List.count_eq_zero.mpr (by decide)]; rfl)
  have d4 : hD m4 900004 = 0 := (t4.2.1 900004).trans (by rw [List.count_append, (hX 900004 (by decide)).2]; rfl)
  obtain ⟨g5, hg5⟩ : ∃ g5, g5 = setZ (whole m4 900004 0) 900009 4 := ⟨_, rfl⟩
  have q5w := (t4.whole (s := 900004) (n := 0) (by rw [List.count_append, (hX 900004 (by decide)).2]; rfl)).setZ (c := 900009) (k := 4)
  rw [← hg5] at q5w
  have q5 : SS ((alGuides.map Prod.fst ++ [900004]) ++ (alRoller.map Prod.fst ++ [900008]) ++ (alDemand.map Prod.fst ++ [900002]) ++ (alRiver.map Prod.fst ++ [900007]) ++ (alBook.map Prod.fst ++ [900001]) ++ Ls) ([900004, 900008, 900002, 900007, 900001] ++ D) _ _ _ g5 := q5w.cg (fun a => by simp only [List.count_append, List.count_cons, List.count_nil]; omega) rfl rfl
  have x5 : hC g5 900003 = 0 := (q5.1 900003).trans (by rw [List.count_append, (hX 900003 (by decide)).1]; rfl)
  have y5 : hD g5 900003 = 0 := (q5.2.1 900003).trans (by rw [List.count_append, (hX 900003 (by decide)).2]; rfl)
  have r5 : ∀ s, s ∈ alDock.map Prod.fst → hC g5 s = 0 := fun s hs => (q5.1 s).trans (by rw [List.count_append, hl s ((by decide : ∀ s, s ∈ alDock.map Prod.fst → s ∈ stRw) s hs), List.count_eq_zero.mpr ((by decide : ∀ s, s ∈ alDock.map Prod.fst → s ∉ ((alGuides.map Prod.fst ++ [900004]) ++ (alRoller.map Prod.fst ++ [900008]) ++ (alDemand.map Prod.fst ++ [900002]) ++ (alRiver.map Prod.fst ++ [900007]) ++ (alBook.map Prod.fst ++ [900001]) : List Nat)) s hs)])
  obtain ⟨n5, hn5⟩ : ∃ n5, n5 = newO g5 900003 400 9 := ⟨_, rfl⟩
  have s5 := q5.newO (X := 900003) (w := 400) (N := 9) (fun a ha => by
    rcases List.mem_cons.mp ha with e | e
    · rw [e]; decide
    · exact (hv a e).2 400 (by decide))
  rw [← hn5] at s5
  have c5n : hC n5 900003 = 1 := by rw [hn5, newO_C, if_pos rfl, x5]
  have r5n : ∀ s, s ∈ alDock.map Prod.fst → hC n5 s = 0 := fun s hs => by rw [hn5, newO_C, if_neg ((by decide : ∀ s, s ∈ alDock.map Prod.fst → s ≠ 900003) s hs)]; exact r5 s hs
  have e5 := al_Dock (L := L) (scr := scr) (d := d) (h := n5) (o := 0) c5n r5n
  obtain ⟨m5, hm5⟩ : ∃ m5, m5 = alR 900003 alDock n5 := ⟨_, rfl⟩
  have t5 := s5.alR (c := 900003) (l := alDock) (fun s hs z => by
    rcases List.mem_cons.mp z with e | e
    · exact absurd e ((by decide : ∀ s, s ∈ alDock.map Prod.fst → s ≠ 800000100) s hs)
    · exact (hv s e).1 ((by decide : ∀ s, s ∈ alDock.map Prod.fst → s ∈ stRw) s hs))
  rw [← hm5] at t5 e5
  have z5 : ∀ q ∈ List.range 100, Nat.testBit 63 q = true → hZ m5 900003 q = true := fun q hq hb => by
    rw [hm5]
    exact alR_Z.mpr (Or.inr ⟨rfl, (by decide : ∀ q, q ∈ List.range 100 → Nat.testBit 63 q = true → q ∈ alDock.map Prod.snd) q hq hb⟩)
  have c5 : hC m5 900003 = 1 := (t5.1 900003).trans (by rw [List.count_append, List.count_cons, show List.count 900003 ((alGuides.map Prod.fst ++ [900004]) ++ (alRoller.map Prod.fst ++ [900008]) ++ (alDemand.map Prod.fst ++ [900002]) ++ (alRiver.map Prod.fst ++ [900007]) ++ (alBook.map Prod.fst ++ [900001]) ++ Ls) = 0 from by rw [List.count_append, (hX 900003 (by decide)).1]; rfl, List.count_eq_zero.mpr (by decide)]; rfl)
  have p5 : hC (whole m5 900003 0) 900009 = 1 := (t5.1 900009).trans (by rw [List.count_append, List.count_cons, show List.count 900009 ((alGuides.map Prod.fst ++ [900004]) ++ (alRoller.map Prod.fst ++ [900008]) ++ (alDemand.map Prod.fst ++ [900002]) ++ (alRiver.map Prod.fst ++ [900007]) ++ (alBook.map Prod.fst ++ [900001]) ++ Ls) = 1 from by rw [List.count_append, hP]; rfl, List.count_eq_zero.mpr (by decide)]; rfl)
  have d5 : hD m5 900003 = 0 := (t5.2.1 900003).trans (by rw [List.count_append, (hX 900003 (by decide)).2]; rfl)
  obtain ⟨g6, hg6⟩ : ∃ g6, g6 = setZ (whole m5 900003 0) 900009 5 := ⟨_, rfl⟩
  have q6w := (t5.whole (s := 900003) (n := 0) (by rw [List.count_append, (hX 900003 (by decide)).2]; rfl)).setZ (c := 900009) (k := 5)
  rw [← hg6] at q6w
  have q6 : SS ((alDock.map Prod.fst ++ [900003]) ++ (alGuides.map Prod.fst ++ [900004]) ++ (alRoller.map Prod.fst ++ [900008]) ++ (alDemand.map Prod.fst ++ [900002]) ++ (alRiver.map Prod.fst ++ [900007]) ++ (alBook.map Prod.fst ++ [900001]) ++ Ls) ([900003, 900004, 900008, 900002, 900007, 900001] ++ D) _ _ _ g6 := q6w.cg (fun a => by simp only [List.count_append, List.count_cons, List.count_nil]; omega) rfl rfl
  refine ⟨g6, r_State_init _ _ (Sm.ret ?_), q6.cg (fun a => rfl) ?_ ?_, ?_, fun K z => ?_⟩
  · rw [t_State_init_0]
    rw [y0, x0, if_pos rfl, ← hn0, e0, clV_ok, if_pos ⟨rfl, c0.symm, d0.symm, z0⟩, if_pos p0.symm, if_pos rfl, ← hg1]
    rw [y1, x1, if_pos rfl, ← hn1, e1, clV_ok, if_pos ⟨rfl, c1.symm, d1.symm, z1⟩, if_pos p1.symm, if_pos rfl, ← hg2]
    rw [y2, x2, if_pos rfl, ← hn2, e2, clV_ok, if_pos ⟨rfl, c2.symm, d2.symm, z2⟩, if_pos p2.symm, if_pos rfl, ← hg3]
    rw [y3, x3, if_pos rfl, ← hn3, e3, clV_ok, if_pos ⟨rfl, c3.symm, d3.symm, z3⟩, if_pos p3.symm, if_pos rfl, ← hg4]
    rw [y4, x4, if_pos rfl, ← hn4, e4, clV_ok, if_pos ⟨rfl, c4.symm, d4.symm, z4⟩, if_pos p4.symm, if_pos rfl, ← hg5]
    rw [y5, x5, if_pos rfl, ← hn5, e5, clV_ok, if_pos ⟨rfl, c5.symm, d5.symm, z5⟩, if_pos p5.symm, if_pos rfl, ← hg6]
  · rfl
  · rfl
  · have f0 : Zf 900009 [] h := Zf.nil _ _
    have f1 : Zf 900009 [0] g1 := by rw [hg1, hm0, hn0]; exact (((f0.newO (by decide)).alR).whole).add
    have f2 : Zf 900009 [1, 0] g2 := by rw [hg2, hm1, ha1, hn1]; exact (((f1.newO (by decide)).alR.row).whole).add
    have f3 : Zf 900009 [2, 1, 0] g3 := by rw [hg3, hm2, hn2]; exact (((f2.newO (by decide)).alR).whole).add
    have f4 : Zf 900009 [3, 2, 1, 0] g4 := by rw [hg4, hm3, hn3]; exact (((f3.newO (by decide)).alR).whole).add
    have f5 : Zf 900009 [4, 3, 2, 1, 0] g5 := by rw [hg5, hm4, hn4]; exact (((f4.newO (by decide)).alR).whole).add
    have f6 : Zf 900009 [5, 4, 3, 2, 1, 0] g6 := by rw [hg6, hm5, hn5]; exact (((f5.newO (by decide)).alR).whole).add
    exact fun k hk => f6 k ((by decide : ∀ k, k ∈ [0, 1, 2, 3, 4, 5] → k ∈ [5, 4, 3, 2, 1, 0]) k hk)
  · have f0 : Zf 900011 K h := z
    have f1 : Zf 900011 K g1 := by rw [hg1, hm0, hn0]; exact (((f0.newO (by decide)).alR).whole).set
    have f2 : Zf 900011 K g2 := by rw [hg2, hm1, ha1, hn1]; exact (((f1.newO (by decide)).alR.row).whole).set
    have f3 : Zf 900011 K g3 := by rw [hg3, hm2, hn2]; exact (((f2.newO (by decide)).alR).whole).set
    have f4 : Zf 900011 K g4 := by rw [hg4, hm3, hn3]; exact (((f3.newO (by decide)).alR).whole).set
    have f5 : Zf 900011 K g5 := by rw [hg5, hm4, hn4]; exact (((f4.newO (by decide)).alR).whole).set
    have f6 : Zf 900011 K g6 := by rw [hg6, hm5, hn5]; exact (((f5.newO (by decide)).alR).whole).set
    exact f6
end Init

/-! RULES, on the class's side: busy hours, harm, shut; and one rule -/
theorem pHarm_if {S : LSt} {l r : List (Nat × Nat)} {g p : Nat} (e : pNum 0 100 l = .inl ((19, g) :: r, p)) : pHarm S l = bdP (pAny (pOne 8) r) fun c => .inl (c.1, addR S 1 p 0 0 c.2) := by
  unfold pHarm
  rw [bd_l e]
  rfl
theorem pHarm_no {S : LSt} {l r : List (Nat × Nat)} {p : Nat} (e : pNum 0 100 l = .inl (r, p)) (ne : ∀ g r2, r ≠ (19, g) :: r2) : pHarm S l = .inl (r, addR S 1 p 1 0 (fun _ => true)) := by
  unfold pHarm
  rw [bd_l e]
  show (match r with
    | (19, _) :: r => bdP (pAny (pOne 8) r) fun c => (.inl (c.1, addR S 1 p 0 0 c.2) : PR)
    | r => .inl (r, addR S 1 p 1 0 (fun _ => true))) = _
  split
  · exact absurd rfl (ne _ _)
  · rfl
section CRules3
variable {L : Nat} {scr : Nat → Int32} {d : Nat}
theorem WAr_cp {m : Nat} : ∀ q ∈ WSc ++ WRd, q ∉ WAr m := fun q hq z => by
  have a := (by decide : ∀ q, q ∈ WSc ++ WRd → q.1 ∉ [610, 611000040, 612000040, 613000040, 614000040]) q hq
  simp only [WAr, List.mem_cons, List.not_mem_nil, or_false] at z
  rcases z with rfl | rfl | rfl | rfl | rfl <;> simp at a
/-- a rule more -/
theorem LwC.add {h h2 : MH} {m b : Nat} {S : LSt} {s p a c : Nat} {φ : Phi} {va vc : Int32} (lw : LwC h m b S) (hR : S.2.1 < 40) (u : Upd (WAr m) h h2) (k : (S.2.1 < 40 ∧ hI h2 610 m 0 = nI (S.2.1 + 1) ∧ hI h2 611000040 m = up (hI h 611000040 m) S.2.1 (nI s) ∧ hI h2 612000040 m = up (hI h 612000040 m) S.2.1 (nI p) ∧ hI h2 613000040 m = up (hI h 613000040 m) S.2.1 va ∧ hI h2 614000040 m = up (hI h 614000040 m) S.2.1 vc) ∨ (S.2.1 = 40 ∧ h2 = h)) (hs : s ≤ 2) (hp : p ≤ 100) (h0 : s = 0 → va = nI a ∧ vc = nI c) (h1 : s ≠ 0 → ∃ x e, va = nI x ∧ vc = nI e ∧ e ≤ b ∧ ((a = 1 ∧ x = e ∧ ∀ v, φ v = true) ∨ (a = 0 ∧ ∀ v, SegL (fun j => dcC v (hI h 616000300 m j)) 19 x e (φ v)))) : LwC h2 m b (addR S s p a c φ) := by
  obtain ⟨-, k1, k2, k3, k4, k5⟩ := k.resolve_right (fun z => by omega)
  obtain ⟨q1, q2, q3, q4, q6⟩ := lw
  have nr : ∀ s, s ∉ [610, 611000040, 612000040, 613000040, 614000040] → hI h2 s m = hI h s m := fun s hs => u.2 _ _ (fun z => hs (by
    simp only [WAr, List.mem_cons, List.not_mem_nil, or_false, Prod.mk.injEq, and_true] at z
    simp only [List.mem_cons, List.not_mem_nil, or_false]
    exact z))
  refine ⟨q1.same (fun s hs => nr s ((by decide : ∀ s, s ∈ lawS → s ∉ [610, 611000040, 612000040, 613000040, 614000040]) s hs)), by show S.2.1 + 1 ≤ 40; omega, k1, ⟨q4.1, by rw [nr 615 (by decide)]; exact q4.2⟩, fun i hi => ?_⟩
  replace hi : i < S.2.1 + 1 := hi
  have ec : hI h2 616000300 m = hI h 616000300 m := nr _ (by decide)
  show RuC h2 m b i (if i = S.2.1 then ((s, p, a, c), φ) else S.2.2 i)
  by_cases z : i = S.2.1
  · rw [if_pos z]
    refine ⟨hs, hp, by rw [k2, z, up_s], by rw [k3, z, up_s], fun y => ?_, fun y => ?_⟩
    · rw [k4, k5, z, up_s, up_s]; exact h0 y
    · rw [k4, k5, z, up_s, up_s, ec]; exact h1 y
  · rw [if_neg z]
    refine (q6 i (by omega)).cg (Nat.le_refl _) (fun s hs => ?_) (fun j _ => by rw [ec])
    simp only [List.mem_cons, List.not_mem_nil, or_false] at hs
    rcases hs with rfl | rfl | rfl | rfl
    · rw [k2, up_n z]
    · rw [k3, up_n z]
    · rw [k4, up_n z]
    · rw [k5, up_n z]
theorem RfC.add {h h2 : MH} {m R : Nat} {b : Nat} {s p a c : Int32} (hb : CdN h m b) (hR : R ≤ 40) (e : hI h 610 m 0 = nI R) (u : Upd (WAr m) h h2) (k : (R < 40 ∧ hI h2 610 m 0 = nI (R + 1) ∧ hI h2 611000040 m = up (hI h 611000040 m) R s ∧ hI h2 612000040 m = up (hI h 612000040 m) R p ∧ hI h2 613000040 m = up (hI h 613000040 m) R a ∧ hI h2 614000040 m = up (hI h 614000040 m) R c) ∨ (R = 40 ∧ h2 = h)) : RfC h2 m := by
  rcases k with ⟨k0, k1, -⟩ | ⟨k0, k1⟩
  · refine ⟨⟨R + 1, by omega, k1⟩, b, hb.1, ?_⟩
    rw [u.2 615 m (by simp)]; exact hb.2
  · rw [k1]; exact ⟨⟨R, hR, e⟩, b, hb⟩
theorem c_readBusy {h : MH} {ls l : List (Nat × Nat)} {m b : Nat} {S : LSt} (hR : S.2.1 < 40) (cp : CP h ls (.inl l)) (gp : GapL l) (b3 : 3 * b ≤ hdP l) (lw : LwC h m b S) : ∃ h2, E L scr (d + 3) 81 [vR 900006 0, vR 900005 m] h = some (none, h2) ∧ Upd (WRu m) h h2 ∧ KO h2 ls m (pBusy S l) := by
  obtain ⟨h1, w1, e1, u1, c1, -, i1, v1⟩ := c_takeNumber (L := L) (scr := scr) (d := d) (lo := 0) (hi := 719) (by decide) (by decide) cp
  obtain ⟨h2, e2, u2, c2⟩ := c_takeN (L := L) (scr := scr) (d := d + 1) (k := 17) c1 (by decide)
  obtain ⟨h3, w2, e3, u3, c3, -, i3, v3⟩ := c_takeNumber (L := L) (scr := scr) (d := d) (lo := w1) (hi := 719) (by omega) (by decide) c2
  obtain ⟨h4, w3, e4, u4, c4, -, i4, v4⟩ := c_takeNumber (L := L) (scr := scr) (d := d) (lo := 0) (hi := 100) (by decide) (by decide) c3
  have l4 := (((lw.rd u1).rd u2).rd u3).rd u4
  obtain ⟨h5, e5, u5, k5⟩ := c_addRule (L := L) (scr := scr) (d := d + 1) 0 (nI w3) (nI w1) (nI w2) l4.2.1 l4.2.2.1
  have c5 := c4.fr u5 WAr_cp
  have l5 : LwC h5 m b (addR S 0 w3 w1 w2 (fun _ => true)) := l4.add (s := 0) hR u5 k5 (by decide) i4 (fun _ => ⟨rfl, rfl⟩) (fun z => absurd rfl z)
  have U : Upd (WRu m) h h5 := ((u1.tr (u2.tr (u3.tr u4))).mono WRu_rd).tr (u5.mono WRu_ar)
  refine ⟨h5, r_Reader_readBusy (d := d + 2) _ _ _ (Sm.ret ?_), U, ?_⟩
  · rw [t_Reader_readBusy_0, show (0 : Int32) = nI 0 from rfl, show (719 : Int32) = nI 719 from rfl, e1, clI_ok, show (17 : Int32) = nI 17 from rfl, e2, clV_ok, e3, clI_ok, show (100 : Int32) = nI 100 from rfl, e4, clI_ok]
    replace e5 : E L scr (d + 2) 54 [vR 900005 m, vI (nI 0), vI (nI w3), vI (nI w1), vI (nI w2)] h4 = some (none, h5) := e5
    rw [e5, clV_ok]
  · unfold pBusy
    rcases pn_split (lo := 0) (hi := 719) cp.ok gp with ⟨t1, g1, r1, rfl, n1, ok1, gp1, h1', k1, p1⟩ | ⟨g, k1, p1⟩
    · rw [k1] at c5
      rw [bd_l p1]
      have q1 := v1 t1 g1 _ rfl n1
      rcases pk_split (k := 17) (by decide) ok1 gp1 with ⟨g2, r2, rfl, ok2, gp2, h2', k2, p2⟩ | ⟨g, k2, p2⟩
      · rw [k2] at c5
        rw [bd_l p2]
        show KO h5 ls m (bdP (pNum (t1 - 1000) 719 r2) _)
        rw [← q1]
        rcases pn_split (lo := w1) (hi := 719) ok2 gp2 with ⟨t3, g3, r3, rfl, n3, ok3, gp3, h3', k3, p3⟩ | ⟨g, k3, p3⟩
        · rw [k3] at c5
          rw [bd_l p3]
          rcases pn_split (lo := 0) (hi := 100) ok3 gp3 with ⟨t4, g4, r4, rfl, n4, ok4, gp4, h4', k4, p4⟩ | ⟨g, k4, p4⟩
          · rw [k4] at c5
            rw [bd_l p4]
            have q3 := v3 t3 g3 _ (by rw [k1, k2]) n3
            have q4 := v4 t4 g4 _ (by rw [k1, k2, k3]) n4
            rw [q3, q4] at l5
            refine ⟨c5, gp4, b, by show 3 * b ≤ hdP r4; omega, ?_⟩
            exact l5
          · rw [k4] at c5
            rw [bd_r p4]; exact ⟨c5, l5.rf⟩
        · rw [k3] at c5
          rw [bd_r p3]; exact ⟨c5, l5.rf⟩
      · rw [k2] at c5
        rw [bd_r p2]; exact ⟨c5, l5.rf⟩
    · rw [k1] at c5
      rw [bd_r p1]; exact ⟨c5, l5.rf⟩
/-- a condition read behind what stands already -/
theorem LwC.cd {h h2 : MH} {m b b2 : Nat} {S : LSt} (lw : LwC h m b S) (u : Upd (WOne m) h h2) (bb : b ≤ b2) (hb : CdN h2 m b2) (kj : ∀ j, j < b → hI h2 616000300 m j = hI h 616000300 m j) : LwC h2 m b2 S := by
  obtain ⟨q1, q2, q3, q4, q6⟩ := lw
  have nr : ∀ s, s ∉ [704, 705, 615, 616000300] → hI h2 s m = hI h s m := fun s hs => u.2 _ _ (fun z => by
    simp only [WOne, WRd, WLw, List.cons_append, List.nil_append, List.mem_cons, List.not_mem_nil, or_false, Prod.mk.injEq, and_true] at z
    refine hs ?_
    simp only [List.mem_cons, List.not_mem_nil, or_false]
    rcases z with z | z | z | z
    · exact Or.inl z.1
    · exact Or.inr (Or.inl z.1)
    · exact Or.inr (Or.inr (Or.inr z))
    · exact Or.inr (Or.inr (Or.inl z)))
  refine ⟨q1.same (fun s hs => nr s ((by decide : ∀ s, s ∈ lawS → s ∉ [704, 705, 615, 616000300]) s hs)), q2, by rw [nr _ (by decide)]; exact q3, hb, fun i hi => (q6 i hi).cg bb (fun s hs => ?_) kj⟩
  rw [nr s ((by decide : ∀ s, s ∈ [611000040, 612000040, 613000040, 614000040] → s ∉ [704, 705, 615, 616000300]) s hs)]
theorem RfC.one {h h2 : MH} {m b2 : Nat} (r : RfC h m) (u : Upd (WOne m) h h2) (hb : CdN h2 m b2) : RfC h2 m := by
  obtain ⟨⟨R, hR, e⟩, -⟩ := r
  refine ⟨⟨R, hR, ?_⟩, b2, hb⟩
  rw [u.2 610 m (fun z => by
    simp only [WOne, WRd, WLw, List.cons_append, List.nil_append, List.mem_cons, List.not_mem_nil, or_false, Prod.mk.injEq, and_true] at z
    rcases z with z | z | z | z <;> revert z <;> simp)]
  exact e
/-- a condition with its rule -/
theorem c_condR {h : MH} {ls l : List (Nat × Nat)} {m b s p : Nat} {S : LSt} (hs : s ≤ 2) (s0 : s ≠ 0) (hp : p ≤ 100) (hR : S.2.1 < 40) (cp : CP h ls (.inl l)) (gp : GapL l) (b3 : 3 * b ≤ hdP l) (lw : LwC h m b S) : ∃ h2 h3, E L scr (d + 29) 87 [vR 900006 0, vR 900005 m, vI 0] h = some (none, h2) ∧ E L scr (d + 29) 54 [vR 900005 m, vI (nI s), vI (nI p), vI (nI b), vI (hI h2 615 m 0)] h2 = some (none, h3) ∧ Upd (WRu m) h h3 ∧ KO h3 ls m (bdP (pAny (pOne 8) l) fun c => .inl (c.1, addR S s p 0 0 c.2)) := by
  obtain ⟨h2, e2, u2, t2⟩ := c_readAny (L := L) (scr := scr) (d + 1) h b l cp lw.2.2.2.1 gp b3
  cases x : pAny (pOne 8) l with
  | inr g =>
    rw [x] at t2
    obtain ⟨c2, b2, n2⟩ := t2
    obtain ⟨⟨R, hR2, eR⟩, -⟩ := lw.rf.one u2 n2
    obtain ⟨h3, e3, u3, k3⟩ := c_addRule (L := L) (scr := scr) (d := d + 28) (nI s) (nI p) (nI b) (hI h2 615 m 0) hR2 eR
    exact ⟨h2, h3, e2, e3, (u2.mono WRu_one).tr (u3.mono WRu_ar), c2.fr u3 WAr_cp, RfC.add n2 hR2 eR u3 k3⟩
  | inl y =>
    obtain ⟨r, φ⟩ := y
    rw [x] at t2
    obtain ⟨c2, gp2, b2, n2, bb, by2, kj, sg⟩ := t2
    have l2 := lw.cd u2 (by omega) n2 kj
    obtain ⟨h3, e3, u3, k3⟩ := c_addRule (L := L) (scr := scr) (d := d + 28) (nI s) (nI p) (nI b) (hI h2 615 m 0) l2.2.1 l2.2.2.1
    refine ⟨h2, h3, e2, e3, (u2.mono WRu_one).tr (u3.mono WRu_ar), c2.fr u3 WAr_cp, gp2, b2, by show 3 * b2 ≤ hdP r; omega, ?_⟩
    refine l2.add hR u3 k3 hs hp (fun z => absurd z s0) (fun _ => ⟨b, b2, rfl, n2.2, Nat.le_refl _, Or.inr ⟨rfl, fun v => ?_⟩⟩)
    have := sg v
    rw [if_neg (by decide)] at this
    exact this
theorem c_readShut {h : MH} {ls l : List (Nat × Nat)} {m b : Nat} {S : LSt} (hR : S.2.1 < 40) (cp : CP h ls (.inl l)) (gp : GapL l) (b3 : 3 * b ≤ hdP l) (lw : LwC h m b S) : ∃ h2, E L scr (d + 30) 86 [vR 900006 0, vR 900005 m] h = some (none, h2) ∧ Upd (WRu m) h h2 ∧ KO h2 ls m (pShutR S l) := by
  obtain ⟨h1, e1, u1, c1⟩ := c_takeN (L := L) (scr := scr) (d := d + 28) (k := 19) cp (by decide)
  have l1 := lw.rd u1
  unfold pShutR
  rcases pk_split (k := 19) (by decide) cp.ok gp with ⟨g2, r2, rfl, ok2, gp2, h2', k2, p2⟩ | ⟨g, k2, p2⟩
  · rw [k2] at c1
    rw [bd_l p2]
    obtain ⟨h2, h3, e2, e3, u3, k3⟩ := c_condR (L := L) (scr := scr) (d := d) (s := 2) (p := 0) (by decide) (by decide) (by decide) hR c1 gp2 (by omega) l1
    refine ⟨h3, r_Reader_readShut (d := d + 29) _ _ _ (Sm.ret ?_), (u1.mono WRu_rd).tr u3, k3⟩
    replace e3 : E L scr (d + 29) 54 [vR 900005 m, vI 2, vI 0, vI (nI b), vI (hI h2 615 m 0)] h2 = some (none, h3) := e3
    rw [t_Reader_readShut_0, show (19 : Int32) = nI 19 from rfl, e1, clV_ok, e2, clV_ok, lw.2.2.2.1.2, e3, clV_ok]
  · rw [k2] at c1
    rw [bd_r p2]
    obtain ⟨h2, b2, e2, u2, n2⟩ := c_readAnyR (L := L) (scr := scr) (d := d + 25) c1 l1.2.2.2.1 0
    obtain ⟨⟨R, hR2, eR⟩, -⟩ := l1.rf.one (u2.mono WOne_r) n2
    obtain ⟨h3, e3, u3, k3⟩ := c_addRule (L := L) (scr := scr) (d := d + 28) 2 0 (nI b) (hI h2 615 m 0) hR2 eR
    refine ⟨h3, r_Reader_readShut (d := d + 29) _ _ _ (Sm.ret ?_), (u1.mono WRu_rd).tr ((u2.mono (fun q hq => WRu_one q (WOne_r q hq))).tr (u3.mono WRu_ar)), (c1.fr u2 WLw_rd).fr u3 WAr_cp, RfC.add n2 hR2 eR u3 k3⟩
    rw [t_Reader_readShut_0, show (19 : Int32) = nI 19 from rfl, e1, clV_ok, e2, clV_ok, lw.2.2.2.1.2, e3, clV_ok]
theorem c_readHarm {h : MH} {ls l : List (Nat × Nat)} {m b : Nat} {S : LSt} (hR : S.2.1 < 40) (cp : CP h ls (.inl l)) (gp : GapL l) (b3 : 3 * b ≤ hdP l) (lw : LwC h m b S) : ∃ h2, E L scr (d + 30) 85 [vR 900006 0, vR 900005 m] h = some (none, h2) ∧ Upd (WRu m) h h2 ∧ KO h2 ls m (pHarm S l) := by
  obtain ⟨h1, w1, e1, u1, c1, -, i1, v1⟩ := c_takeNumber (L := L) (scr := scr) (d := d + 27) (lo := 0) (hi := 100) (by decide) (by decide) cp
  have l1 := lw.rd u1
  obtain ⟨i, t, ea, i9, et, tt, cu⟩ := id c1.cur
  have ob : ¬ oob (nI i) 901 := oob_nI i9 (by decide)
  have ixi : ix (nI i) = i := ix_nI (by omega)
  have eb := l1.2.2.2.1.2
  -- without "if"
  have no : tkI t ≠ 19 → ∃ h2, E L scr (d + 30) 85 [vR 900006 0, vR 900005 m] h = some (none, h2) ∧ Upd (WRu m) h h2 ∧ CP h2 ls (tkP (isNm 0 100) (.inl l)) ∧ LwC h2 m b (addR S 1 w1 1 0 (fun _ => true)) := fun ne => by
    obtain ⟨h3, e3, u3, k3⟩ := c_addRule (L := L) (scr := scr) (d := d + 28) 1 (nI w1) (nI b) (nI b) l1.2.1 l1.2.2.1
    refine ⟨h3, r_Reader_readHarm (d := d + 29) _ _ _ (Sm.ret ?_), (u1.mono WRu_rd).tr (u3.mono WRu_ar), c1.fr u3 WAr_cp, l1.add (s := 1) hR u3 k3 (by decide) i1 (fun z => absurd z (by decide)) (fun _ => ⟨b, b, rfl, rfl, Nat.le_refl _, Or.inl ⟨rfl, rfl, fun _ => rfl⟩⟩)⟩
    rw [t_Reader_readHarm_0, show (0 : Int32) = nI 0 from rfl, show (100 : Int32) = nI 100 from rfl, e1, clI_ok, ea, rd_Reader_tokens ob, ixi, et, if_neg ne, eb, e3, clV_ok]
  rcases pn_split (lo := 0) (hi := 100) cp.ok gp with ⟨t1, g1, r1, rfl, n1, ok1, gp1, h1', k1, p1⟩ | ⟨g, k1, p1⟩
  · rw [k1] at c1 no cu
    have q1 := v1 t1 g1 _ rfl n1
    obtain ⟨g2, r2, rfl⟩ := cu _ rfl
    by_cases t19 : t = 19
    · subst t19
      obtain ⟨h2, e2, u2, c2⟩ := c_pass (L := L) (scr := scr) (d := d + 28) c1 (by decide)
      have l2 := l1.rd u2
      have ok2 : OkL r2 := ok1.2.elim (fun z => by omega) (fun z => z.2)
      obtain ⟨g1', -, gp2⟩ := gap_t gp1 ok2
      replace h1' : g1 ≤ g2 := h1'
      replace b3 : 3 * b ≤ g1 := b3
      obtain ⟨h3, h4, e3, e4, u4, k4⟩ := c_condR (L := L) (scr := scr) (d := d) (s := 1) (p := w1) (by decide) (by decide) i1 hR c2 gp2 (by omega) l2
      refine ⟨h4, r_Reader_readHarm (d := d + 29) _ _ _ (Sm.ret ?_), (u1.mono WRu_rd).tr ((u2.mono WRu_rd).tr u4), ?_⟩
      · replace e4 : E L scr (d + 29) 54 [vR 900005 m, vI 1, vI (nI w1), vI (nI b), vI (hI h3 615 m 0)] h3 = some (none, h4) := e4
        have et2 : tkI 19 = 19 := rfl
        rw [t_Reader_readHarm_0, show (0 : Int32) = nI 0 from rfl, show (100 : Int32) = nI 100 from rfl, e1, clI_ok, ea, rd_Reader_tokens ob, ixi, et, et2, if_pos rfl, show (19 : Int32) = nI 19 from rfl, e2, clV_ok]
        replace e3 : E L scr (d + 29) 87 [vR 900006 0, vR 900005 m, vI (nI 0)] h2 = some (none, h3) := e3
        rw [e3, clV_ok, eb, e4, clV_ok]
      · rw [pHarm_if p1, ← q1]; exact k4
    · obtain ⟨h2, e2, u2, c2, l2⟩ := no (fun z => t19 ((tkI_eq (c := 19) tt (by decide)).mp z))
      refine ⟨h2, e2, u2, ?_⟩
      rw [pHarm_no p1 (fun g r z => t19 (by injection z with z _; injection z with z _))]
      rw [← q1]
      replace h1' : g1 ≤ g2 := h1'
      replace b3 : 3 * b ≤ g1 := b3
      exact ⟨c2, gp1, b, by show 3 * b ≤ g2; omega, l2⟩
  · rw [k1] at c1 no
    have pe : pHarm S l = .inr g := by unfold pHarm; rw [bd_r p1]
    rw [pe]
    by_cases t19 : t = 19
    · subst t19
      have e2 := c_takeR (L := L) (scr := scr) (d := d + 28) c1 19
      obtain ⟨h2, b2, e3, u2, n2⟩ := c_readAnyR (L := L) (scr := scr) (d := d + 25) c1 l1.2.2.2.1 0
      obtain ⟨⟨R, hR2, eR⟩, -⟩ := l1.rf.one (u2.mono WOne_r) n2
      obtain ⟨h3, e4, u3, k3⟩ := c_addRule (L := L) (scr := scr) (d := d + 28) 1 (nI w1) (nI b) (hI h2 615 m 0) hR2 eR
      refine ⟨h3, r_Reader_readHarm (d := d + 29) _ _ _ (Sm.ret ?_), (u1.mono WRu_rd).tr ((u2.mono (fun q hq => WRu_one q (WOne_r q hq))).tr (u3.mono WRu_ar)), (c1.fr u2 WLw_rd).fr u3 WAr_cp, RfC.add n2 hR2 eR u3 k3⟩
      have et2 : tkI 19 = 19 := rfl
      replace e1 : E L scr (d + 29) 78 [vR 900006 0, vI 0, vI 100] h = some (some (vI (nI w1)), h1) := e1
      rw [t_Reader_readHarm_0, e1, clI_ok, ea, rd_Reader_tokens ob, ixi, et, et2, if_pos rfl, e2, clV_ok, e3, clV_ok, eb, e4, clV_ok]
    · obtain ⟨h2, e2, u2, c2, l2⟩ := no (fun z => t19 ((tkI_eq (c := 19) tt (by decide)).mp z))
      exact ⟨h2, e2, u2, c2, l2.rf⟩
end CRules3

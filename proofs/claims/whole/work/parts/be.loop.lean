/-! THE LAW'S LOOP (printed by wip/whole/emitloop.py) -/
abbrev loK (k : Nat) : List (Option MV) := [some (vR 99 0), some (vR 900011 0), some (vR 900012 0), some (vI (nI (6 * k)))]
def LI (k : Nat) (h : MH) : Prop := (Wf h ∧ cok h 900011 0 ∧ cok h 900012 0) ∧ Rel h ∧ hc h ≤ 147 + 49 * k ∧ hs h ≤ 41152 + 2871 * k
theorem cok.mono {h h2 : MH} {s n : Nat} (m : Mono h h2) (c : cok h s n) : cok h2 s n := ⟨Nat.lt_of_lt_of_le c.1 (m.1 s), fun q => Nat.lt_of_lt_of_le (c.2 q) (m.2.1 s)⟩
theorem le_up {a b c m k : Nat} (x : a ≤ b + m) (y : b ≤ c + m * k) : a ≤ c + m * (k + 1) := by rw [Nat.mul_succ]; omega
theorem nx64 (x : Int64) : ¬ x < x := by rw [Int64.lt_iff_toInt_lt]; exact Int.lt_irrefl _
theorem disp {P : Option Exit → Prop} {c : Prop} [Decidable c] {a b : Option Exit} (ha : P a) (hb : P b) : P (if c then a else b) := by
  by_cases e : c
  · rw [if_pos e]; exact ha
  · rw [if_neg e]; exact hb
section Loop
variable {l : Launch} {L : Nat} {scr : Nat → Int32} {k : Nat} {h : MH}
theorem rdk {X : Type} {f : Int32 → Option X} (i : Nat) (hi : 6 * k + i < L) (hL : L ≤ 3072) : rdS L scr (nI (6 * k) + nI i) f = f (scr (6 * k + i)) := by
  unfold rdS
  rw [nI_add, if_neg (oob_nI hi (by omega)), ix_nI (by omega)]
theorem rdk0 {X : Type} {f : Int32 → Option X} (hi : 6 * k + 6 ≤ L) (hL : L ≤ 3072) : rdS L scr (nI (6 * k)) f = f (scr (6 * k)) := by
  unfold rdS
  rw [if_neg (oob_nI (by omega) (by omega)), ix_nI (by omega)]
theorem rdk1 {X : Type} {f : Int32 → Option X} (hi : 6 * k + 6 ≤ L) (hL : L ≤ 3072) : rdS L scr (nI (6 * k) + 1) f = f (scr (6 * k + 1)) := rdk 1 (by omega) hL
theorem rdk2 {X : Type} {f : Int32 → Option X} (hi : 6 * k + 6 ≤ L) (hL : L ≤ 3072) : rdS L scr (nI (6 * k) + 2) f = f (scr (6 * k + 2)) := rdk 2 (by omega) hL
theorem rdk3 {X : Type} {f : Int32 → Option X} (hi : 6 * k + 6 ≤ L) (hL : L ≤ 3072) : rdS L scr (nI (6 * k) + 3) f = f (scr (6 * k + 3)) := rdk 3 (by omega) hL
theorem rdk4 {X : Type} {f : Int32 → Option X} (hi : 6 * k + 6 ≤ L) (hL : L ≤ 3072) : rdS L scr (nI (6 * k) + 4) f = f (scr (6 * k + 4)) := rdk 4 (by omega) hL
theorem rdk5 {X : Type} {f : Int32 → Option X} (hi : 6 * k + 6 ≤ L) (hL : L ≤ 3072) : rdS L scr (nI (6 * k) + 5) f = f (scr (6 * k + 5)) := rdk 5 (by omega) hL
/-- both answers with their types -/
theorem StepR.ty (hch : ∀ d own ini law cc nL, ChOk l own ini law cc nL L scr d) {jx jm : Nat} {ax am : List MV} (j1 : Nat.beq jx 902 = false) (j2 : mathB jx = false) (m1 : Nat.beq jm 902 = false) (m2 : mathB jm = false) {q qm : MT} (hq : mtb jx = some q) (hqm : mtb jm = some qm) (i : LI k h) (b : StepR L scr 40 jx jm ax am h) (o1 : ∀ g, cok g 900011 0 → oks g ax) (o2 : ∀ g, cok g 900012 0 → oks g am) : ∃ r h1 h2, E L scr 40 jx ax h = some (some r, h1) ∧ E L scr 40 jm am h1 = some (some r, h2) ∧ RetT q.1.2.2.2.1 (some r) ∧ LI (k + 1) h2 := by
  obtain ⟨r, h1, h2, e1, e2, rel, n1, n2⟩ := b
  obtain ⟨⟨w, c1, c2⟩, -, i1, i2⟩ := i
  obtain ⟨t1, w1, mo1⟩ := ev_typ mt_ok mt_ck (fun d own ini cc nL => hch d own ini false cc nL) (d := 39) j1 j2 hq w (o1 h c1) e1
  obtain ⟨-, w2, mo2⟩ := ev_typ mt_ok mt_ck (fun d own ini cc nL => hch d own ini false cc nL) (d := 39) m1 m2 hqm w1 (o2 h1 (c2.mono mo1)) e2
  exact ⟨r, h1, h2, e1, e2, t1, ⟨w2, (c1.mono mo1).mono mo2, (c2.mono mo1).mono mo2⟩, rel, le_up n1 i1, le_up n2 i2⟩
/-- a step from the cut t -/
def OpT (L : Nat) (scr : Nat → Int32) (k : Nat) (t : Nat) (h : MH) : Prop := ∃ h2, LI (k + 1) h2 ∧ ∀ r, Sm L scr 40 B_Law0_law C_Law0_law 59 (loK k) [] h2 r → Sm L scr 40 B_Law0_law C_Law0_law t (loK k) [] h r
theorem op_2 (hch : ∀ d own ini law cc nL, ChOk l own ini law cc nL L scr d) (hk : 6 * k + 6 ≤ L) (hL : L ≤ 3072) (i : LI k h) : OpT L scr k 2 h := by
  obtain ⟨r, h1, h2, e1, e2, ty, i2⟩ := StepR.ty hch (jx := 124) (jm := 206) rfl rfl rfl rfl m_P_feed m_M_feed i (st_feed (L := L) (scr := scr) (d := 0) (scr (6 * k + 1)) (scr (6 * k + 2)) (scr (6 * k + 3)) (scr (6 * k + 4)) (scr (6 * k + 5)) h i.2.1) (fun _ c => ⟨Or.inr c, trivial, trivial, trivial, trivial, trivial, trivial⟩) (fun _ c => ⟨Or.inr c, trivial, trivial, trivial, trivial, trivial, trivial⟩)
  obtain ⟨x, rfl⟩ : ∃ x, r = vI x := by obtain ⟨x, e⟩ := ty.1 (by first | exact Or.inl rfl | exact Or.inr rfl); exact ⟨x, Option.some.inj e⟩
  exact ⟨h2, i2, fun r s => Sm.step (by rw [t_Law0_law_2, rdk1 hk hL, rdk2 hk hL, rdk3 hk hL, rdk4 hk hL, rdk5 hk hL, e1, clI_ok, rdk1 hk hL, rdk2 hk hL, rdk3 hk hL, rdk4 hk hL, rdk5 hk hL, e2, clI_ok, if_pos rfl]) s⟩
theorem op_3 (hch : ∀ d own ini law cc nL, ChOk l own ini law cc nL L scr d) (hk : 6 * k + 6 ≤ L) (hL : L ≤ 3072) (i : LI k h) : OpT L scr k 3 h := by
  obtain ⟨r, h1, h2, e1, e2, ty, i2⟩ := StepR.ty hch (jx := 125) (jm := 230) rfl rfl rfl rfl m_P_law m_M_law i (st_law (L := L) (scr := scr) (d := 0) (scr (6 * k + 1)) (scr (6 * k + 2)) h i.2.1) (fun _ c => ⟨Or.inr c, trivial, trivial, trivial⟩) (fun _ c => ⟨Or.inr c, trivial, trivial, trivial⟩)
  obtain ⟨x, rfl⟩ : ∃ x, r = vI x := by obtain ⟨x, e⟩ := ty.1 (by first | exact Or.inl rfl | exact Or.inr rfl); exact ⟨x, Option.some.inj e⟩
  exact ⟨h2, i2, fun r s => Sm.step (by rw [t_Law0_law_3, rdk1 hk hL, rdk2 hk hL, e1, clI_ok, rdk1 hk hL, rdk2 hk hL, e2, clI_ok, if_pos rfl]) s⟩
theorem op_4 (hch : ∀ d own ini law cc nL, ChOk l own ini law cc nL L scr d) (hk : 6 * k + 6 ≤ L) (hL : L ≤ 3072) (i : LI k h) : OpT L scr k 4 h := by
  obtain ⟨r, h1, h2, e1, e2, ty, i2⟩ := StepR.ty hch (jx := 126) (jm := 231) rfl rfl rfl rfl m_P_fault m_M_fault i (st_fault (L := L) (scr := scr) (d := 0)  h i.2.1) (fun _ c => ⟨Or.inr c, trivial⟩) (fun _ c => ⟨Or.inr c, trivial⟩)
  obtain ⟨x, rfl⟩ : ∃ x, r = vI x := by obtain ⟨x, e⟩ := ty.1 (by first | exact Or.inl rfl | exact Or.inr rfl); exact ⟨x, Option.some.inj e⟩
  exact ⟨h2, i2, fun r s => Sm.step (by rw [t_Law0_law_4, e1, clI_ok, e2, clI_ok, if_pos rfl]) s⟩
theorem op_5 (hch : ∀ d own ini law cc nL, ChOk l own ini law cc nL L scr d) (hk : 6 * k + 6 ≤ L) (hL : L ≤ 3072) (i : LI k h) : OpT L scr k 5 h := by
  obtain ⟨r, h1, h2, e1, e2, ty, i2⟩ := StepR.ty hch (jx := 127) (jm := 234) rfl rfl rfl rfl m_P_rule m_M_rule_1 i (st_rule (L := L) (scr := scr) (d := 0) (scr (6 * k + 1)) (scr (6 * k + 2)) h i.2.1) (fun _ c => ⟨Or.inr c, trivial, trivial, trivial⟩) (fun _ c => ⟨Or.inr c, trivial, trivial, trivial⟩)
  obtain ⟨x, rfl⟩ : ∃ x, r = vI x := by obtain ⟨x, e⟩ := ty.1 (by first | exact Or.inl rfl | exact Or.inr rfl); exact ⟨x, Option.some.inj e⟩
  exact ⟨h2, i2, fun r s => Sm.step (by rw [t_Law0_law_5, rdk1 hk hL, rdk2 hk hL, e1, clI_ok, rdk1 hk hL, rdk2 hk hL, e2, clI_ok, if_pos rfl]) s⟩
theorem op_6 (hch : ∀ d own ini law cc nL, ChOk l own ini law cc nL L scr d) (hk : 6 * k + 6 ≤ L) (hL : L ≤ 3072) (i : LI k h) : OpT L scr k 6 h := by
  obtain ⟨r, h1, h2, e1, e2, ty, i2⟩ := StepR.ty hch (jx := 128) (jm := 235) rfl rfl rfl rfl m_P_water m_M_water i (st_water (L := L) (scr := scr) (d := 0) (scr (6 * k + 1)) (scr (6 * k + 2)) h i.2.1) (fun _ c => ⟨Or.inr c, trivial, trivial, trivial⟩) (fun _ c => ⟨Or.inr c, trivial, trivial, trivial⟩)
  obtain ⟨x, rfl⟩ : ∃ x, r = vI x := by obtain ⟨x, e⟩ := ty.1 (by first | exact Or.inl rfl | exact Or.inr rfl); exact ⟨x, Option.some.inj e⟩
  exact ⟨h2, i2, fun r s => Sm.step (by rw [t_Law0_law_6, rdk1 hk hL, rdk2 hk hL, e1, clI_ok, rdk1 hk hL, rdk2 hk hL, e2, clI_ok, if_pos rfl]) s⟩
theorem op_7 (hch : ∀ d own ini law cc nL, ChOk l own ini law cc nL L scr d) (hk : 6 * k + 6 ≤ L) (hL : L ≤ 3072) (i : LI k h) : OpT L scr k 7 h := by
  obtain ⟨r, h1, h2, e1, e2, ty, i2⟩ := StepR.ty hch (jx := 129) (jm := 236) rfl rfl rfl rfl m_P_rain m_M_rain i (st_rain (L := L) (scr := scr) (d := 0) (scr (6 * k + 1)) (scr (6 * k + 2)) (scr (6 * k + 3)) h i.2.1) (fun _ c => ⟨Or.inr c, trivial, trivial, trivial, trivial⟩) (fun _ c => ⟨Or.inr c, trivial, trivial, trivial, trivial⟩)
  obtain ⟨x, rfl⟩ : ∃ x, r = vI x := by obtain ⟨x, e⟩ := ty.1 (by first | exact Or.inl rfl | exact Or.inr rfl); exact ⟨x, Option.some.inj e⟩
  exact ⟨h2, i2, fun r s => Sm.step (by rw [t_Law0_law_7, rdk1 hk hL, rdk2 hk hL, rdk3 hk hL, e1, clI_ok, rdk1 hk hL, rdk2 hk hL, rdk3 hk hL, e2, clI_ok, if_pos rfl]) s⟩
theorem op_8 (hch : ∀ d own ini law cc nL, ChOk l own ini law cc nL L scr d) (hk : 6 * k + 6 ≤ L) (hL : L ≤ 3072) (i : LI k h) : OpT L scr k 8 h := by
  obtain ⟨r, h1, h2, e1, e2, ty, i2⟩ := StepR.ty hch (jx := 130) (jm := 241) rfl rfl rfl rfl m_P_boat m_M_boat i (st_boat (L := L) (scr := scr) (d := 0) (scr (6 * k + 1)) h i.2.1) (fun _ c => ⟨Or.inr c, trivial, trivial⟩) (fun _ c => ⟨Or.inr c, trivial, trivial⟩)
  obtain ⟨x, rfl⟩ : ∃ x, r = vI x := by obtain ⟨x, e⟩ := ty.1 (by first | exact Or.inl rfl | exact Or.inr rfl); exact ⟨x, Option.some.inj e⟩
  exact ⟨h2, i2, fun r s => Sm.step (by rw [t_Law0_law_8, rdk1 hk hL, e1, clI_ok, rdk1 hk hL, e2, clI_ok, if_pos rfl]) s⟩
theorem op_9 (hch : ∀ d own ini law cc nL, ChOk l own ini law cc nL L scr d) (hk : 6 * k + 6 ≤ L) (hL : L ≤ 3072) (i : LI k h) : OpT L scr k 9 h := by
  obtain ⟨r, h1, h2, e1, e2, ty, i2⟩ := StepR.ty hch (jx := 131) (jm := 254) rfl rfl rfl rfl m_P_free m_M_free i (st_free (L := L) (scr := scr) (d := 0) (scr (6 * k + 1)) (scr (6 * k + 2)) h i.2.1) (fun _ c => ⟨Or.inr c, trivial, trivial, trivial⟩) (fun _ c => ⟨Or.inr c, trivial, trivial, trivial⟩)
  obtain ⟨x, rfl⟩ : ∃ x, r = vI x := by obtain ⟨x, e⟩ := ty.1 (by first | exact Or.inl rfl | exact Or.inr rfl); exact ⟨x, Option.some.inj e⟩
  exact ⟨h2, i2, fun r s => Sm.step (by rw [t_Law0_law_9, rdk1 hk hL, rdk2 hk hL, e1, clI_ok, rdk1 hk hL, rdk2 hk hL, e2, clI_ok, if_pos rfl]) s⟩
theorem op_10 (hch : ∀ d own ini law cc nL, ChOk l own ini law cc nL L scr d) (hk : 6 * k + 6 ≤ L) (hL : L ≤ 3072) (i : LI k h) : OpT L scr k 10 h := by
  obtain ⟨r, h1, h2, e1, e2, ty, i2⟩ := StepR.ty hch (jx := 132) (jm := 256) rfl rfl rfl rfl m_P_out m_M_out i (st_out (L := L) (scr := scr) (d := 0) (scr (6 * k + 1)) (scr (6 * k + 2)) (scr (6 * k + 3)) (scr (6 * k + 4)) h i.2.1) (fun _ c => ⟨Or.inr c, trivial, trivial, trivial, trivial, trivial⟩) (fun _ c => ⟨Or.inr c, trivial, trivial, trivial, trivial, trivial⟩)
  obtain ⟨x, rfl⟩ : ∃ x, r = vI x := by obtain ⟨x, e⟩ := ty.1 (by first | exact Or.inl rfl | exact Or.inr rfl); exact ⟨x, Option.some.inj e⟩
  exact ⟨h2, i2, fun r s => Sm.step (by rw [t_Law0_law_10, rdk1 hk hL, rdk2 hk hL, rdk3 hk hL, rdk4 hk hL, e1, clI_ok, rdk1 hk hL, rdk2 hk hL, rdk3 hk hL, rdk4 hk hL, e2, clI_ok, if_pos rfl]) s⟩
theorem op_11 (hch : ∀ d own ini law cc nL, ChOk l own ini law cc nL L scr d) (hk : 6 * k + 6 ≤ L) (hL : L ≤ 3072) (i : LI k h) : OpT L scr k 11 h := by
  obtain ⟨r, h1, h2, e1, e2, ty, i2⟩ := StepR.ty hch (jx := 133) (jm := 258) rfl rfl rfl rfl m_P_back m_M_back i (st_back (L := L) (scr := scr) (d := 0) (scr (6 * k + 1)) (scr (6 * k + 2)) h i.2.1) (fun _ c => ⟨Or.inr c, trivial, trivial, trivial⟩) (fun _ c => ⟨Or.inr c, trivial, trivial, trivial⟩)
  obtain ⟨x, rfl⟩ : ∃ x, r = vI x := by obtain ⟨x, e⟩ := ty.1 (by first | exact Or.inl rfl | exact Or.inr rfl); exact ⟨x, Option.some.inj e⟩
  exact ⟨h2, i2, fun r s => Sm.step (by rw [t_Law0_law_11, rdk1 hk hL, rdk2 hk hL, e1, clI_ok, rdk1 hk hL, rdk2 hk hL, e2, clI_ok, if_pos rfl]) s⟩
theorem op_12 (hch : ∀ d own ini law cc nL, ChOk l own ini law cc nL L scr d) (hk : 6 * k + 6 ≤ L) (hL : L ≤ 3072) (i : LI k h) : OpT L scr k 12 h := by
  obtain ⟨r, h1, h2, e1, e2, ty, i2⟩ := StepR.ty hch (jx := 134) (jm := 259) rfl rfl rfl rfl m_P_mend m_M_mend i (st_mend (L := L) (scr := scr) (d := 0) (scr (6 * k + 1)) (scr (6 * k + 2)) h i.2.1) (fun _ c => ⟨Or.inr c, trivial, trivial, trivial⟩) (fun _ c => ⟨Or.inr c, trivial, trivial, trivial⟩)
  obtain ⟨x, rfl⟩ : ∃ x, r = vI x := by obtain ⟨x, e⟩ := ty.1 (by first | exact Or.inl rfl | exact Or.inr rfl); exact ⟨x, Option.some.inj e⟩
  exact ⟨h2, i2, fun r s => Sm.step (by rw [t_Law0_law_12, rdk1 hk hL, rdk2 hk hL, e1, clI_ok, rdk1 hk hL, rdk2 hk hL, e2, clI_ok, if_pos rfl]) s⟩
theorem op_13 (hch : ∀ d own ini law cc nL, ChOk l own ini law cc nL L scr d) (hk : 6 * k + 6 ≤ L) (hL : L ≤ 3072) (i : LI k h) : OpT L scr k 13 h := by
  obtain ⟨r, h1, h2, e1, e2, ty, i2⟩ := StepR.ty hch (jx := 135) (jm := 260) rfl rfl rfl rfl m_P_swamp m_M_swamp i (st_swamp (L := L) (scr := scr) (d := 0) (scr (6 * k + 1)) (scr (6 * k + 2)) h i.2.1) (fun _ c => ⟨Or.inr c, trivial, trivial, trivial⟩) (fun _ c => ⟨Or.inr c, trivial, trivial, trivial⟩)
  obtain ⟨x, rfl⟩ : ∃ x, r = vI x := by obtain ⟨x, e⟩ := ty.1 (by first | exact Or.inl rfl | exact Or.inr rfl); exact ⟨x, Option.some.inj e⟩
  exact ⟨h2, i2, fun r s => Sm.step (by rw [t_Law0_law_13, rdk1 hk hL, rdk2 hk hL, e1, clI_ok, rdk1 hk hL, rdk2 hk hL, e2, clI_ok, if_pos rfl]) s⟩
theorem op_14 (hch : ∀ d own ini law cc nL, ChOk l own ini law cc nL L scr d) (hk : 6 * k + 6 ≤ L) (hL : L ≤ 3072) (i : LI k h) : OpT L scr k 14 h := by
  obtain ⟨r, h1, h2, e1, e2, ty, i2⟩ := StepR.ty hch (jx := 136) (jm := 261) rfl rfl rfl rfl m_P_cushions m_M_cushions i (st_cushions (L := L) (scr := scr) (d := 0) (scr (6 * k + 1)) (scr (6 * k + 2)) (scr (6 * k + 3)) h i.2.1) (fun _ c => ⟨Or.inr c, trivial, trivial, trivial, trivial⟩) (fun _ c => ⟨Or.inr c, trivial, trivial, trivial, trivial⟩)
  obtain ⟨x, rfl⟩ : ∃ x, r = vI x := by obtain ⟨x, e⟩ := ty.1 (by first | exact Or.inl rfl | exact Or.inr rfl); exact ⟨x, Option.some.inj e⟩
  exact ⟨h2, i2, fun r s => Sm.step (by rw [t_Law0_law_14, rdk1 hk hL, rdk2 hk hL, rdk3 hk hL, e1, clI_ok, rdk1 hk hL, rdk2 hk hL, rdk3 hk hL, e2, clI_ok, if_pos rfl]) s⟩
theorem op_15 (hch : ∀ d own ini law cc nL, ChOk l own ini law cc nL L scr d) (hk : 6 * k + 6 ≤ L) (hL : L ≤ 3072) (i : LI k h) : OpT L scr k 15 h := by
  obtain ⟨r, h1, h2, e1, e2, ty, i2⟩ := StepR.ty hch (jx := 137) (jm := 238) rfl rfl rfl rfl m_P_weed m_M_weed i (st_weed (L := L) (scr := scr) (d := 0) (scr (6 * k + 1)) h i.2.1) (fun _ c => ⟨Or.inr c, trivial, trivial⟩) (fun _ c => ⟨Or.inr c, trivial, trivial⟩)
  obtain ⟨x, rfl⟩ : ∃ x, r = vI x := by obtain ⟨x, e⟩ := ty.1 (by first | exact Or.inl rfl | exact Or.inr rfl); exact ⟨x, Option.some.inj e⟩
  exact ⟨h2, i2, fun r s => Sm.step (by rw [t_Law0_law_15, rdk1 hk hL, e1, clI_ok, rdk1 hk hL, e2, clI_ok, if_pos rfl]) s⟩
theorem op_16 (hch : ∀ d own ini law cc nL, ChOk l own ini law cc nL L scr d) (hk : 6 * k + 6 ≤ L) (hL : L ≤ 3072) (i : LI k h) : OpT L scr k 16 h := by
  obtain ⟨r, h1, h2, e1, e2, ty, i2⟩ := StepR.ty hch (jx := 138) (jm := 239) rfl rfl rfl rfl m_P_cut m_M_cut i (st_cut (L := L) (scr := scr) (d := 0) (scr (6 * k + 1)) h i.2.1) (fun _ c => ⟨Or.inr c, trivial, trivial⟩) (fun _ c => ⟨Or.inr c, trivial, trivial⟩)
  obtain ⟨x, rfl⟩ : ∃ x, r = vI x := by obtain ⟨x, e⟩ := ty.1 (by first | exact Or.inl rfl | exact Or.inr rfl); exact ⟨x, Option.some.inj e⟩
  exact ⟨h2, i2, fun r s => Sm.step (by rw [t_Law0_law_16, rdk1 hk hL, e1, clI_ok, rdk1 hk hL, e2, clI_ok, if_pos rfl]) s⟩
theorem op_17 (hch : ∀ d own ini law cc nL, ChOk l own ini law cc nL L scr d) (hk : 6 * k + 6 ≤ L) (hL : L ≤ 3072) (i : LI k h) : OpT L scr k 17 h := by
  obtain ⟨r, h1, h2, e1, e2, ty, i2⟩ := StepR.ty hch (jx := 139) (jm := 262) rfl rfl rfl rfl m_P_hire m_M_hire i (st_hire (L := L) (scr := scr) (d := 0) (scr (6 * k + 1)) (scr (6 * k + 2)) h i.2.1) (fun _ c => ⟨Or.inr c, trivial, trivial, trivial⟩) (fun _ c => ⟨Or.inr c, trivial, trivial, trivial⟩)
  obtain ⟨x, rfl⟩ : ∃ x, r = vI x := by obtain ⟨x, e⟩ := ty.1 (by first | exact Or.inl rfl | exact Or.inr rfl); exact ⟨x, Option.some.inj e⟩
  exact ⟨h2, i2, fun r s => Sm.step (by rw [t_Law0_law_17, rdk1 hk hL, rdk2 hk hL, e1, clI_ok, rdk1 hk hL, rdk2 hk hL, e2, clI_ok, if_pos rfl]) s⟩
theorem op_18 (hch : ∀ d own ini law cc nL, ChOk l own ini law cc nL L scr d) (hk : 6 * k + 6 ≤ L) (hL : L ≤ 3072) (i : LI k h) : OpT L scr k 18 h := by
  obtain ⟨r, h1, h2, e1, e2, ty, i2⟩ := StepR.ty hch (jx := 140) (jm := 263) rfl rfl rfl rfl m_P_known m_M_known i (st_known (L := L) (scr := scr) (d := 0) (scr (6 * k + 1)) (scr (6 * k + 2)) h i.2.1) (fun _ c => ⟨Or.inr c, trivial, trivial, trivial⟩) (fun _ c => ⟨Or.inr c, trivial, trivial, trivial⟩)
  obtain ⟨x, rfl⟩ : ∃ x, r = vI x := by obtain ⟨x, e⟩ := ty.1 (by first | exact Or.inl rfl | exact Or.inr rfl); exact ⟨x, Option.some.inj e⟩
  exact ⟨h2, i2, fun r s => Sm.step (by rw [t_Law0_law_18, rdk1 hk hL, rdk2 hk hL, e1, clI_ok, rdk1 hk hL, rdk2 hk hL, e2, clI_ok, if_pos rfl]) s⟩
theorem op_19 (hch : ∀ d own ini law cc nL, ChOk l own ini law cc nL L scr d) (hk : 6 * k + 6 ≤ L) (hL : L ≤ 3072) (i : LI k h) : OpT L scr k 19 h := by
  obtain ⟨r, h1, h2, e1, e2, ty, i2⟩ := StepR.ty hch (jx := 141) (jm := 274) rfl rfl rfl rfl m_P_bill m_M_bill i (st_bill (L := L) (scr := scr) (d := 0) (scr (6 * k + 1)) (scr (6 * k + 2)) (scr (6 * k + 3)) h i.2.1) (fun _ c => ⟨Or.inr c, trivial, trivial, trivial, trivial⟩) (fun _ c => ⟨Or.inr c, trivial, trivial, trivial, trivial⟩)
  obtain ⟨x, rfl⟩ : ∃ x, r = vI x := by obtain ⟨x, e⟩ := ty.1 (by first | exact Or.inl rfl | exact Or.inr rfl); exact ⟨x, Option.some.inj e⟩
  exact ⟨h2, i2, fun r s => Sm.step (by rw [t_Law0_law_19, rdk1 hk hL, rdk2 hk hL, rdk3 hk hL, e1, clI_ok, rdk1 hk hL, rdk2 hk hL, rdk3 hk hL, e2, clI_ok, if_pos rfl]) s⟩
theorem op_20 (hch : ∀ d own ini law cc nL, ChOk l own ini law cc nL L scr d) (hk : 6 * k + 6 ≤ L) (hL : L ≤ 3072) (i : LI k h) : OpT L scr k 20 h := by
  obtain ⟨r, h1, h2, e1, e2, ty, i2⟩ := StepR.ty hch (jx := 142) (jm := 275) rfl rfl rfl rfl m_P_outs m_M_outs i (st_outs (L := L) (scr := scr) (d := 0) (scr (6 * k + 1)) (scr (6 * k + 2)) h i.2.1) (fun _ c => ⟨Or.inr c, trivial, trivial, trivial⟩) (fun _ c => ⟨Or.inr c, trivial, trivial, trivial⟩)
  obtain ⟨x, rfl⟩ : ∃ x, r = vI x := by obtain ⟨x, e⟩ := ty.1 (by first | exact Or.inl rfl | exact Or.inr rfl); exact ⟨x, Option.some.inj e⟩
  exact ⟨h2, i2, fun r s => Sm.step (by rw [t_Law0_law_20, rdk1 hk hL, rdk2 hk hL, e1, clI_ok, rdk1 hk hL, rdk2 hk hL, e2, clI_ok, if_pos rfl]) s⟩
theorem op_21 (hch : ∀ d own ini law cc nL, ChOk l own ini law cc nL L scr d) (hk : 6 * k + 6 ≤ L) (hL : L ≤ 3072) (i : LI k h) : OpT L scr k 21 h := by
  obtain ⟨r, h1, h2, e1, e2, ty, i2⟩ := StepR.ty hch (jx := 143) (jm := 277) rfl rfl rfl rfl m_P_takings m_M_takings i (st_takings (L := L) (scr := scr) (d := 0) (scr (6 * k + 1)) (scr (6 * k + 2)) h i.2.1) (fun _ c => ⟨Or.inr c, trivial, trivial, trivial⟩) (fun _ c => ⟨Or.inr c, trivial, trivial, trivial⟩)
  obtain ⟨x, rfl⟩ : ∃ x, r = vI x := by obtain ⟨x, e⟩ := ty.1 (by first | exact Or.inl rfl | exact Or.inr rfl); exact ⟨x, Option.some.inj e⟩
  exact ⟨h2, i2, fun r s => Sm.step (by rw [t_Law0_law_21, rdk1 hk hL, rdk2 hk hL, e1, clI_ok, rdk1 hk hL, rdk2 hk hL, e2, clI_ok, if_pos rfl]) s⟩
theorem op_22 (hch : ∀ d own ini law cc nL, ChOk l own ini law cc nL L scr d) (hk : 6 * k + 6 ≤ L) (hL : L ≤ 3072) (i : LI k h) : OpT L scr k 22 h := by
  obtain ⟨r, h1, h2, e1, e2, ty, i2⟩ := StepR.ty hch (jx := 144) (jm := 279) rfl rfl rfl rfl m_P_differ m_M_differ i (st_differ (L := L) (scr := scr) (d := 0) (scr (6 * k + 1)) (scr (6 * k + 2)) (scr (6 * k + 3)) h i.2.1) (fun _ c => ⟨Or.inr c, trivial, trivial, trivial, trivial⟩) (fun _ c => ⟨Or.inr c, trivial, trivial, trivial, trivial⟩)
  obtain ⟨x, rfl⟩ : ∃ x, r = vI x := by obtain ⟨x, e⟩ := ty.1 (by first | exact Or.inl rfl | exact Or.inr rfl); exact ⟨x, Option.some.inj e⟩
  exact ⟨h2, i2, fun r s => Sm.step (by rw [t_Law0_law_22, rdk1 hk hL, rdk2 hk hL, rdk3 hk hL, e1, clI_ok, rdk1 hk hL, rdk2 hk hL, rdk3 hk hL, e2, clI_ok, if_pos rfl]) s⟩
theorem op_23 (hch : ∀ d own ini law cc nL, ChOk l own ini law cc nL L scr d) (hk : 6 * k + 6 ≤ L) (hL : L ≤ 3072) (i : LI k h) : OpT L scr k 23 h := by
  obtain ⟨r, h1, h2, e1, e2, ty, i2⟩ := StepR.ty hch (jx := 145) (jm := 280) rfl rfl rfl rfl m_P_cost m_M_cost i (st_cost (L := L) (scr := scr) (d := 0) (scr (6 * k + 1)) (scr (6 * k + 2)) h i.2.1) (fun _ c => ⟨Or.inr c, trivial, trivial, trivial⟩) (fun _ c => ⟨Or.inr c, trivial, trivial, trivial⟩)
  obtain ⟨x, rfl⟩ : ∃ x, r = vI x := by obtain ⟨x, e⟩ := ty.1 (by first | exact Or.inl rfl | exact Or.inr rfl); exact ⟨x, Option.some.inj e⟩
  exact ⟨h2, i2, fun r s => Sm.step (by rw [t_Law0_law_23, rdk1 hk hL, rdk2 hk hL, e1, clI_ok, rdk1 hk hL, rdk2 hk hL, e2, clI_ok, if_pos rfl]) s⟩
theorem op_24 (hch : ∀ d own ini law cc nL, ChOk l own ini law cc nL L scr d) (hk : 6 * k + 6 ≤ L) (hL : L ≤ 3072) (i : LI k h) : OpT L scr k 24 h := by
  obtain ⟨r, h1, h2, e1, e2, ty, i2⟩ := StepR.ty hch (jx := 146) (jm := 281) rfl rfl rfl rfl m_P_worst m_M_worst i (st_worst (L := L) (scr := scr) (d := 0) (scr (6 * k + 1)) (scr (6 * k + 2)) (scr (6 * k + 3)) h i.2.1) (fun _ c => ⟨Or.inr c, trivial, trivial, trivial, trivial⟩) (fun _ c => ⟨Or.inr c, trivial, trivial, trivial, trivial⟩)
  obtain ⟨x, rfl⟩ : ∃ x, r = vI x := by obtain ⟨x, e⟩ := ty.1 (by first | exact Or.inl rfl | exact Or.inr rfl); exact ⟨x, Option.some.inj e⟩
  exact ⟨h2, i2, fun r s => Sm.step (by rw [t_Law0_law_24, rdk1 hk hL, rdk2 hk hL, rdk3 hk hL, e1, clI_ok, rdk1 hk hL, rdk2 hk hL, rdk3 hk hL, e2, clI_ok, if_pos rfl]) s⟩
theorem op_25 (hch : ∀ d own ini law cc nL, ChOk l own ini law cc nL L scr d) (hk : 6 * k + 6 ≤ L) (hL : L ≤ 3072) (i : LI k h) : OpT L scr k 25 h := by
  obtain ⟨r, h1, h2, e1, e2, ty, i2⟩ := StepR.ty hch (jx := 147) (jm := 283) rfl rfl rfl rfl m_P_together m_M_together i (st_together (L := L) (scr := scr) (d := 0) (scr (6 * k + 1)) (scr (6 * k + 2)) (scr (6 * k + 3)) (scr (6 * k + 4)) (scr (6 * k + 5)) h i.2.1) (fun _ c => ⟨Or.inr c, trivial, trivial, trivial, trivial, trivial, trivial⟩) (fun _ c => ⟨Or.inr c, trivial, trivial, trivial, trivial, trivial, trivial⟩)
  obtain ⟨x, rfl⟩ : ∃ x, r = vI x := by obtain ⟨x, e⟩ := ty.1 (by first | exact Or.inl rfl | exact Or.inr rfl); exact ⟨x, Option.some.inj e⟩
  exact ⟨h2, i2, fun r s => Sm.step (by rw [t_Law0_law_25, rdk1 hk hL, rdk2 hk hL, rdk3 hk hL, rdk4 hk hL, rdk5 hk hL, e1, clI_ok, rdk1 hk hL, rdk2 hk hL, rdk3 hk hL, rdk4 hk hL, rdk5 hk hL, e2, clI_ok, if_pos rfl]) s⟩
theorem op_26 (hch : ∀ d own ini law cc nL, ChOk l own ini law cc nL L scr d) (hk : 6 * k + 6 ≤ L) (hL : L ≤ 3072) (i : LI k h) : OpT L scr k 26 h := by
  obtain ⟨r, h1, h2, e1, e2, ty, i2⟩ := StepR.ty hch (jx := 148) (jm := 285) rfl rfl rfl rfl m_P_worn m_M_worn i (st_worn (L := L) (scr := scr) (d := 0) (scr (6 * k + 1)) (scr (6 * k + 2)) (scr (6 * k + 3)) h i.2.1) (fun _ c => ⟨Or.inr c, trivial, trivial, trivial, trivial⟩) (fun _ c => ⟨Or.inr c, trivial, trivial, trivial, trivial⟩)
  obtain ⟨x, rfl⟩ : ∃ x, r = vI x := by obtain ⟨x, e⟩ := ty.1 (by first | exact Or.inl rfl | exact Or.inr rfl); exact ⟨x, Option.some.inj e⟩
  exact ⟨h2, i2, fun r s => Sm.step (by rw [t_Law0_law_26, rdk1 hk hL, rdk2 hk hL, rdk3 hk hL, e1, clI_ok, rdk1 hk hL, rdk2 hk hL, rdk3 hk hL, e2, clI_ok, if_pos rfl]) s⟩
theorem op_27 (hch : ∀ d own ini law cc nL, ChOk l own ini law cc nL L scr d) (hk : 6 * k + 6 ≤ L) (hL : L ≤ 3072) (i : LI k h) : OpT L scr k 27 h := by
  obtain ⟨r, h1, h2, e1, e2, ty, i2⟩ := StepR.ty hch (jx := 149) (jm := 286) rfl rfl rfl rfl m_P_old m_M_old i (st_old (L := L) (scr := scr) (d := 0) (scr (6 * k + 1)) (scr (6 * k + 2)) h i.2.1) (fun _ c => ⟨Or.inr c, trivial, trivial, trivial⟩) (fun _ c => ⟨Or.inr c, trivial, trivial, trivial⟩)
  obtain ⟨x, rfl⟩ : ∃ x, r = vI x := by obtain ⟨x, e⟩ := ty.1 (by first | exact Or.inl rfl | exact Or.inr rfl); exact ⟨x, Option.some.inj e⟩
  exact ⟨h2, i2, fun r s => Sm.step (by rw [t_Law0_law_27, rdk1 hk hL, rdk2 hk hL, e1, clI_ok, rdk1 hk hL, rdk2 hk hL, e2, clI_ok, if_pos rfl]) s⟩
theorem op_28 (hch : ∀ d own ini law cc nL, ChOk l own ini law cc nL L scr d) (hk : 6 * k + 6 ≤ L) (hL : L ≤ 3072) (i : LI k h) : OpT L scr k 28 h := by
  obtain ⟨r, h1, h2, e1, e2, ty, i2⟩ := StepR.ty hch (jx := 150) (jm := 287) rfl rfl rfl rfl m_P_doubt m_M_doubt i (st_doubt (L := L) (scr := scr) (d := 0) (scr (6 * k + 1)) (scr (6 * k + 2)) h i.2.1) (fun _ c => ⟨Or.inr c, trivial, trivial, trivial⟩) (fun _ c => ⟨Or.inr c, trivial, trivial, trivial⟩)
  obtain ⟨x, rfl⟩ : ∃ x, r = vI x := by obtain ⟨x, e⟩ := ty.1 (by first | exact Or.inl rfl | exact Or.inr rfl); exact ⟨x, Option.some.inj e⟩
  exact ⟨h2, i2, fun r s => Sm.step (by rw [t_Law0_law_28, rdk1 hk hL, rdk2 hk hL, e1, clI_ok, rdk1 hk hL, rdk2 hk hL, e2, clI_ok, if_pos rfl]) s⟩
theorem op_29 (hch : ∀ d own ini law cc nL, ChOk l own ini law cc nL L scr d) (hk : 6 * k + 6 ≤ L) (hL : L ≤ 3072) (i : LI k h) : OpT L scr k 29 h := by
  obtain ⟨r, h1, h2, e1, e2, ty, i2⟩ := StepR.ty hch (jx := 151) (jm := 289) rfl rfl rfl rfl m_P_queue m_M_queue i (st_queue (L := L) (scr := scr) (d := 0) (scr (6 * k + 1)) (scr (6 * k + 2)) (scr (6 * k + 3)) (scr (6 * k + 4)) h i.2.1) (fun _ c => ⟨Or.inr c, trivial, trivial, trivial, trivial, trivial⟩) (fun _ c => ⟨Or.inr c, trivial, trivial, trivial, trivial, trivial⟩)
  obtain ⟨x, rfl⟩ : ∃ x, r = vI x := by obtain ⟨x, e⟩ := ty.1 (by first | exact Or.inl rfl | exact Or.inr rfl); exact ⟨x, Option.some.inj e⟩
  exact ⟨h2, i2, fun r s => Sm.step (by rw [t_Law0_law_29, rdk1 hk hL, rdk2 hk hL, rdk3 hk hL, rdk4 hk hL, e1, clI_ok, rdk1 hk hL, rdk2 hk hL, rdk3 hk hL, rdk4 hk hL, e2, clI_ok, if_pos rfl]) s⟩
theorem op_30 (hch : ∀ d own ini law cc nL, ChOk l own ini law cc nL L scr d) (hk : 6 * k + 6 ≤ L) (hL : L ≤ 3072) (i : LI k h) : OpT L scr k 30 h := by
  obtain ⟨r, h1, h2, e1, e2, ty, i2⟩ := StepR.ty hch (jx := 152) (jm := 290) rfl rfl rfl rfl m_P_chance m_M_chance i (st_chance (L := L) (scr := scr) (d := 0) (scr (6 * k + 1)) (scr (6 * k + 2)) (scr (6 * k + 3)) h i.2.1) (fun _ c => ⟨Or.inr c, trivial, trivial, trivial, trivial⟩) (fun _ c => ⟨Or.inr c, trivial, trivial, trivial, trivial⟩)
  obtain ⟨x, rfl⟩ : ∃ x, r = vI x := by obtain ⟨x, e⟩ := ty.1 (by first | exact Or.inl rfl | exact Or.inr rfl); exact ⟨x, Option.some.inj e⟩
  exact ⟨h2, i2, fun r s => Sm.step (by rw [t_Law0_law_30, rdk1 hk hL, rdk2 hk hL, rdk3 hk hL, e1, clI_ok, rdk1 hk hL, rdk2 hk hL, rdk3 hk hL, e2, clI_ok, if_pos rfl]) s⟩
theorem op_31 (hch : ∀ d own ini law cc nL, ChOk l own ini law cc nL L scr d) (hk : 6 * k + 6 ≤ L) (hL : L ≤ 3072) (i : LI k h) : OpT L scr k 31 h := by
  obtain ⟨r, h1, h2, e1, e2, ty, i2⟩ := StepR.ty hch (jx := 153) (jm := 295) rfl rfl rfl rfl m_P_keep m_M_keep i (st_keep (L := L) (scr := scr) (d := 0) (scr (6 * k + 1)) (scr (6 * k + 2)) (scr (6 * k + 3)) h i.2.1) (fun _ c => ⟨Or.inr c, trivial, trivial, trivial, trivial⟩) (fun _ c => ⟨Or.inr c, trivial, trivial, trivial, trivial⟩)
  obtain ⟨x, rfl⟩ : ∃ x, r = vL x := by obtain ⟨x, e⟩ := ty.2 rfl; exact ⟨x, Option.some.inj e⟩
  exact ⟨h2, i2, fun r s => Sm.step (by rw [t_Law0_law_31, rdk1 hk hL, rdk2 hk hL, rdk3 hk hL, e1, clJ_ok, rdk1 hk hL, rdk2 hk hL, rdk3 hk hL, e2, clJ_ok, if_neg (nx64 x), if_neg (nx64 x), if_pos rfl]) s⟩
theorem op_32 (hch : ∀ d own ini law cc nL, ChOk l own ini law cc nL L scr d) (hk : 6 * k + 6 ≤ L) (hL : L ≤ 3072) (i : LI k h) : OpT L scr k 32 h := by
  obtain ⟨r, h1, h2, e1, e2, ty, i2⟩ := StepR.ty hch (jx := 154) (jm := 296) rfl rfl rfl rfl m_P_least m_M_least i (st_least (L := L) (scr := scr) (d := 0) (scr (6 * k + 1)) (scr (6 * k + 2)) h i.2.1) (fun _ c => ⟨Or.inr c, trivial, trivial, trivial⟩) (fun _ c => ⟨Or.inr c, trivial, trivial, trivial⟩)
  obtain ⟨x, rfl⟩ : ∃ x, r = vI x := by obtain ⟨x, e⟩ := ty.1 (by first | exact Or.inl rfl | exact Or.inr rfl); exact ⟨x, Option.some.inj e⟩
  exact ⟨h2, i2, fun r s => Sm.step (by rw [t_Law0_law_32, rdk1 hk hL, rdk2 hk hL, e1, clI_ok, rdk1 hk hL, rdk2 hk hL, e2, clI_ok, if_pos rfl]) s⟩
theorem op_33 (hch : ∀ d own ini law cc nL, ChOk l own ini law cc nL L scr d) (hk : 6 * k + 6 ≤ L) (hL : L ≤ 3072) (i : LI k h) : OpT L scr k 33 h := by
  obtain ⟨r, h1, h2, e1, e2, ty, i2⟩ := StepR.ty hch (jx := 155) (jm := 298) rfl rfl rfl rfl m_P_protect m_M_protect i (st_protect (L := L) (scr := scr) (d := 0) (scr (6 * k + 1)) (scr (6 * k + 2)) (scr (6 * k + 3)) (scr (6 * k + 4)) h i.2.1) (fun _ c => ⟨Or.inr c, trivial, trivial, trivial, trivial, trivial⟩) (fun _ c => ⟨Or.inr c, trivial, trivial, trivial, trivial, trivial⟩)
  obtain ⟨x, rfl⟩ : ∃ x, r = vI x := by obtain ⟨x, e⟩ := ty.1 (by first | exact Or.inl rfl | exact Or.inr rfl); exact ⟨x, Option.some.inj e⟩
  exact ⟨h2, i2, fun r s => Sm.step (by rw [t_Law0_law_33, rdk1 hk hL, rdk2 hk hL, rdk3 hk hL, rdk4 hk hL, e1, clI_ok, rdk1 hk hL, rdk2 hk hL, rdk3 hk hL, rdk4 hk hL, e2, clI_ok, if_pos rfl]) s⟩
theorem op_34 (hch : ∀ d own ini law cc nL, ChOk l own ini law cc nL L scr d) (hk : 6 * k + 6 ≤ L) (hL : L ≤ 3072) (i : LI k h) : OpT L scr k 34 h := by
  obtain ⟨r, h1, h2, e1, e2, ty, i2⟩ := StepR.ty hch (jx := 156) (jm := 299) rfl rfl rfl rfl m_P_roll m_M_roll i (st_roll (L := L) (scr := scr) (d := 0) (scr (6 * k + 1)) (scr (6 * k + 2)) h i.2.1) (fun _ c => ⟨Or.inr c, trivial, trivial, trivial⟩) (fun _ c => ⟨Or.inr c, trivial, trivial, trivial⟩)
  obtain ⟨x, rfl⟩ : ∃ x, r = vI x := by obtain ⟨x, e⟩ := ty.1 (by first | exact Or.inl rfl | exact Or.inr rfl); exact ⟨x, Option.some.inj e⟩
  exact ⟨h2, i2, fun r s => Sm.step (by rw [t_Law0_law_34, rdk1 hk hL, rdk2 hk hL, e1, clI_ok, rdk1 hk hL, rdk2 hk hL, e2, clI_ok, if_pos rfl]) s⟩
theorem op_35 (hch : ∀ d own ini law cc nL, ChOk l own ini law cc nL L scr d) (hk : 6 * k + 6 ≤ L) (hL : L ≤ 3072) (i : LI k h) : OpT L scr k 35 h := by
  obtain ⟨r, h1, h2, e1, e2, ty, i2⟩ := StepR.ty hch (jx := 157) (jm := 302) rfl rfl rfl rfl m_P_rolled m_M_rolled i (st_rolled (L := L) (scr := scr) (d := 0) (scr (6 * k + 1)) h i.2.1) (fun _ c => ⟨Or.inr c, trivial, trivial⟩) (fun _ c => ⟨Or.inr c, trivial, trivial⟩)
  obtain ⟨x, rfl⟩ : ∃ x, r = vI x := by obtain ⟨x, e⟩ := ty.1 (by first | exact Or.inl rfl | exact Or.inr rfl); exact ⟨x, Option.some.inj e⟩
  exact ⟨h2, i2, fun r s => Sm.step (by rw [t_Law0_law_35, rdk1 hk hL, e1, clI_ok, rdk1 hk hL, e2, clI_ok, if_pos rfl]) s⟩
theorem op_36 (hch : ∀ d own ini law cc nL, ChOk l own ini law cc nL L scr d) (hk : 6 * k + 6 ≤ L) (hL : L ≤ 3072) (i : LI k h) : OpT L scr k 36 h := by
  obtain ⟨r, h1, h2, e1, e2, ty, i2⟩ := StepR.ty hch (jx := 158) (jm := 303) rfl rfl rfl rfl m_P_guide m_M_guide i (st_guide (L := L) (scr := scr) (d := 0) (scr (6 * k + 1)) h i.2.1) (fun _ c => ⟨Or.inr c, trivial, trivial⟩) (fun _ c => ⟨Or.inr c, trivial, trivial⟩)
  obtain ⟨x, rfl⟩ : ∃ x, r = vI x := by obtain ⟨x, e⟩ := ty.1 (by first | exact Or.inl rfl | exact Or.inr rfl); exact ⟨x, Option.some.inj e⟩
  exact ⟨h2, i2, fun r s => Sm.step (by rw [t_Law0_law_36, rdk1 hk hL, e1, clI_ok, rdk1 hk hL, e2, clI_ok, if_pos rfl]) s⟩
theorem op_37 (hch : ∀ d own ini law cc nL, ChOk l own ini law cc nL L scr d) (hk : 6 * k + 6 ≤ L) (hL : L ≤ 3072) (i : LI k h) : OpT L scr k 37 h := by
  obtain ⟨r, h1, h2, e1, e2, ty, i2⟩ := StepR.ty hch (jx := 159) (jm := 304) rfl rfl rfl rfl m_P_party m_M_party i (st_party (L := L) (scr := scr) (d := 0) (scr (6 * k + 1)) (scr (6 * k + 2)) h i.2.1) (fun _ c => ⟨Or.inr c, trivial, trivial, trivial⟩) (fun _ c => ⟨Or.inr c, trivial, trivial, trivial⟩)
  obtain ⟨x, rfl⟩ : ∃ x, r = vI x := by obtain ⟨x, e⟩ := ty.1 (by first | exact Or.inl rfl | exact Or.inr rfl); exact ⟨x, Option.some.inj e⟩
  exact ⟨h2, i2, fun r s => Sm.step (by rw [t_Law0_law_37, rdk1 hk hL, rdk2 hk hL, e1, clI_ok, rdk1 hk hL, rdk2 hk hL, e2, clI_ok, if_pos rfl]) s⟩
theorem op_38 (hch : ∀ d own ini law cc nL, ChOk l own ini law cc nL L scr d) (hk : 6 * k + 6 ≤ L) (hL : L ≤ 3072) (i : LI k h) : OpT L scr k 38 h := by
  obtain ⟨r, h1, h2, e1, e2, ty, i2⟩ := StepR.ty hch (jx := 160) (jm := 309) rfl rfl rfl rfl m_P_guided m_M_guided i (st_guided (L := L) (scr := scr) (d := 0) (scr (6 * k + 1)) h i.2.1) (fun _ c => ⟨Or.inr c, trivial, trivial⟩) (fun _ c => ⟨Or.inr c, trivial, trivial⟩)
  obtain ⟨x, rfl⟩ : ∃ x, r = vI x := by obtain ⟨x, e⟩ := ty.1 (by first | exact Or.inl rfl | exact Or.inr rfl); exact ⟨x, Option.some.inj e⟩
  exact ⟨h2, i2, fun r s => Sm.step (by rw [t_Law0_law_38, rdk1 hk hL, e1, clI_ok, rdk1 hk hL, e2, clI_ok, if_pos rfl]) s⟩
theorem op_39 (hch : ∀ d own ini law cc nL, ChOk l own ini law cc nL L scr d) (hk : 6 * k + 6 ≤ L) (hL : L ≤ 3072) (i : LI k h) : OpT L scr k 39 h := by
  obtain ⟨r, h1, h2, e1, e2, ty, i2⟩ := StepR.ty hch (jx := 161) (jm := 310) rfl rfl rfl rfl m_P_pay m_M_pay i (st_pay (L := L) (scr := scr) (d := 0) (scr (6 * k + 1)) h i.2.1) (fun _ c => ⟨Or.inr c, trivial, trivial⟩) (fun _ c => ⟨Or.inr c, trivial, trivial⟩)
  obtain ⟨x, rfl⟩ : ∃ x, r = vI x := by obtain ⟨x, e⟩ := ty.1 (by first | exact Or.inl rfl | exact Or.inr rfl); exact ⟨x, Option.some.inj e⟩
  exact ⟨h2, i2, fun r s => Sm.step (by rw [t_Law0_law_39, rdk1 hk hL, e1, clI_ok, rdk1 hk hL, e2, clI_ok, if_pos rfl]) s⟩
theorem op_40 (hch : ∀ d own ini law cc nL, ChOk l own ini law cc nL L scr d) (hk : 6 * k + 6 ≤ L) (hL : L ≤ 3072) (i : LI k h) : OpT L scr k 40 h := by
  obtain ⟨r, h1, h2, e1, e2, ty, i2⟩ := StepR.ty hch (jx := 162) (jm := 311) rfl rfl rfl rfl m_P_earned m_M_earned i (st_earned (L := L) (scr := scr) (d := 0) (scr (6 * k + 1)) h i.2.1) (fun _ c => ⟨Or.inr c, trivial, trivial⟩) (fun _ c => ⟨Or.inr c, trivial, trivial⟩)
  obtain ⟨x, rfl⟩ : ∃ x, r = vI x := by obtain ⟨x, e⟩ := ty.1 (by first | exact Or.inl rfl | exact Or.inr rfl); exact ⟨x, Option.some.inj e⟩
  exact ⟨h2, i2, fun r s => Sm.step (by rw [t_Law0_law_40, rdk1 hk hL, e1, clI_ok, rdk1 hk hL, e2, clI_ok, if_pos rfl]) s⟩
theorem op_46 (hch : ∀ d own ini law cc nL, ChOk l own ini law cc nL L scr d) (hk : 6 * k + 6 ≤ L) (hL : L ≤ 3072) (i : LI k h) : OpT L scr k 46 h := by
  obtain ⟨r, h1, h2, e1, e2, ty, i2⟩ := StepR.ty hch (jx := 164) (jm := 313) rfl rfl rfl rfl m_P_pole m_M_pole i (st_pole (L := L) (scr := scr) (d := 0) (scr (6 * k + 1)) h i.2.1) (fun _ c => ⟨Or.inr c, trivial, trivial⟩) (fun _ c => ⟨Or.inr c, trivial, trivial⟩)
  obtain ⟨x, rfl⟩ : ∃ x, r = vI x := by obtain ⟨x, e⟩ := ty.1 (by first | exact Or.inl rfl | exact Or.inr rfl); exact ⟨x, Option.some.inj e⟩
  exact ⟨h2, i2, fun r s => Sm.step (by rw [t_Law0_law_46, rdk1 hk hL, e1, clI_ok, rdk1 hk hL, e2, clI_ok, if_pos rfl]) s⟩
theorem op_47 (hch : ∀ d own ini law cc nL, ChOk l own ini law cc nL L scr d) (hk : 6 * k + 6 ≤ L) (hL : L ≤ 3072) (i : LI k h) : OpT L scr k 47 h := by
  obtain ⟨r, h1, h2, e1, e2, ty, i2⟩ := StepR.ty hch (jx := 165) (jm := 315) rfl rfl rfl rfl m_P_paint m_M_paint i (st_paint (L := L) (scr := scr) (d := 0) (scr (6 * k + 1)) (scr (6 * k + 2)) (scr (6 * k + 3)) h i.2.1) (fun _ c => ⟨Or.inr c, trivial, trivial, trivial, trivial⟩) (fun _ c => ⟨Or.inr c, trivial, trivial, trivial, trivial⟩)
  obtain ⟨x, rfl⟩ : ∃ x, r = vI x := by obtain ⟨x, e⟩ := ty.1 (by first | exact Or.inl rfl | exact Or.inr rfl); exact ⟨x, Option.some.inj e⟩
  exact ⟨h2, i2, fun r s => Sm.step (by rw [t_Law0_law_47, rdk1 hk hL, rdk2 hk hL, rdk3 hk hL, e1, clI_ok, rdk1 hk hL, rdk2 hk hL, rdk3 hk hL, e2, clI_ok, if_pos rfl]) s⟩
theorem op_48 (hch : ∀ d own ini law cc nL, ChOk l own ini law cc nL L scr d) (hk : 6 * k + 6 ≤ L) (hL : L ≤ 3072) (i : LI k h) : OpT L scr k 48 h := by
  obtain ⟨r, h1, h2, e1, e2, ty, i2⟩ := StepR.ty hch (jx := 166) (jm := 319) rfl rfl rfl rfl m_P_painted m_M_painted i (st_painted (L := L) (scr := scr) (d := 0) (scr (6 * k + 1)) (scr (6 * k + 2)) h i.2.1) (fun _ c => ⟨Or.inr c, trivial, trivial, trivial⟩) (fun _ c => ⟨Or.inr c, trivial, trivial, trivial⟩)
  obtain ⟨x, rfl⟩ : ∃ x, r = vI x := by obtain ⟨x, e⟩ := ty.1 (by first | exact Or.inl rfl | exact Or.inr rfl); exact ⟨x, Option.some.inj e⟩
  exact ⟨h2, i2, fun r s => Sm.step (by rw [t_Law0_law_48, rdk1 hk hL, rdk2 hk hL, e1, clI_ok, rdk1 hk hL, rdk2 hk hL, e2, clI_ok, if_pos rfl]) s⟩
theorem op_49 (hch : ∀ d own ini law cc nL, ChOk l own ini law cc nL L scr d) (hk : 6 * k + 6 ≤ L) (hL : L ≤ 3072) (i : LI k h) : OpT L scr k 49 h := by
  obtain ⟨r, h1, h2, e1, e2, ty, i2⟩ := StepR.ty hch (jx := 167) (jm := 320) rfl rfl rfl rfl m_P_fail m_M_fail i (st_fail (L := L) (scr := scr) (d := 0) (scr (6 * k + 1)) (scr (6 * k + 2)) (scr (6 * k + 3)) h i.2.1) (fun _ c => ⟨Or.inr c, trivial, trivial, trivial, trivial⟩) (fun _ c => ⟨Or.inr c, trivial, trivial, trivial, trivial⟩)
  obtain ⟨x, rfl⟩ : ∃ x, r = vI x := by obtain ⟨x, e⟩ := ty.1 (by first | exact Or.inl rfl | exact Or.inr rfl); exact ⟨x, Option.some.inj e⟩
  exact ⟨h2, i2, fun r s => Sm.step (by rw [t_Law0_law_49, rdk1 hk hL, rdk2 hk hL, rdk3 hk hL, e1, clI_ok, rdk1 hk hL, rdk2 hk hL, rdk3 hk hL, e2, clI_ok, if_pos rfl]) s⟩
theorem op_50 (hch : ∀ d own ini law cc nL, ChOk l own ini law cc nL L scr d) (hk : 6 * k + 6 ≤ L) (hL : L ≤ 3072) (i : LI k h) : OpT L scr k 50 h := by
  obtain ⟨r, h1, h2, e1, e2, ty, i2⟩ := StepR.ty hch (jx := 168) (jm := 321) rfl rfl rfl rfl m_P_renew m_M_renew i (st_renew (L := L) (scr := scr) (d := 0) (scr (6 * k + 1)) (scr (6 * k + 2)) h i.2.1) (fun _ c => ⟨Or.inr c, trivial, trivial, trivial⟩) (fun _ c => ⟨Or.inr c, trivial, trivial, trivial⟩)
  obtain ⟨x, rfl⟩ : ∃ x, r = vI x := by obtain ⟨x, e⟩ := ty.1 (by first | exact Or.inl rfl | exact Or.inr rfl); exact ⟨x, Option.some.inj e⟩
  exact ⟨h2, i2, fun r s => Sm.step (by rw [t_Law0_law_50, rdk1 hk hL, rdk2 hk hL, e1, clI_ok, rdk1 hk hL, rdk2 hk hL, e2, clI_ok, if_pos rfl]) s⟩
theorem op_51 (hch : ∀ d own ini law cc nL, ChOk l own ini law cc nL L scr d) (hk : 6 * k + 6 ≤ L) (hL : L ≤ 3072) (i : LI k h) : OpT L scr k 51 h := by
  obtain ⟨r, h1, h2, e1, e2, ty, i2⟩ := StepR.ty hch (jx := 169) (jm := 322) rfl rfl rfl rfl m_P_loyal m_M_loyal i (st_loyal (L := L) (scr := scr) (d := 0) (scr (6 * k + 1)) h i.2.1) (fun _ c => ⟨Or.inr c, trivial, trivial⟩) (fun _ c => ⟨Or.inr c, trivial, trivial⟩)
  obtain ⟨x, rfl⟩ : ∃ x, r = vI x := by obtain ⟨x, e⟩ := ty.1 (by first | exact Or.inl rfl | exact Or.inr rfl); exact ⟨x, Option.some.inj e⟩
  exact ⟨h2, i2, fun r s => Sm.step (by rw [t_Law0_law_51, rdk1 hk hL, e1, clI_ok, rdk1 hk hL, e2, clI_ok, if_pos rfl]) s⟩
theorem op_52 (hch : ∀ d own ini law cc nL, ChOk l own ini law cc nL L scr d) (hk : 6 * k + 6 ≤ L) (hL : L ≤ 3072) (i : LI k h) : OpT L scr k 52 h := by
  obtain ⟨r, h1, h2, e1, e2, ty, i2⟩ := StepR.ty hch (jx := 170) (jm := 324) rfl rfl rfl rfl m_P_tout m_M_tout i (st_tout (L := L) (scr := scr) (d := 0) (scr (6 * k + 1)) (scr (6 * k + 2)) (scr (6 * k + 3)) h i.2.1) (fun _ c => ⟨Or.inr c, trivial, trivial, trivial, trivial⟩) (fun _ c => ⟨Or.inr c, trivial, trivial, trivial, trivial⟩)
  obtain ⟨x, rfl⟩ : ∃ x, r = vI x := by obtain ⟨x, e⟩ := ty.1 (by first | exact Or.inl rfl | exact Or.inr rfl); exact ⟨x, Option.some.inj e⟩
  exact ⟨h2, i2, fun r s => Sm.step (by rw [t_Law0_law_52, rdk1 hk hL, rdk2 hk hL, rdk3 hk hL, e1, clI_ok, rdk1 hk hL, rdk2 hk hL, rdk3 hk hL, e2, clI_ok, if_pos rfl]) s⟩
theorem op_53 (hch : ∀ d own ini law cc nL, ChOk l own ini law cc nL L scr d) (hk : 6 * k + 6 ≤ L) (hL : L ≤ 3072) (i : LI k h) : OpT L scr k 53 h := by
  obtain ⟨r, h1, h2, e1, e2, ty, i2⟩ := StepR.ty hch (jx := 171) (jm := 325) rfl rfl rfl rfl m_P_nest m_M_nest i (st_nest (L := L) (scr := scr) (d := 0) (scr (6 * k + 1)) (scr (6 * k + 2)) (scr (6 * k + 3)) h i.2.1) (fun _ c => ⟨Or.inr c, trivial, trivial, trivial, trivial⟩) (fun _ c => ⟨Or.inr c, trivial, trivial, trivial, trivial⟩)
  obtain ⟨x, rfl⟩ : ∃ x, r = vI x := by obtain ⟨x, e⟩ := ty.1 (by first | exact Or.inl rfl | exact Or.inr rfl); exact ⟨x, Option.some.inj e⟩
  exact ⟨h2, i2, fun r s => Sm.step (by rw [t_Law0_law_53, rdk1 hk hL, rdk2 hk hL, rdk3 hk hL, e1, clI_ok, rdk1 hk hL, rdk2 hk hL, rdk3 hk hL, e2, clI_ok, if_pos rfl]) s⟩
theorem op_54 (hch : ∀ d own ini law cc nL, ChOk l own ini law cc nL L scr d) (hk : 6 * k + 6 ≤ L) (hL : L ≤ 3072) (i : LI k h) : OpT L scr k 54 h := by
  obtain ⟨r, h1, h2, e1, e2, ty, i2⟩ := StepR.ty hch (jx := 172) (jm := 326) rfl rfl rfl rfl m_P_regatta m_M_regatta i (st_regatta (L := L) (scr := scr) (d := 0) (scr (6 * k + 1)) (scr (6 * k + 2)) (scr (6 * k + 3)) (scr (6 * k + 4)) h i.2.1) (fun _ c => ⟨Or.inr c, trivial, trivial, trivial, trivial, trivial⟩) (fun _ c => ⟨Or.inr c, trivial, trivial, trivial, trivial, trivial⟩)
  obtain ⟨x, rfl⟩ : ∃ x, r = vI x := by obtain ⟨x, e⟩ := ty.1 (by first | exact Or.inl rfl | exact Or.inr rfl); exact ⟨x, Option.some.inj e⟩
  exact ⟨h2, i2, fun r s => Sm.step (by rw [t_Law0_law_54, rdk1 hk hL, rdk2 hk hL, rdk3 hk hL, rdk4 hk hL, e1, clI_ok, rdk1 hk hL, rdk2 hk hL, rdk3 hk hL, rdk4 hk hL, e2, clI_ok, if_pos rfl]) s⟩
theorem op_55 (hch : ∀ d own ini law cc nL, ChOk l own ini law cc nL L scr d) (hk : 6 * k + 6 ≤ L) (hL : L ≤ 3072) (i : LI k h) : OpT L scr k 55 h := by
  obtain ⟨r, h1, h2, e1, e2, ty, i2⟩ := StepR.ty hch (jx := 173) (jm := 327) rfl rfl rfl rfl m_P_barred m_M_barred i (st_barred (L := L) (scr := scr) (d := 0) (scr (6 * k + 1)) (scr (6 * k + 2)) h i.2.1) (fun _ c => ⟨Or.inr c, trivial, trivial, trivial⟩) (fun _ c => ⟨Or.inr c, trivial, trivial, trivial⟩)
  obtain ⟨x, rfl⟩ : ∃ x, r = vI x := by obtain ⟨x, e⟩ := ty.1 (by first | exact Or.inl rfl | exact Or.inr rfl); exact ⟨x, Option.some.inj e⟩
  exact ⟨h2, i2, fun r s => Sm.step (by rw [t_Law0_law_55, rdk1 hk hL, rdk2 hk hL, e1, clI_ok, rdk1 hk hL, rdk2 hk hL, e2, clI_ok, if_pos rfl]) s⟩
theorem op_56 (hch : ∀ d own ini law cc nL, ChOk l own ini law cc nL L scr d) (hk : 6 * k + 6 ≤ L) (hL : L ≤ 3072) (i : LI k h) : OpT L scr k 56 h := by
  obtain ⟨r, h1, h2, e1, e2, ty, i2⟩ := StepR.ty hch (jx := 174) (jm := 330) rfl rfl rfl rfl m_P_image m_M_image i (st_image (L := L) (scr := scr) (d := 0)  h i.2.1) (fun _ c => ⟨Or.inr c, trivial⟩) (fun _ c => ⟨Or.inr c, trivial⟩)
  obtain ⟨x, rfl⟩ : ∃ x, r = vI x := by obtain ⟨x, e⟩ := ty.1 (by first | exact Or.inl rfl | exact Or.inr rfl); exact ⟨x, Option.some.inj e⟩
  exact ⟨h2, i2, fun r s => Sm.step (by rw [t_Law0_law_56, e1, clI_ok, e2, clI_ok, if_pos rfl]) s⟩
theorem op_57 (hch : ∀ d own ini law cc nL, ChOk l own ini law cc nL L scr d) (hk : 6 * k + 6 ≤ L) (hL : L ≤ 3072) (i : LI k h) : OpT L scr k 57 h := by
  obtain ⟨r, h1, h2, e1, e2, ty, i2⟩ := StepR.ty hch (jx := 175) (jm := 331) rfl rfl rfl rfl m_P_restore m_M_restore i (st_restore (L := L) (scr := scr) (d := 0) (scr (6 * k + 1)) h i.2.1) (fun _ c => ⟨Or.inr c, trivial, trivial⟩) (fun _ c => ⟨Or.inr c, trivial, trivial⟩)
  obtain ⟨x, rfl⟩ : ∃ x, r = vI x := by obtain ⟨x, e⟩ := ty.1 (by first | exact Or.inl rfl | exact Or.inr rfl); exact ⟨x, Option.some.inj e⟩
  exact ⟨h2, i2, fun r s => Sm.step (by rw [t_Law0_law_57, rdk1 hk hL, e1, clI_ok, rdk1 hk hL, e2, clI_ok, if_pos rfl]) s⟩
theorem op_58 (hch : ∀ d own ini law cc nL, ChOk l own ini law cc nL L scr d) (hk : 6 * k + 6 ≤ L) (hL : L ≤ 3072) (i : LI k h) : OpT L scr k 58 h := by
  obtain ⟨r, h1, h2, e1, e2, ty, i2⟩ := StepR.ty hch (jx := 176) (jm := 332) rfl rfl rfl rfl m_P_count m_M_count i (st_count (L := L) (scr := scr) (d := 0) (scr (6 * k + 1)) h i.2.1) (fun _ c => ⟨Or.inr c, trivial, trivial⟩) (fun _ c => ⟨Or.inr c, trivial, trivial⟩)
  obtain ⟨x, rfl⟩ : ∃ x, r = vI x := by obtain ⟨x, e⟩ := ty.1 (by first | exact Or.inl rfl | exact Or.inr rfl); exact ⟨x, Option.some.inj e⟩
  exact ⟨h2, i2, fun r s => Sm.step (by rw [t_Law0_law_58, rdk1 hk hL, e1, clI_ok, rdk1 hk hL, e2, clI_ok, if_pos rfl]) s⟩
theorem op_41 (hch : ∀ d own ini law cc nL, ChOk l own ini law cc nL L scr d) (hk : 6 * k + 6 ≤ L) (hL : L ≤ 3072) (i : LI k h) : OpT L scr k 41 h := by
  by_cases c : scr (6 * k + 3) = 0
  · obtain ⟨r, h1, h2, e1, e2, ty, i2⟩ := StepR.ty hch (jx := 163) (jm := 312) rfl rfl rfl rfl m_P_pass m_M_pass i (st_pass (L := L) (scr := scr) (d := 0) (scr (6 * k + 1)) (scr (6 * k + 2)) 0 h i.2.1) (fun _ c => ⟨Or.inr c, trivial, trivial, trivial, trivial⟩) (fun _ c => ⟨Or.inr c, trivial, trivial, trivial, trivial⟩)
    obtain ⟨x, rfl⟩ : ∃ x, r = vI x := by obtain ⟨x, e⟩ := ty.1 (by first | exact Or.inl rfl | exact Or.inr rfl); exact ⟨x, Option.some.inj e⟩
    refine ⟨h2, i2, fun r s => ?_⟩
    refine Sm.step (by rw [t_Law0_law_41, rdk1 hk hL, rdk2 hk hL, rdk3 hk hL, if_pos c]) ?_
    refine Sm.step (by rw [t_Law0_law_42]) ?_
    refine Sm.step (by rw [t_Law0_law_43, e1, clI_ok, rdk1 hk hL, rdk2 hk hL, rdk3 hk hL, if_pos c]) ?_
    refine Sm.step (by rw [t_Law0_law_44]) ?_
    exact Sm.step (by rw [t_Law0_law_45, e2, clI_ok, if_pos rfl]) s
  · obtain ⟨r, h1, h2, e1, e2, ty, i2⟩ := StepR.ty hch (jx := 163) (jm := 312) rfl rfl rfl rfl m_P_pass m_M_pass i (st_pass (L := L) (scr := scr) (d := 0) (scr (6 * k + 1)) (scr (6 * k + 2)) 1 h i.2.1) (fun _ c => ⟨Or.inr c, trivial, trivial, trivial, trivial⟩) (fun _ c => ⟨Or.inr c, trivial, trivial, trivial, trivial⟩)
    obtain ⟨x, rfl⟩ : ∃ x, r = vI x := by obtain ⟨x, e⟩ := ty.1 (by first | exact Or.inl rfl | exact Or.inr rfl); exact ⟨x, Option.some.inj e⟩
    refine ⟨h2, i2, fun r s => ?_⟩
    refine Sm.step (by rw [t_Law0_law_41, rdk1 hk hL, rdk2 hk hL, rdk3 hk hL, if_neg c]) ?_
    refine Sm.step (by rw [t_Law0_law_43, e1, clI_ok, rdk1 hk hL, rdk2 hk hL, rdk3 hk hL, if_neg c]) ?_
    exact Sm.step (by rw [t_Law0_law_45, e2, clI_ok, if_pos rfl]) s
theorem op_59 (i : LI k h) : OpT L scr k 59 h := ⟨h, ⟨i.1, i.2.1, by have := i.2.2.1; omega, by have := i.2.2.2; omega⟩, fun _ s => s⟩
theorem law_step (hch : ∀ d own ini law cc nL, ChOk l own ini law cc nL L scr d) (hk : 6 * k + 6 ≤ L) (hL : L ≤ 3072) (i : LI k h) : ∃ h2, LI (k + 1) h2 ∧ ∀ r, Sm L scr 40 B_Law0_law C_Law0_law 1 (loK (k + 1)) [] h2 r → Sm L scr 40 B_Law0_law C_Law0_law 1 (loK k) [] h r := by
  have e9 : ∀ g r, Sm L scr 40 B_Law0_law C_Law0_law 1 (loK (k + 1)) [] g r → Sm L scr 40 B_Law0_law C_Law0_law 59 (loK k) [] g r := fun g r s => Sm.step (by
    rw [t_Law0_law_59, show (nI (6 * k) + 6 : Int32) = nI (6 * (k + 1)) from by rw [show (6 : Int32) = nI 6 from rfl, nI_add, show 6 * k + 6 = 6 * (k + 1) from by omega]]) s
  have hd : ∃ t, OpT L scr k t h ∧ dn L scr (E L scr 40) B_Law0_law C_Law0_law 1 (loK k) [] h = some (.inl (t, loK k, [], h)) := by
    rw [t_Law0_law_1, if_neg (by
      rw [show (Int32.ofNat L - 6 : Int32) = nI (L - 6) from nI_sub (a := L) (b := 6) (by omega), Int32.lt_iff_toInt_lt, nI_toInt (by omega), nI_toInt (by omega)]
      omega), rdk0 hk hL]
    let P : Option Exit → Prop := fun x => ∃ t, OpT L scr k t h ∧ x = some (.inl (t, loK k, [], h))
    exact disp (P := P) ⟨2, op_2 hch hk hL i, rfl⟩ (disp (P := P) ⟨3, op_3 hch hk hL i, rfl⟩ (disp (P := P) ⟨4, op_4 hch hk hL i, rfl⟩ (disp (P := P) ⟨5, op_5 hch hk hL i, rfl⟩ (disp (P := P) ⟨6, op_6 hch hk hL i, rfl⟩ (disp (P := P) ⟨7, op_7 hch hk hL i, rfl⟩ (disp (P := P) ⟨8, op_8 hch hk hL i, rfl⟩ (disp (P := P) ⟨9, op_9 hch hk hL i, rfl⟩ (disp (P := P) ⟨10, op_10 hch hk hL i, rfl⟩ (disp (P := P) ⟨11, op_11 hch hk hL i, rfl⟩ (disp (P := P) ⟨12, op_12 hch hk hL i, rfl⟩ (disp (P := P) ⟨13, op_13 hch hk hL i, rfl⟩ (disp (P := P) ⟨14, op_14 hch hk hL i, rfl⟩ (disp (P := P) ⟨15, op_15 hch hk hL i, rfl⟩ (disp (P := P) ⟨16, op_16 hch hk hL i, rfl⟩ (disp (P := P) ⟨17, op_17 hch hk hL i, rfl⟩ (disp (P := P) ⟨18, op_18 hch hk hL i, rfl⟩ (disp (P := P) ⟨19, op_19 hch hk hL i, rfl⟩ (disp (P := P) ⟨20, op_20 hch hk hL i, rfl⟩ (disp (P := P) ⟨21, op_21 hch hk hL i, rfl⟩ (disp (P := P) ⟨22, op_22 hch hk hL i, rfl⟩ (disp (P := P) ⟨23, op_23 hch hk hL i, rfl⟩ (disp (P := P) ⟨24, op_24 hch hk hL i, rfl⟩ (disp (P := P) ⟨25, op_25 hch hk hL i, rfl⟩ (disp (P := P) ⟨26, op_26 hch hk hL i, rfl⟩ (disp (P := P) ⟨27, op_27 hch hk hL i, rfl⟩ (disp (P := P) ⟨28, op_28 hch hk hL i, rfl⟩ (disp (P := P) ⟨29, op_29 hch hk hL i, rfl⟩ (disp (P := P) ⟨30, op_30 hch hk hL i, rfl⟩ (disp (P := P) ⟨31, op_31 hch hk hL i, rfl⟩ (disp (P := P) ⟨32, op_32 hch hk hL i, rfl⟩ (disp (P := P) ⟨33, op_33 hch hk hL i, rfl⟩ (disp (P := P) ⟨34, op_34 hch hk hL i, rfl⟩ (disp (P := P) ⟨35, op_35 hch hk hL i, rfl⟩ (disp (P := P) ⟨36, op_36 hch hk hL i, rfl⟩ (disp (P := P) ⟨37, op_37 hch hk hL i, rfl⟩ (disp (P := P) ⟨38, op_38 hch hk hL i, rfl⟩ (disp (P := P) ⟨39, op_39 hch hk hL i, rfl⟩ (disp (P := P) ⟨40, op_40 hch hk hL i, rfl⟩ (disp (P := P) ⟨41, op_41 hch hk hL i, rfl⟩ (disp (P := P) ⟨46, op_46 hch hk hL i, rfl⟩ (disp (P := P) ⟨47, op_47 hch hk hL i, rfl⟩ (disp (P := P) ⟨48, op_48 hch hk hL i, rfl⟩ (disp (P := P) ⟨49, op_49 hch hk hL i, rfl⟩ (disp (P := P) ⟨50, op_50 hch hk hL i, rfl⟩ (disp (P := P) ⟨51, op_51 hch hk hL i, rfl⟩ (disp (P := P) ⟨52, op_52 hch hk hL i, rfl⟩ (disp (P := P) ⟨53, op_53 hch hk hL i, rfl⟩ (disp (P := P) ⟨54, op_54 hch hk hL i, rfl⟩ (disp (P := P) ⟨55, op_55 hch hk hL i, rfl⟩ (disp (P := P) ⟨56, op_56 hch hk hL i, rfl⟩ (disp (P := P) ⟨57, op_57 hch hk hL i, rfl⟩ (disp (P := P) ⟨58, op_58 hch hk hL i, rfl⟩ (⟨59, op_59 i, rfl⟩)))))))))))))))))))))))))))))))))))))))))))))))))))))
  obtain ⟨t, ⟨h2, i2, f⟩, e⟩ := hd
  exact ⟨h2, i2, fun r s => Sm.step e (f r (e9 h2 r s))⟩
theorem law_go (hch : ∀ d own ini law cc nL, ChOk l own ini law cc nL L scr d) (hL : L ≤ 3072) : ∀ (n k : Nat) (h : MH), L < 6 * (k + n + 1) → 6 * k ≤ L → LI k h → ∃ h2, Sm L scr 40 B_Law0_law C_Law0_law 1 (loK k) [] h (some (vI 1), h2) ∧ hc h2 ≤ 600000 ∧ hs h2 ≤ 7302250
  | n, k, h, a, b, i => by
    by_cases hk : 6 * k + 6 ≤ L
    · cases n with
      | zero => omega
      | succ n =>
        obtain ⟨h2, i2, f⟩ := law_step hch hk hL i
        obtain ⟨h3, s, c1, c2⟩ := law_go hch hL n (k + 1) h2 (by omega) (by omega) i2
        exact ⟨h3, f _ s, c1, c2⟩
    · have i1 := i.2.2.1
      have i2 := i.2.2.2
      refine ⟨h, Sm.step (by
        rw [t_Law0_law_1, if_pos (by
          rw [Int32.lt_iff_toInt_lt, nI_toInt (show 6 * k < 2 ^ 31 by omega), show (Int32.ofNat L - 6 : Int32) = nI L - nI 6 from rfl, nI_sub_toInt (by omega) (by omega)]
          omega)]) (Sm.ret (by rw [t_Law0_law_60, rtZ1])), by omega, by omega⟩
theorem wf0 : Wf mh0 := ⟨fun _ => Nat.le_refl _, fun _ n _ _ hn => absurd hn (Nat.not_lt_zero n), fun _ n _ _ _ hn => absurd hn (Nat.not_lt_zero n), fun _ hn => absurd hn (Nat.lt_irrefl 0)⟩
theorem inv0 : Inv [some (vR 99 0), none, none, none] [] mh0 := by
  refine ⟨wf0, trivial, fun i v hv => ?_⟩
  match i, hv with
  | 0, hv => cases hv; exact Or.inl (by decide)
  | 1, hv => cases hv
  | 2, hv => cases hv
  | 3, hv => cases hv
  | (n + 4), hv => cases hv
theorem law_start (hch : ∀ d own ini law cc nL, ChOk l own ini law cc nL L scr d) : ∃ h, LI 0 h ∧ dn L scr (E L scr 40) B_Law0_law C_Law0_law 0 [some (vR 99 0), none, none, none] [] mh0 = some (.inl (1, loK 0, [], h)) := by
  obtain ⟨g, e1, q, z⟩ := ini_P (L := L) (scr := scr) (d := 35)
  obtain ⟨g2, e2, q2, z2⟩ := ini_M (L := L) (scr := scr) (d := 38) q
  have w : SS iLP (900011 :: iDP) iVP 78 9903 (whole g 900011 0) := q.whole (by decide)
  have w2 : SS iLM (900012 :: iDM) iVM 147 41152 (whole g2 900012 0) := q2.whole (by decide)
  have e : dn L scr (E L scr 40) B_Law0_law C_Law0_law 0 [some (vR 99 0), none, none, none] [] mh0 = some (.inl (1, loK 0, [], whole g2 900012 0)) := by
    have a1 : hC mh0 900011 = 0 := rfl
    have a2 : hD mh0 900011 = 0 := rfl
    have a3 : hC (whole g 900011 0) 900012 = 0 := (w.1 900012).trans (by decide)
    have a4 : hD (whole g 900011 0) 900012 = 0 := (w.2.1 900012).trans (by decide)
    rw [t_Law0_law_0, a1, a2, if_pos rfl, e1, clV_ok, if_pos ⟨rfl, ((q.1 900011).trans (by decide)).symm, ((q.2.1 900011).trans (by decide)).symm, z.mask (by decide)⟩, a3, a4, if_pos rfl, e2, clV_ok, if_pos ⟨rfl, ((q2.1 900012).trans (by decide)).symm, ((q2.2.1 900012).trans (by decide)).symm, z2.mask (by decide +kernel)⟩]
    rfl
  refine ⟨_, ⟨?_, rel_start w2, by rw [w2.2.2.2.2.1]; omega, by rw [w2.2.2.2.2.2]; omega⟩, e⟩
  replace e : (match B_Law0_law[0]? with
    | some (_, is, nb) => den L scr (E L scr 40) B_Law0_law C_Law0_law 4000 is nb [some (vR 99 0), none, none, none] [] mh0
    | none => none) = some (.inl (1, loK 0, [], whole g2 900012 0)) := e
  cases eb : B_Law0_law[0]? with
  | none => rw [eb] at e; exact no_some e
  | some b =>
    rw [eb] at e
    obtain ⟨g1, -, -⟩ := den_ok mt_ok (evM_ok mt_ok mt_ck (fun d own ini cc nL => hch d own ini false cc nL) 40) (hch 40 "PuntYardLaw" false true code 4) law_ck 4000 b.2.1 b.1 b.2.2 _ _ _ _ (law_ck 0 b eb) inv0 e
    refine ⟨g1.1, ?_, ?_⟩
    · exact (g1.2.2 1 _ rfl).resolve_left (by decide)
    · exact (g1.2.2 2 _ rfl).resolve_left (by decide)
/-- THE LAW comes to its end with true -/
theorem law_run (hch : ∀ d own ini law cc nL, ChOk l own ini law cc nL L scr d) (hL : L ≤ 3072) : ∃ h, Sm L scr 40 B_Law0_law C_Law0_law 0 [some (vR 99 0), none, none, none] [] mh0 (some (vI 1), h) ∧ hc h ≤ 600000 ∧ hs h ≤ 7302250 := by
  obtain ⟨h, i, e⟩ := law_start hch
  obtain ⟨h2, s, c1, c2⟩ := law_go hch hL 512 0 h (by omega) (by omega) i
  exact ⟨h2, Sm.step e s, c1, c2⟩
end Loop

/-! BILLS: one hire on both sides -/
/-- what law_at tells of a day -/
def LawD (L : Nat) (scr : Nat → Int32) (h : MH) (D : Nat) (lo : Option Nat) (f : Nat → Nat) (R : Nat) (s p : Nat → Nat) (φ : Nat → (Nat → Int32) → Bool) : Prop := LB f ∧ ∀ g, Upd Scr h g → (∀ d, E L scr (d + 2) 188 [vR 900011 0, vI (nI D)] g = some (some (vR 900005 (lmO lo)), g)) ∧ LawAt L scr g D lo f ∧ LawEq g (lmO lo) (fun j => nI (f j)) ∧ CR g (lmO lo) R s p ∧ LawRs g (lmO lo) R s p φ lo ∧ (lo = none → hI g 610 0 0 = 0)
/-- what hires and tellings say, on the class's side -/
def CtxC (h h1 : MH) (H : HN) (m : Nat) (sw ca cb qq u : Nat → Nat) : Prop := ∀ g, VC h h1 g → CK H m g ∧ ∀ i, i < m → hI g 1103000120 0 i = nI (sw i) ∧ hI g 1104000120 0 i = nI (10 * ca i + cb i) ∧ hI g 206000120 0 i = nI (qq i) ∧ fold (outF (awayB (hI g 205000120 0) (hI g 1102000120 0) (nI (H.o i))) (hI g 203000120 0)) 0 m = nI (u i)
def CtxM (L : Nat) (scr : Nat → Int32) (h g1 : MH) (H : HN) (m n : Nat) (sw ca cb qq u : Nat → Nat) : Prop := ∀ g2, VM h g1 g2 → MK H m n g2 ∧ ∀ i, i < m → hI g2 1351000120 0 i = nI (sw i) ∧ hI g2 1352000120 0 i = nI (ca i) ∧ hI g2 1353000120 0 i = nI (cb i) ∧ hI g2 1342000120 0 i = nI (qq i) ∧ ∀ d, E L scr (d + 3) 249 [vR 900012 0, vI (nI (H.o i))] g2 = some (some (vI (nI (u i))), g2)
def NumOk (m : Nat) (sw ca cb qq u : Nat → Nat) : Prop := ∀ i, i < m → sw i ≤ 9999 ∧ ca i ≤ 9 ∧ cb i ≤ 9 ∧ qq i ≤ 720 ∧ u i < 2 ^ 20
/-- what is asked at a hire's moment -/
def askH (h : MH) (H : HN) (ns : Nat) (u : Nat → Nat) (i : Nat) : Nat → Int32 := askF (hI h 800000100 0 (H.o i / 720)) (zb (anyB (rainP (hI h 802000040 0) (hI h 803000040 0) (hI h 804000040 0) (nI (H.o i / 720)) (nI (H.o i % 720))) ns)) (nI (H.o i / 720)) (nI (H.o i / 720 % 7)) (nI (H.o i % 720)) (nI (pcN 20 (u i))) (nI (H.kd i)) (weedF (hI h 805 0 0) (wkF (hI h 806000100 0) (H.o i / 720)))
/-- the numbers of a bill -/
def FRn (H : HN) (m : Nat) (f : Nat → Nat) (i : Nat) : Nat := frN H m i (f (20 + (4 * H.w i + H.kd i)))
def PRn (h : MH) (H : HN) (lo : Option Nat) (f : Nat → Nat) (R : Nat) (s p : Nat → Nat) (i fr : Nat) : Nat := prN H f (bzN (hI h 613000040 (lmO lo)) (hI h 614000040 (lmO lo)) s p R (H.o i % 720)) i fr
def WCn (h : MH) (H : HN) (ns i : Nat) (my : Nat → Bool) : Nat := sumN (fun y => rainY h (H.o i / 720) ns (H.o i % 720 + y) || my (H.o i % 720 + y)) (fun _ => 1) (H.mi i)
def HMn (h : MH) (H : HN) (ns : Nat) (u sw : Nat → Nat) (R : Nat) (s p : Nat → Nat) (φ : Nat → (Nat → Int32) → Bool) (i : Nat) : Nat := sw i * hpN s p φ R (askH h H ns u i) / 100
section Hire
variable {L : Nat} {scr : Nat → Int32} {d : Nat}
variable {h h1 g1 : MH} {H : HN} {m n : Nat} {sw ca cb qq u : Nat → Nat}
theorem hire_price (cc : CtxC h h1 H m sw ca cb qq u) {i : Nat} (hi : i < m) (hb : H.bk i = true) {lo : Option Nat} {f : Nat → Nat} {R : Nat} {s p : Nat → Nat} {φ : Nat → (Nat → Int32) → Bool} (ld : LawD L scr h (H.o i / 720) lo f R s p φ) {g : MH} (v : VC h h1 g) : ∃ g', E L scr (d + 8) 1 [vR 900000 0, vR 900010 0, vI (nI i), vR 900005 (lmO lo)] g = some (none, g') ∧ Upd WB g g' ∧ hI g' 103 0 0 = nI (PRn h H lo f R s p i (FRn H m f i)) ∧ hI g' 102 0 0 = nI (PRn h H lo f R s p i 0) := by
  obtain ⟨hf, l2⟩ := ld
  obtain ⟨-, -, LE, cr, -⟩ := l2 g v.1
  obtain ⟨g', e, w, -, -, -, a1, a2⟩ := c_drawPrice (L := L) (scr := scr) (d := d + 3) (cc g v).1 hi hb hf LE cr
  have r := v.1.sites (S := [613000040, 614000040]) (by decide)
  rw [r 613000040 _ (by decide), r 614000040 _ (by decide)] at a1 a2
  exact ⟨g', e, w, a1, a2⟩
theorem wet_mono {h : MH} {D ns a b : Nat} (hab : a ≤ b) : wetN h D ns a ≤ wetN h D ns b := sumN_mono hab
theorem wet_sub {h : MH} {D ns a j : Nat} : wetN h D ns (a + j) - wetN h D ns a = sumN (fun y => rainY h D ns (a + y) || false) (fun _ => 1) j := by
  have e := sumN_add (p := rainY h D ns) (a := a) j
  show sumN (rainY h D ns) (fun _ => 1) (a + j) - sumN (rainY h D ns) (fun _ => 1) a = _
  rw [e, Nat.add_sub_cancel_left]
  refine congrArg (fun z => sumN z (fun _ => 1) j) ?_
  funext y
  exact (Bool.or_false _).symm
theorem hire_draw (cc : CtxC h h1 H m sw ca cb qq u) (no : NumOk m sw ca cb qq u) {i ns : Nat} (hi : i < m) (hb : H.bk i = true) {lo : Option Nat} {f : Nat → Nat} {R : Nat} {s p : Nat → Nat} {φ : Nat → (Nat → Int32) → Bool} (ld : LawD L scr h (H.o i / 720) lo f R s p φ) {g : MH} (v : VC h h1 g) (hw : ∀ x, x < 721 → hI g 1212000721 0 x = nI (wetN h (H.o i / 720) ns x)) : ∃ g', E L scr (d + 7) 2 [vR 900000 0, vR 900010 0, vI (nI i), vR 900005 (lmO lo), vR 1212000721 0] g = some (none, g') ∧ Upd WB g g' ∧ BillIs g' (H.mi i) (FRn H m f i) (PRn h H lo f R s p i (FRn H m f i)) (ltN f (H.mi i) (qq i)) (wtN f (PRn h H lo f R s p i (FRn H m f i)) (H.mi i) (WCn h H ns i (fun _ => false))) 0 ((ca i - cb i) * f 16) (f (8 + H.kd i)) ∧ hI g' 109 0 0 = nI (H.o i % 720) := by
  obtain ⟨hf, l2⟩ := ld
  obtain ⟨-, -, LE, cr, -⟩ := l2 g v.1
  obtain ⟨ck, cf⟩ := cc g v
  obtain ⟨-, e2, e3, -⟩ := cf i hi
  obtain ⟨-, n2, n3, n4, -⟩ := no i hi
  obtain ⟨g', e, w, B, fr⟩ := c_draw (L := L) (scr := scr) (d := d + 1) ck hi hb hf LE cr n4 e3 n2 n3 e2 hw (fun _ _ h => wet_mono h) (fun x => wetN_le)
  have r := v.1.sites (S := [613000040, 614000040]) (by decide)
  rw [r 613000040 _ (by decide), r 614000040 _ (by decide), wet_sub] at B
  exact ⟨g', e, w, B, fr⟩
theorem hire_bill (cc : CtxC h h1 H m sw ca cb qq u) (no : NumOk m sw ca cb qq u) {i ns : Nat} (hi : i < m) (hb : H.bk i = true) {lo : Option Nat} {f : Nat → Nat} {R : Nat} {s p : Nat → Nat} {φ : Nat → (Nat → Int32) → Bool} (ld : LawD L scr h (H.o i / 720) lo f R s p φ) (hns : ns ≤ 40) (en : hI h 801 0 0 = nI ns) {g : MH} (v : VC h h1 g) (hw : ∀ x, x < 721 → hI g 1212000721 0 x = nI (wetN h (H.o i / 720) ns x)) : ∃ g', E L scr (d + 8) 194 [vR 900011 0, vI (nI i), vR 900005 (lmO lo)] g = some (none, g') ∧ Upd (WB ++ [(1211000008, 0)]) g g' ∧ BillIs g' (H.mi i) (FRn H m f i) (PRn h H lo f R s p i (FRn H m f i)) (ltN f (H.mi i) (qq i)) (wtN f (PRn h H lo f R s p i (FRn H m f i)) (H.mi i) (WCn h H ns i (fun _ => false))) (HMn h H ns u sw R s p φ i) ((ca i - cb i) * f 16) (f (8 + H.kd i)) := by
  obtain ⟨g', e, w, B, -⟩ := hire_draw (d := d) cc no hi hb ld v hw
  obtain ⟨hf, l2⟩ := ld
  obtain ⟨ck, cf⟩ := cc g v
  obtain ⟨e1, -, -, -⟩ := cf i hi
  obtain ⟨n1, -, -, -, n5⟩ := no i hi
  have hm := ck.2.1
  obtain ⟨⟨o1, o2⟩, ⟨b1, b2, b3, b4⟩, -⟩ := ck.2.2 i hi
  have pl : hpN s p φ R (askH h H ns u i) ≤ 100 := hp_le (fun j hj => by
    obtain ⟨-, -, -, cr, -⟩ := l2 g v.1
    exact (cr.2.2 j hj).2.1)
  have VW : ∀ g', Upd (WB ++ [(1211000008, 0)]) g g' → VC h h1 g' := fun g' u => v.up u (by decide) (by decide)
  exact c_drawBill (L := L) (scr := scr) (d := d + 1) (v := askH h H ns u i) (by omega) e w B n1 e1 b1 o1 (fun g2 u2 => by
    have v2 := VW g2 (u2.mono (fun s hs => List.mem_append_left _ hs))
    obtain ⟨ck2, cf2⟩ := cc g2 v2
    obtain ⟨-, -, -, f4⟩ := cf2 i hi
    obtain ⟨⟨c1, -⟩, ⟨c2, -, c3, -⟩, -⟩ := ck2.2.2 i hi
    obtain ⟨g3, a1, a2, a3⟩ := c_P_ask (L := L) (scr := scr) (d := d + 3) (h := g2) (b := H.bt i) (x := H.o i) (n := ns) (m := m) (u := u i) b2 o2 hns (by rw [v2.1.2 _ _ (by decide)]; exact en) hm ck2.1 n5 f4
    refine ⟨g3, a1, a2, ?_⟩
    rw [c3, v2.1.2 800000100 0 (by decide), v2.1.2 802000040 0 (by decide), v2.1.2 803000040 0 (by decide), v2.1.2 804000040 0 (by decide), v2.1.2 805 0 (by decide), v2.1.2 806000100 0 (by decide)] at a3
    exact a3) (fun g2 u2 va => by
    have v2 := VW g2 u2
    obtain ⟨-, -, -, -, lr, l0⟩ := l2 g2 v2.1
    cases lo with
    | none =>
      obtain ⟨-, rfl⟩ := lr
      exact c_harmPart0 (l0 rfl)
    | some l =>
      obtain ⟨-, -, RE⟩ := lr
      exact c_harmPart va RE) pl
theorem hire_M (cm : CtxM L scr h g1 H m n sw ca cb qq u) (no : NumOk m sw ca cb qq u) (qw : RWater h) (qs : RSpell h) (qd : RWeed h) {i ns : Nat} (hi : i < m) (hb : H.bk i = true) {lo : Option Nat} {f : Nat → Nat} {R : Nat} {s p : Nat → Nat} {φ : Nat → (Nat → Int32) → Bool} (ld : LawD L scr h (H.o i / 720) lo f R s p φ) (hns : ns ≤ 40) (en : hI h 801 0 0 = nI ns) {g : MH} (v : VM h g1 g) : E L scr (d + 8) 266 [vR 900012 0, vI (nI i)] g = some (some (vI (nI (H.mi i))), g) ∧ E L scr (d + 8) 267 [vR 900012 0, vI (nI i)] g = some (some (vI (nI (FRn H m f i))), g) ∧ (∀ fr, fr ≤ H.mi i → E L scr (d + 8) 268 [vR 900012 0, vI (nI i), vI (nI fr)] g = some (some (vI (nI (PRn h H lo f R s p i fr))), g)) ∧ E L scr (d + 8) 269 [vR 900012 0, vI (nI i)] g = some (some (vI (nI (ltN f (H.mi i) (qq i)))), g) ∧ (∀ pr, pr ≤ 7182810 → ∀ (more : Int32) (my : Nat → Bool), ((more = -1 ∧ ∀ y, my y = false) ∨ (more ≠ -1 ∧ ∀ y, y < 720 → inB (nI y) more (more + 59) = my y)) → E L scr (d + 8) 270 [vR 900012 0, vI (nI i), vI (nI pr), vI more] g = some (some (vI (nI (wtN f pr (H.mi i) (WCn h H ns i my)))), g)) ∧ (∃ g', E L scr (d + 8) 271 [vR 900012 0, vI (nI i)] g = some (some (vI (nI (HMn h H ns u sw R s p φ i))), g') ∧ Upd [(1320000008, 0), (1321200064, 0)] g g') ∧ E L scr (d + 8) 272 [vR 900012 0, vI (nI i)] g = some (some (vI (nI ((ca i - cb i) * f 16))), g) ∧ E L scr (d + 8) 264 [vR 900012 0, vI (nI i)] g = some (some (vI (oI lo)), g) ∧ E L scr (d + 8) 265 [vR 900012 0, vI (nI i)] g = some (some (vI (nI (H.kd i))), g) ∧ E L scr (d + 8) 233 [vR 900012 0, vI (oI lo), vI (nI (8 + H.kd i))] g = some (some (vI (nI (f (8 + H.kd i)))), g) := by
  obtain ⟨hf, l2⟩ := ld
  obtain ⟨-, la, -, -, lr, -⟩ := l2 g v.1
  obtain ⟨k, cf⟩ := cm g v
  obtain ⟨e1, e2, e3, e4, e5⟩ := cf i hi
  obtain ⟨n1, n2, n3, n4, n5⟩ := no i hi
  have hmn := k.2.2.1
  have hn := k.2.1
  obtain ⟨⟨-, o2⟩, ⟨-, -, -, k4⟩, -⟩ := k.2.2.2 i (by omega)
  obtain ⟨s1, s2, s3, ns', hns', cs, ms, -⟩ := qs
  have ens : ns' = ns := (nI_eq (by omega) (by omega)).mp (by rw [← cs, en])
  subst ens
  obtain ⟨d1, ⟨rt, hrt, cr, mr⟩, -⟩ := qd
  have r := v.1.sites (S := [613000040, 614000040]) (by decide)
  have mk := mk_mi k hi hb
  refine ⟨c_M_minsOf k hi hb, c_M_freeOf (d := d + 4) k hi hb la hf, fun fr hfr => ?_, c_M_lateOf (d := d + 5) k hi hb la hf n4 e4, fun pr hp more my hm => ?_, ?_, c_M_cushionsOf (d := d + 5) k (by omega) la n2 n3 e2 e3, c_M_lawBy (d := d + 6) k (by omega) la, c_M_kindBy k (by omega), c_M_saidN la (by omega)⟩
  · have := c_M_priceOf (L := L) (scr := scr) (d := d + 4) k hi hb hfr la hf lr
    rw [r 613000040 _ (by decide), r 614000040 _ (by decide)] at this
    exact this
  · exact c_M_wetOf (L := L) (scr := scr) (d := d + 5) k hi hb hp la hf (ry := rainY h (H.o i / 720) ns') (fun d y hy => by
      rw [c_M_rains (d := d) _ _ hns' (by rw [v.1.2 _ _ (by decide)]; exact ms), v.1.2 1332000040 0 (by decide), v.1.2 1333000040 0 (by decide), v.1.2 1334000040 0 (by decide), ← s1, ← s2, ← s3]; rfl) hm
  · exact c_M_harmOf (L := L) (scr := scr) (d := d + 2) k (by omega) la lr n1 e1 (e5 (d + 4)) n5 hns' (by rw [v.1.2 _ _ (by decide)]; exact ms) (by
      unfold askH
      rw [v.1.2 1330000100 0 (by decide), v.1.2 1332000040 0 (by decide), v.1.2 1333000040 0 (by decide), v.1.2 1334000040 0 (by decide), v.1.2 1327 0 (by decide), v.1.2 1331000100 0 (by decide), ← s1, ← s2, ← s3, mr, ← d1, cr, show hI h 1330000100 0 = hI h 800000100 0 from Eq.symm qw])
theorem hire_owed (cm : CtxM L scr h g1 H m n sw ca cb qq u) (no : NumOk m sw ca cb qq u) (qw : RWater h) (qs : RSpell h) (qd : RWeed h) {i ns : Nat} (hi : i < m) (hb : H.bk i = true) {lo : Option Nat} {f : Nat → Nat} {R : Nat} {s p : Nat → Nat} {φ : Nat → (Nat → Int32) → Bool} (ld : LawD L scr h (H.o i / 720) lo f R s p φ) (hns : ns ≤ 40) (en : hI h 801 0 0 = nI ns) {g : MH} (v : VM h g1 g) : ∃ g', E L scr (d + 9) 273 [vR 900012 0, vI (nI i)] g = some (some (vI (nI (PRn h H lo f R s p i (FRn H m f i)) + nI (ltN f (H.mi i) (qq i)) + nI (HMn h H ns u sw R s p φ i) + nI ((ca i - cb i) * f 16) - nI (wtN f (PRn h H lo f R s p i (FRn H m f i)) (H.mi i) (WCn h H ns i (fun _ => false))))), g') ∧ Upd [(1320000008, 0), (1321200064, 0)] g g' := by
  obtain ⟨-, a2, a3, a4, -, ⟨g', a6, w6⟩, -⟩ := hire_M (d := d) cm no qw qs qd hi hb ld hns en v
  have v2 : VM h g1 g' := v.up w6 (by decide) (by decide)
  obtain ⟨-, -, -, -, b5, -, b7, -⟩ := hire_M (d := d) cm no qw qs qd hi hb ld hns en v2
  have k := (cm g v).1
  have mb := (mk_mi k hi hb).2.1
  have prl : PRn h H lo f R s p i (FRn H m f i) ≤ 7182810 := pr_le2 ld.1 bz_le mb
  refine ⟨g', r_M_owedOf _ _ _ (Sm.ret ?_), w6⟩
  rw [t_M_owedOf_0, a2, clI_ok, a3 (FRn H m f i) (Nat.min_le_left _ _), clI_ok, a4, clI_ok, a6, clI_ok, b7, clI_ok, b5 _ prl (-1) (fun _ => false) (Or.inl ⟨rfl, fun _ => rfl⟩), clI_ok]
end Hire

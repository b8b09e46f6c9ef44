/-! BILLS: the class draws one, with harm -/
/-- the bill that was drawn -/
def BillIs (g : MH) (mi fr pr lt wt hm cu dp : Nat) : Prop := hI g 100 0 0 = nI mi ∧ hI g 101 0 0 = nI fr ∧ hI g 103 0 0 = nI pr ∧ hI g 104 0 0 = nI lt ∧ hI g 105 0 0 = nI wt ∧ hI g 106 0 0 = nI hm ∧ hI g 107 0 0 = nI cu ∧ hI g 108 0 0 = nI dp
section Draw2
variable {L : Nat} {scr : Nat → Int32} {d : Nat}
theorem sub_leI {a b c : Nat} (ha : a < 2 ^ 30) (hb : b < 2 ^ 30) (hc : c < 2 ^ 30) : nI a - nI b ≤ nI c ↔ a ≤ b + c := by
  rw [Int32.le_iff_toInt_le, nI_sub_toInt ha hb, nI_toInt (by omega)]
  omega
theorem c_wetCoin {g : MH} {f : Nat → Nat} {pr mi wc : Nat} (hf : LB f) (hp : pr ≤ 7182810) (hm : mi ≤ 719) (hw : wc ≤ 720) (e1 : hI g 100 0 0 = nI mi) (e2 : hI g 103 0 0 = nI pr) : E L scr (d + 1) 5 [vR 900000 0, vI (nI (f 15)), vI (nI wc)] g = some (some (vI (nI (wtN f pr mi wc))), g) := by
  have h15 := hf.2.2.2
  refine r_Bill_wetCoin _ _ _ _ (Sm.ret ?_)
  rw [t_Bill_wetCoin_0, e1, e2]
  unfold wtN
  by_cases c : mi = 0
  · rw [if_pos c, c, if_pos (by decide)]; rfl
  · have b1 : pr * f 15 ≤ 7182810 * 100 := Nat.mul_le_mul hp h15
    have b2 : pr * f 15 * wc ≤ 7182810 * 100 * 720 := Nat.mul_le_mul b1 hw
    rw [if_neg c, if_neg (show ¬ nI mi ≤ 0 from nI_ge (a := 0) (b := mi) (by omega) (by omega)), i2l_nI (by omega), i2l_nI (by omega), i2l_nI (by omega), i2l_nI (by omega), show (100 : Int64) = lN 100 from rfl, ← lNmulR, ← lNmulR, ← lNmulR, dvJ_ok (fun z => (show 100 * mi ≠ 0 by omega) ((lN0 (by omega)).mp z)), lNdiv (by omega) (by omega), lN_i]
theorem c_draw {H : HN} {m : Nat} {g : MH} (k : CK H m g) {i mm R q ca cb : Nat} {s p f W : Nat → Nat} (hi : i < m) (hb : H.bk i = true) (hf : LB f) (hl : LawEq g mm (fun j => nI (f j))) (hr : CR g mm R s p) (hq : q ≤ 720) (eq : hI g 206000120 0 i = nI q) (hca : ca ≤ 9) (hcb : cb ≤ 9) (ec : hI g 1104000120 0 i = nI (10 * ca + cb)) (hW : ∀ x, x < 721 → hI g 1212000721 0 x = nI (W x)) (wm : ∀ a b, a ≤ b → W a ≤ W b) (wl : ∀ x, W x ≤ x) : ∃ g', E L scr (d + 6) 2 [vR 900000 0, vR 900010 0, vI (nI i), vR 900005 mm, vR 1212000721 0] g = some (none, g') ∧ Upd WB g g' ∧ BillIs g' (H.mi i) (frN H m i (f (20 + (4 * H.w i + H.kd i)))) (prN H f (bzN (hI g 613000040 mm) (hI g 614000040 mm) s p R (H.o i % 720)) i (frN H m i (f (20 + (4 * H.w i + H.kd i))))) (ltN f (H.mi i) q) (wtN f (prN H f (bzN (hI g 613000040 mm) (hI g 614000040 mm) s p R (H.o i % 720)) i (frN H m i (f (20 + (4 * H.w i + H.kd i))))) (H.mi i) (W (H.o i % 720 + H.mi i) - W (H.o i % 720))) 0 ((ca - cb) * f 16) (f (8 + H.kd i)) ∧ hI g' 109 0 0 = nI (H.o i % 720) := by
  obtain ⟨⟨e1, o1⟩, ⟨-, -, -, k4⟩, ⟨w1, w2⟩, -⟩ := k.2.2 i hi
  have hm := k.2.1
  obtain ⟨mi1, mi2⟩ := ck_mi k hi hb
  obtain ⟨g1, eP, u1, v09, v00, v01, v03, -⟩ := c_drawPrice (L := L) (scr := scr) (d := d) k hi hb hf hl hr
  obtain ⟨pr, hpr⟩ : ∃ pr, pr = prN H f (bzN (hI g 613000040 mm) (hI g 614000040 mm) s p R (H.o i % 720)) i (frN H m i (f (20 + (4 * H.w i + H.kd i)))) := ⟨_, rfl⟩
  rw [← hpr] at v03
  rw [← hpr]
  have prl : pr ≤ 7182810 := by rw [hpr]; exact pr_le2 hf bz_le mi1
  obtain ⟨l1, ⟨l12, l13, l14, l15, l16⟩, l3⟩ := id hl
  obtain ⟨-, -, p3⟩ := l1 (H.kd i) k4
  obtain ⟨hf1, hf2, hf3, hf4⟩ := id hf
  have L1 : ∀ {g' : MH}, Upd WB g g' → ∀ a, a ∈ [605, 606, 607, 608, 609, 603000004] → hI g' a mm = hI g a mm := fun u a ha => u.sites (by decide) a mm ha
  have f12 := hf1 12
  have f13 := hf1 13
  have f14 := hf1 14
  have f16 := hf1 16
  -- lateness
  obtain ⟨lt, hlt⟩ : ∃ lt, lt = ltN f (H.mi i) q := ⟨_, rfl⟩
  have A0 : dn L scr (E L scr (d + 5)) B_Bill_draw C_Bill_draw 0 [some (vR 900000 0), some (vR 900010 0), some (vI (nI i)), some (vR 900005 mm), some (vR 1212000721 0), none, none] [] g = some (.inl (2, [some (vR 900000 0), some (vR 900010 0), some (vI (nI i)), some (vR 900005 mm), some (vR 1212000721 0), some (vI (nI (H.mi i) - nI q)), none], [vI (nI lt), vR 900000 0], g1)) := by
    rw [t_Bill_draw_0, eP, clV_ok, rd_Book_bookedFor (oob_nI (by omega) (by decide)), ix_nI (by omega), u1.2 206000120 _ (by decide), eq, v00, L1 u1 _ (by decide), l14, hlt]
    unfold ltN
    by_cases c : H.mi i ≤ q + f 14
    · rw [if_pos ((sub_leI (by omega) (by omega) (by omega)).mpr c), if_pos c]; rfl
    · rw [if_neg (fun z => c ((sub_leI (by omega) (by omega) (by omega)).mp z)), if_neg c, L1 u1 _ (by decide), l13, nI_sub (by omega), c_begun (by omega) hf3 (by omega), clI_ok, L1 u1 _ (by decide), l12, nI_mul]
  obtain ⟨g2, hg2⟩ : ∃ g2, g2 = sI g1 104 0 0 (nI lt) := ⟨_, rfl⟩
  have u2 : Upd WB g g2 := by rw [hg2]; exact u1.sI (by decide)
  have v2 : ∀ a, a ≠ 104 → hI g2 a 0 = hI g1 a 0 := fun a ha => by rw [hg2, hI_rn (fun z => ha z.1)]
  obtain ⟨wc, hwc⟩ : ∃ wc, wc = W (H.o i % 720 + H.mi i) - W (H.o i % 720) := ⟨_, rfl⟩
  have wl1 := wl (H.o i % 720 + H.mi i)
  obtain ⟨wt, hwt⟩ : ∃ wt, wt = wtN f pr (H.mi i) wc := ⟨_, rfl⟩
  have cW := c_wetCoin (L := L) (scr := scr) (d := d + 4) (g := g2) (f := f) (pr := pr) (mi := H.mi i) (wc := wc) hf prl mi1 (by omega) (by rw [v2 _ (by decide)]; exact v00) (by rw [v2 _ (by decide)]; exact v03)
  rw [← hwt] at cW
  obtain ⟨g3, hg3⟩ : ∃ g3, g3 = sI (sI g2 105 0 0 (nI wt)) 106 0 0 0 := ⟨_, rfl⟩
  have u3 : Upd WB g g3 := by rw [hg3]; exact (u2.sI (by decide)).sI (by decide)
  obtain ⟨g4, hg4⟩ : ∃ g4, g4 = sI g3 107 0 0 (nI ((ca - cb) * f 16)) := ⟨_, rfl⟩
  have u4 : Upd WB g g4 := by rw [hg4]; exact u3.sI (by decide)
  have eC : hI g3 1104000120 0 i = nI (10 * ca + cb) := by rw [u3.2 _ _ (by decide)]; exact ec
  have cd : nI (10 * ca + cb) / 10 = nI ca := by rw [show nI (10 * ca + cb) / 10 = nI ((10 * ca + cb) / 10) from nI_div (b := 10) (by omega) (by decide)]; exact congrArg nI (by omega)
  have cm : nI (10 * ca + cb) % 10 = nI cb := by rw [show nI (10 * ca + cb) % 10 = nI ((10 * ca + cb) % 10) from nI_mod (b := 10) (by omega) (by decide)]; exact congrArg nI (by omega)
  have ck4 : CK H m g4 := k.up (u4.sites (by decide))
  have rw0 : ∀ x, x < 721 → ∀ k : Int32 → Option Exit, rdI 0 g2 1212000721 0 (nI x) k = k (nI (W x)) := fun x hx k => by rw [rd_P_wetBy (oob_nI hx (by decide)), ix_nI (by omega), u2.2 _ _ (by decide), hW x hx]
  refine ⟨sI g4 108 0 0 (nI (f (8 + H.kd i))), r_Bill_draw _ _ _ _ _ _ _ (Sm.step A0 (Sm.ret ?_)), u4.sI (by decide), ⟨?_, ?_, ?_, ?_, ?_, ?_, ?_, ?_⟩, ?_⟩
  · rw [t_Bill_draw_2, ← hg2, v2 109 (by decide), v09, v2 100 (by decide), v00, nI_add, rw0 _ (by omega), rw0 _ (by omega), nI_sub (wm _ _ (by omega)), ← hwc, L1 u2 _ (by decide), l15, cW, clI_ok, ← hg3, rd_View_cushioned (oob_nI (by omega) (by decide)), ix_nI (by omega), eC, dvI_ok (by decide), cd, rd_View_cushioned (oob_nI (by omega) (by decide)), ix_nI (by omega), eC, dvI_ok (by decide), cm, c_max, clI_ok, max0_r (by omega) (by omega), L1 u3 _ (by decide), l16, nI_mul, Nat.mul_comm (f 16), ← hg4, c_kindOfHire ck4 hi, clI_ok, rd_Law_deposit (oob_nI k4 (by decide)), ix_nI (by omega), L1 u4 _ (by decide), p3]
  · rw [hI_rn (by decide), hg4, hI_rn (by decide), hg3, hI_rn (by decide), hI_rn (by decide), v2 _ (by decide)]; exact v00
  · rw [hI_rn (by decide), hg4, hI_rn (by decide), hg3, hI_rn (by decide), hI_rn (by decide), v2 _ (by decide)]; exact v01
  · rw [hI_rn (by decide), hg4, hI_rn (by decide), hg3, hI_rn (by decide), hI_rn (by decide), v2 _ (by decide)]; exact v03
  · rw [hI_rn (by decide), hg4, hI_rn (by decide), hg3, hI_rn (by decide), hI_rn (by decide), hg2, hI_rs, up_s, hlt]
  · rw [hI_rn (by decide), hg4, hI_rn (by decide), hg3, hI_rn (by decide), hI_rs, up_s, hwt, hwc]
  · rw [hI_rn (by decide), hg4, hI_rn (by decide), hg3, hI_rs, up_s]; rfl
  · rw [hI_rn (by decide), hg4, hI_rs, up_s]
  · rw [hI_rs, up_s]
  · rw [hI_rn (by decide), hg4, hI_rn (by decide), hg3, hI_rn (by decide), hI_rn (by decide), v2 _ (by decide)]; exact v09
theorem c_owed {g : MH} {mi fr pr lt wt hm cu dp : Nat} (b : BillIs g mi fr pr lt wt hm cu dp) : E L scr (d + 1) 7 [vR 900000 0] g = some (some (vI (nI pr + nI lt + nI hm + nI cu - nI wt)), g) := by
  obtain ⟨-, -, b3, b4, b5, b6, b7, -⟩ := b
  refine r_Bill_owed _ _ (Sm.ret ?_)
  rw [t_Bill_owed_0, b3, b4, b5, b6, b7]
/-- the class's bill with harm -/
theorem c_drawBill {g g1 : MH} {i mm sw hp : Nat} {bt o mi fr pr lt wt cu dp : Nat} {v : Nat → Int32} (hi : i < 120) (eD : E L scr (d + 6) 2 [vR 900000 0, vR 900010 0, vI (nI i), vR 900005 mm, vR 1212000721 0] g = some (none, g1)) (u1 : Upd WB g g1) (B : BillIs g1 mi fr pr lt wt 0 cu dp) (hs : sw ≤ 9999) (es : hI g 1103000120 0 i = nI sw) (eb : hI g 203000120 0 i = nI bt) (eo : hI g 205000120 0 i = nI o) (hask : ∀ g', Upd WB g g' → ∃ g2, E L scr (d + 6) 191 [vR 900011 0, vI (nI bt), vI (nI o)] g' = some (none, g2) ∧ Upd [(1211000008, 0)] g' g2 ∧ AskV (hI g2 1211000008 0) v) (hh : ∀ g2, Upd (WB ++ [(1211000008, 0)]) g g2 → AskV (hI g2 1211000008 0) v → E L scr (d + 6) 59 [vR 900005 mm, vR 1211000008 0] g2 = some (some (vI (nI hp)), g2)) (hp100 : hp ≤ 100) : ∃ g', E L scr (d + 7) 194 [vR 900011 0, vI (nI i), vR 900005 mm] g = some (none, g') ∧ Upd (WB ++ [(1211000008, 0)]) g g' ∧ BillIs g' mi fr pr lt wt (sw * hp / 100) cu dp := by
  have rS : ∀ {g' : MH}, Upd (WB ++ [(1211000008, 0)]) g g' → hI g' 1103000120 0 i = nI sw := fun u => by rw [u.2 _ _ (by decide)]; exact es
  have m1 : Upd (WB ++ [(1211000008, 0)]) g g1 := u1.mono (fun s hs => List.mem_append_left _ hs)
  by_cases c : sw = 0
  · refine ⟨g1, r_P_drawBill _ _ _ _ (Sm.ret ?_), m1, ?_⟩
    · rw [t_P_drawBill_0, eD, clV_ok, rd_View_swamped (oob_nI hi (by decide)), ix_nI (by omega), rS m1, c, if_pos (by decide)]
    · rw [c, Nat.zero_mul, Nat.zero_div]; exact B
  · obtain ⟨g2, eA, uA, vA⟩ := hask g1 u1
    have m2 : Upd (WB ++ [(1211000008, 0)]) g g2 := m1.tr (uA.mono (by decide))
    have eH := hh g2 m2 vA
    have ml : sw * hp ≤ 9999 * 100 := Nat.mul_le_mul hs hp100
    refine ⟨sI g2 106 0 0 (nI (sw * hp / 100)), r_P_drawBill _ _ _ _ (Sm.ret ?_), m2.sI (by decide), ?_⟩
    · rw [t_P_drawBill_0, eD, clV_ok, rd_View_swamped (oob_nI hi (by decide)), ix_nI (by omega), rS m1, if_neg (show ¬ nI sw ≤ 0 from nI_ge (a := 0) (b := sw) (by omega) (by omega)), rd_Book_boatOf (oob_nI hi (by decide)), ix_nI (by omega), m1.2 _ _ (by decide), eb, rd_Book_outAt (oob_nI hi (by decide)), ix_nI (by omega), m1.2 _ _ (by decide), eo, eA, clV_ok, rd_View_swamped (oob_nI hi (by decide)), ix_nI (by omega), rS m2, eH, clI_ok, dvI_ok (by decide), nI_mul, show (100 : Int32) = nI 100 from rfl, nI_div (by omega) (by decide)]
    · obtain ⟨b1, b2, b3, b4, b5, b6, b7, b8⟩ := B
      have r : ∀ a, a ≠ 1211000008 → a ≠ 106 → hI (sI g2 106 0 0 (nI (sw * hp / 100))) a 0 = hI g1 a 0 := fun a h1 h2 => by rw [hI_rn (fun z => h2 z.1), uA.2 _ _ (fun z => h1 (by rw [List.mem_singleton] at z; exact congrArg Prod.fst z))]
      refine ⟨?_, ?_, ?_, ?_, ?_, ?_, ?_, ?_⟩
      · rw [r _ (by decide) (by decide)]; exact b1
      · rw [r _ (by decide) (by decide)]; exact b2
      · rw [r _ (by decide) (by decide)]; exact b3
      · rw [r _ (by decide) (by decide)]; exact b4
      · rw [r _ (by decide) (by decide)]; exact b5
      · rw [hI_rs, up_s]
      · rw [r _ (by decide) (by decide)]; exact b7
      · rw [r _ (by decide) (by decide)]; exact b8
end Draw2

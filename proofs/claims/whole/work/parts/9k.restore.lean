/-! CALLS: image, restore -/
/-- what stands over an image -/
def FrI (h h2 : MH) : Prop := (∀ a b, (a, b) ∉ (1207, 0) :: WIm → (b = 0 ∨ NoSt a) → hI h2 a b = hI h a b) ∧ (∀ a b i, a ≠ 1206500003 → (b = 0 ∨ a ∉ stRw) → hR h2 a b i = hR h a b i) ∧ hc h2 ≤ hc h + 49 ∧ hs h2 ≤ hs h + 2871 ∧ ∀ a, a ∉ 900009 :: stX.map Prod.fst → a ∉ stRw → hC h2 a = hC h a ∧ hD h2 a = hD h a
theorem FrI.rf (h : MH) : FrI h h := ⟨fun _ _ _ _ => rfl, fun _ _ _ _ _ => rfl, by omega, by omega, fun _ _ _ => ⟨rfl, rfl⟩⟩
/-- rows that restore changes -/
abbrev NoRe (a : Nat) : Prop := a ∉ tkAll.map Prod.fst ∧ a ≠ 1393 ∧ a ∉ mL.map Prod.fst ∧ a ∉ mSc
def FrT (h h2 : MH) : Prop := (∀ a b, (b ≠ 0 ∨ NoRe a) → hI h2 a b = hI h a b) ∧ h2.2 = h.2
theorem FrT.rf (h : MH) : FrT h h := ⟨fun _ _ _ => rfl, rfl⟩
section Image2
variable {L : Nat} {scr : Nat → Int32} {d : Nat}
theorem call_image (h : MH) (x : RIm h) (q : RImg h) : ∃ r h1 h2, E L scr (d + 40) 174 [vR 900011 0] h = some (some r, h1) ∧ E L scr (d + 40) 330 [vR 900012 0] h1 = some (some r, h2) ∧ RImg h2 ∧ FrI h h2 := by
  obtain ⟨k, hk, ei, em, al, ims⟩ := id q
  by_cases k3 : k = 3
  · subst k3
    refine ⟨vI (-1), h, h, r_P_image _ _ (Sm.ret ?_), r_M_image _ _ (Sm.ret ?_), q, FrI.rf h⟩
    · rw [t_P_image_0, ei, if_neg (by decide)]
    · rw [t_M_image_0, em, if_pos (show nI 3 = 3 from rfl)]
  · obtain ⟨g, e1, al1, ei1, fI, fC, r0, fR, n1, n2, fN⟩ := c_P_image (L := L) (scr := scr) (d := d + 36) (by omega) ei al
    have f0 : ∀ a, a ≠ 1207 → hI g a 0 = hI h a 0 := fun a ha => fI a 0 (Or.inl ha) (Or.inl (by omega))
    obtain ⟨g1, g2, u1, s1, e2, u2, ei2, c2, S2⟩ := c_M_image (L := L) (scr := scr) (d := d + 38) (k := k) (g := g) (by omega) (by rw [f0 _ (by decide)]; exact em)
    refine ⟨vI (nI k), g, g2, e1, e2, ⟨k + 1, by omega, by rw [u2.2 _ _ (by decide)]; exact ei1, ei2, ?_, fun j hj => ?_⟩, ⟨fun a b h1 h2 => ?_, fun a b i h1 h2 => ?_, ?_, ?_, fun a h1 h2 => ?_⟩⟩
    · obtain ⟨p1, p2⟩ := al1
      have eC : hC g2 = hC g := u2.C
      have eD : hD g2 = hD g := by unfold hD; rw [u2.1]
      exact ⟨fun X hX => by rw [eC, eD]; exact p1 X hX, fun s hs => by rw [eC]; exact p2 s hs⟩
    · have uj : ∀ a, hI g2 a (j + 1) = hI g a (j + 1) := fun a => u2.2 a (j + 1) (fun z => absurd ((by decide : ∀ w, w ∈ WIm → w.2 = 0) _ z) (by show j + 1 ≠ 0; omega))
      rcases Nat.lt_succ_iff_lt_or_eq.mp hj with hj' | hj'
      · obtain ⟨s, p1, p2, p3, p4⟩ := ims j hj'
        refine ⟨s, p1, fun q hq c hc => ?_, p3.cg (fun c h1 h2 => ?_), ?_⟩
        · rw [uj, fI q.1 (j + 1) (Or.inr (by omega)) (Or.inl (by omega))]; exact p2 q hq c hc
        · have h2 : c < 4200 * j + 3107 := h2
          rw [c2 c (by omega), f0 _ (by decide)]
        · rw [u2.R, fR _ _ _ (fun z => by omega) (Or.inl (by omega))]; exact p4
      · subst hj'
        refine ⟨h, x, fun q hq c hc => ?_, S2.cv (fun q hq c hc => ?_), by rw [u2.R]; exact r0⟩
        · rw [uj]; exact fC q hq c hc
        · show vIm h q.1 c = hI g1 q.1 0 c
          unfold vIm
          by_cases e : q.1 = 1395000013
          · have hc13 : c < 13 := by
              have := (by decide : ∀ q, q ∈ mL → q.1 = 1395000013 → q.2 = 13) q hq e
              omega
            rw [if_pos e, e, s1 c hc13, f0 _ ((by decide : ∀ i : Fin 13, mSc.getD i.val 0 ≠ 1207) ⟨c, hc13⟩)]
          · have ne := (by decide : ∀ q, q ∈ mL → q.1 ≠ 1393 ∧ q.1 ≠ 1207) q hq
            rw [if_neg e, u1.2 q.1 0 (fun z => ?_), f0 _ ne.2]
            rcases List.mem_cons.mp z with w | w
            · exact ne.1 (congrArg Prod.fst w)
            · exact e (congrArg Prod.fst (List.mem_singleton.mp w))
    · have h1a : (a, b) ∉ WIm := fun z => h1 (List.mem_cons_of_mem _ z)
      have h1b : a ≠ 1207 ∨ b ≠ 0 := by
        by_cases e : a = 1207
        · exact Or.inr (fun z => h1 (by rw [e, z]; exact List.mem_cons_self))
        · exact Or.inl e
      rw [u2.2 a b h1a, fI a b h1b (h2.imp (fun z => by omega) id)]
    · rw [u2.R, fR a b i (fun z => h1 z.1) (h2.imp (fun z => by omega) id)]
    · have : hc g2 = hc g := by unfold hc; rw [u2.1]
      omega
    · have : hs g2 = hs g := by unfold hs; rw [u2.1]
      omega
    · have eC : hC g2 = hC g := u2.C
      have eD : hD g2 = hD g := by unfold hD; rw [u2.1]
      rw [eC, eD]; exact fN a h1 h2
theorem call_restore (y : Int32) (h : MH) (x : RIm h) (q : RImg h) : ∃ r h1 h2, E L scr (d + 40) 175 [vR 900011 0, vI y] h = some (some r, h1) ∧ E L scr (d + 40) 331 [vR 900012 0, vI y] h1 = some (some r, h2) ∧ RIm h2 ∧ RImg h2 ∧ FrT h h2 := by
  obtain ⟨k, hk, ei, em, al, ims⟩ := id q
  cases hy : ixB y k with
  | false =>
    refine ⟨vI 0, h, h, r_P_restore _ _ _ (Sm.ret ?_), r_M_restore _ _ _ (Sm.ret ?_), x, q, FrT.rf h⟩
    · rw [t_P_restore_0, ei]
      by_cases c1 : y < 0
      · rw [if_pos c1, rtZ0]
      · rw [if_neg c1]
        by_cases c2 : nI k ≤ y
        · rw [if_pos c2, rtZ0]
        · have : ixB y k = true := decide_eq_true ⟨nlt_i.mp c1, nle_i.mp c2⟩
          rw [this] at hy; cases hy
    · rw [t_M_restore_0, em, c_M_isIn, clI_ok, inB_pred (by omega), hy, itF, rtZ0]
  | true =>
    obtain ⟨j, hj, -, rfl⟩ := ixB_t hy
    obtain ⟨s, p1, p2, p3, p4⟩ := ims j hj
    obtain ⟨h1, hh1⟩ : ∃ h1, h1 = cpL 0 (j + 1) tkAll h := ⟨_, rfl⟩
    have eT : E L scr (d + 39) 106 [vR 900009 0, vR 900009 (j + 1)] h = some (none, h1) := by rw [hh1]; exact tk_State (d := d + 37) (by omega)
    have W1 : h1.2 = h.2 := by rw [hh1]; exact cpL_2
    have I1 : ∀ a b, (b ≠ 0 ∨ a ∉ tkAll.map Prod.fst) → hI h1 a b = hI h a b := fun a b hb => by rw [hh1]; exact cpL_n hb
    have M1 : ∀ a, a ∉ tkAll.map Prod.fst → hI h1 a 0 = hI h a 0 := fun a ha => I1 a 0 (Or.inr ha)
    obtain ⟨g, e2, w2, fI, fR, fS⟩ := c_M_restore (L := L) (scr := scr) (d := d + 38) (v := vIm s) (j := j) (k := k) (g := h1) hj hk (by rw [M1 _ (by decide)]; exact em) (by rw [M1 _ (by decide)]; exact p3)
    have cC : MgC s h g := fun q hq => by
      rw [fI q.1 0 (Or.inr ((by decide : ∀ q, q ∈ tkAll → q.1 ≠ 1393 ∧ q.1 ∉ mL.map Prod.fst ∧ q.1 ∉ mSc) q hq)), hh1, cpL_at (by omega) (by decide) hq]
      funext c
      unfold cpN
      by_cases e : c < q.2
      · rw [if_pos e, if_pos e]; exact p2 q hq c e
      · rw [if_neg e, if_neg e]
    have cM : MgM s h g := ⟨fun q hq => by
      rw [fR q hq, M1 q.1 ((by decide : ∀ q, q ∈ mL2 → q.1 ∉ tkAll.map Prod.fst) q hq)]
      have ne := (by decide : ∀ q, q ∈ mL2 → q.1 ≠ 1395000013) q hq
      rw [show vIm s q.1 = hI s q.1 0 from if_neg ne], fun a ha => by
      obtain ⟨i, hi⟩ := (by decide : ∀ a, a ∈ mSc → ∃ i : Fin 13, mSc.getD i.val 0 = a) a ha
      rw [← hi, fS i.val i.isLt, up_s]
      show (if 1395000013 = 1395000013 then fun i => hI s (mSc.getD i 0) 0 0 else hI s 1395000013 0) i.val = _
      rw [if_pos rfl]⟩
    have FR : FrT h g := ⟨fun a b hb => by
      rw [fI a b (hb.imp id (fun z => z.2)), I1 a b (hb.imp id (fun z => z.1))], w2.trans W1⟩
    refine ⟨vI 1, h1, g, r_P_restore _ _ _ (Sm.ret ?_), e2, p1.mg cC cM x, ⟨k, hk, by rw [FR.1 _ _ (Or.inr (by decide))]; exact ei, by rw [FR.1 _ _ (Or.inr (by decide))]; exact em, ?_, fun i hi => ?_⟩, FR⟩
    · have er : ∀ (K : Nat → Option Exit) (z : Option Exit), rdR 5 h 1206500003 0 (nI j) K z = K (j + 1) := fun K z => by
        unfold rdR
        rw [if_pos ⟨rfl, oob_nI (N := 3) (by omega) (by decide)⟩, ix_nI (by omega), p4]
      rw [t_P_restore_0, if_neg (nI_pos (by omega)), ei, if_neg (nI_ge hj (by omega)), er, er, eT, clV_ok, rtZ1]
    · obtain ⟨a1, a2⟩ := al
      have eC : hC g = hC h := by unfold hC; rw [FR.2]
      have eD : hD g = hD h := by unfold hD; rw [FR.2]
      exact ⟨fun X hX => by rw [eC, eD]; exact a1 X hX, fun s hs => by rw [eC]; exact a2 s hs⟩
    · obtain ⟨s', r1, r2, r3, r4⟩ := ims i hi
      refine ⟨s', r1, fun q hq c hc => by rw [FR.1 _ _ (Or.inl (by omega))]; exact r2 q hq c hc, by rw [FR.1 1394012600 0 (Or.inr (by decide))]; exact r3, ?_⟩
      have : hR g = hR h := by unfold hR; rw [FR.2]
      rw [this]; exact r4
end Image2

/-! CALL: law, both sides -/
section CallLaw
variable {L : Nat} {scr : Nat → Int32} {d : Nat}
/-- the object for a law more -/
theorem law_obj {h : MH} {n : Nat} {x y : Int32} (hn : n < 5) (cL : hI h 1203 0 0 = nI n) (qa : RLal h) (x0 : ¬ x < 0) (x1 : ¬ hI h 701 0 0 < x) (hy : ixB y 100 = true) : ∃ g, OldL n h g ∧ FrL h g ∧ (∀ a b, b ≠ n + 1 ∨ (a ∉ lwR ∧ ¬ (600 ≤ a ∧ a < 700)) → hI g a b = hI h a b) ∧ (hC g 900005 = n + 2 ∧ hD g 900005 = n + 2 ∧ (∀ s, s ∈ lwR → hC g s = n + 2) ∧ (∀ k, k < n + 1 → hR g 1201400005 0 k = some (k + 1)) ∧ ∀ k, n + 1 ≤ k → k < 5 → hR g 1201400005 0 k = none) ∧ ∀ h1 h2 z, E L scr (d + 2) 53 [vR 900005 (n + 1), vI y] g = some (none, h1) → E L scr (d + 2) 66 [vR 900006 0, vI x, vR 900005 (n + 1)] h1 = some (some (vI z), h2) → hI h2 1203 0 0 = nI n → Sm L scr (d + 2) B_P_law C_P_law 0 [some (vR 900011 0), some (vI x), some (vI y), none] [] h (if z = -1 then (some (vI (nI n)), sI (sI h2 1204 0 0 z) 1203 0 0 (nI (n + 1))) else (some (vI (-1)), sI h2 1204 0 0 z)) := by
  obtain ⟨n2, K, cL2, hn2, nK, Kn, K5, hC9, hD9, hCr, hRl, hRn⟩ := qa
  have e2 : n2 = n := (nI_eq (by omega) (by omega)).mp (by rw [← cL2, cL])
  subst e2
  have l5 : nI n2 < 5 := nI_lt (b := 5) hn (by decide)
  have ob : ¬ oob (nI n2) 5 := oob_nI hn (by decide)
  have ixn : ix (nI n2) = n2 := ix_nI (by omega)
  have tail : ∀ (h2 : MH) (z : Int32), hI h2 1203 0 0 = nI n2 → (if hI (sI h2 1204 0 0 z) 1204 0 0 = (-1 : Int32) then some (.inr (some (vI ((hI (sI (sI h2 1204 0 0 z) 1203 0 0 ((hI (sI h2 1204 0 0 z) 1203 0 0) + 1)) 1203 0 0) - 1)), sI (sI h2 1204 0 0 z) 1203 0 0 ((hI (sI h2 1204 0 0 z) 1203 0 0) + 1))) else (some (.inr (some (vI (-1)), sI h2 1204 0 0 z)) : Option Exit)) = some (.inr (if z = -1 then (some (vI (nI n2)), sI (sI h2 1204 0 0 z) 1203 0 0 (nI (n2 + 1))) else (some (vI (-1)), sI h2 1204 0 0 z))) := fun h2 z e => by
    have f1 : hI (sI h2 1204 0 0 z) 1204 0 0 = z := by rw [hI_rs, up_s]
    have f2 : hI (sI h2 1204 0 0 z) 1203 0 0 = nI n2 := by rw [hI_rn (by decide)]; exact e
    rw [f1, f2, nI_1, hI_rs, up_s, nI_pred]
    by_cases c : z = -1
    · rw [if_pos c, if_pos c]
    · rw [if_neg c, if_neg c]
  by_cases kk : K = n2 + 1
  · subst kk
    refine ⟨h, OldL.rf _ h, FrL.rf h, fun _ _ _ => rfl, ⟨hC9, hD9, hCr, hRl, hRn⟩, fun h1 h2 z e53 e66 cl => Sm.ret ?_⟩
    rw [t_P_law_0, if_neg x0, if_neg x1, c_P_isDay, clI_ok, hy, itT, cL, if_pos l5]
    unfold rdR
    rw [if_pos ⟨rfl, ob⟩, ixn, hRl n2 (by omega)]
    show clV (E L scr (d + 2) 53 [vR 900005 (n2 + 1), vI y] h) _ = _
    rw [e53, clV_ok, e66, clI_ok]
    exact tail h2 z cl
  · have kn : K = n2 := by omega
    subst kn
    obtain ⟨g, e52, gC, gD, gZ, gCo, gDo, gI, gR, gc, gs⟩ := mk_law (L := L) (scr := scr) (d := d) hC9 hD9 hCr
    obtain ⟨g2, hg2⟩ : ∃ g2, g2 = whole g 900005 (K + 1) := ⟨_, rfl⟩
    obtain ⟨g3, hg3⟩ : ∃ g3, g3 = sR g2 1201400005 0 K (some (K + 1)) := ⟨_, rfl⟩
    have I3 : ∀ a b, hI g3 a b = hI g a b := fun a b => by rw [hg3, hg2]; rfl
    have C3 : ∀ a, hC g3 a = hC g a := fun a => by rw [hg3, hg2]; rfl
    have D3 : ∀ a, hD g3 a = if a = 900005 then K + 2 else hD g a := fun a => by rw [hg3, hg2]; rfl
    have R3 : ∀ a b i, hR g3 a b i = if a = 1201400005 ∧ b = 0 ∧ i = K then some (K + 1) else hR g a b i := fun a b i => by rw [hg3, hg2]; rfl
    have RL : ∀ b i, hR g 1201400005 b i = hR h 1201400005 b i := fun b i => by rw [gR _ b (Or.inr (by decide))]
    have I4 : ∀ a b, b ≠ K + 1 ∨ (a ∉ lwR ∧ ¬ (600 ≤ a ∧ a < 700)) → hI g3 a b = hI h a b := fun a b hb => by rw [I3, gI a b hb]
    have ms : ∀ s, hI g3 s 0 = hI h s 0 := fun s => I4 s 0 (Or.inl (by omega))
    refine ⟨g3, ⟨fun s _ b hb => I4 s b (Or.inl hb), fun c _ => by rw [ms], fun c _ => by rw [ms], fun s _ c _ => by rw [ms], fun s _ c _ => by rw [ms], fun c _ => by rw [ms], fun k hk => by rw [R3, if_neg (by omega), RL]⟩, ⟨fun a b ha ha2 => ?_, fun a b i h1 h2 => by rw [R3, if_neg (fun z => h1 z.1), gR a b (Or.inr h2)], ?_, ?_, fun a h1 h2 => ?_⟩, I4, ⟨?_, ?_, fun s hs => ?_, fun k hk => ?_, fun k h1 h2 => ?_⟩, fun h1 h2 z e53 e66 cl => Sm.ret ?_⟩
    · exact I4 a b (Or.inr ⟨fun z => ha ((by decide : ∀ s, s ∈ lwR → s ∈ lawRows) a z), ha2⟩)
    · have : hc g3 = hc g := by rw [hg3, hg2]; rfl
      omega
    · have : hs g3 = hs g := by rw [hg3, hg2]; rfl
      omega
    · rw [C3, D3, if_neg h1, gCo a h1, gDo, List.count_eq_zero.mpr h2]; exact ⟨rfl, rfl⟩
    · rw [C3]; exact gC
    · rw [D3, if_pos rfl]
    · rw [C3, gCo s ((by decide : ∀ s, s ∈ lwR → s ≠ 900005) s hs), hCr s hs, (by decide : ∀ s, s ∈ lwR → lwR.count s = 1) s hs]
    · rw [R3]
      by_cases c : k = K
      · rw [if_pos ⟨rfl, rfl, c⟩, c]
      · rw [if_neg (fun z => c z.2.2), RL]; exact hRl k (by omega)
    · rw [R3, if_neg (by omega), RL]; exact hRn k (by omega) h2
    · have cL2 : hI g2 1203 0 0 = nI K := by
        rw [hg2]
        show hI g 1203 0 0 = _
        rw [gI _ 0 (Or.inl (by omega))]; exact cL
      rw [t_P_law_0, if_neg x0, if_neg x1, c_P_isDay, clI_ok, hy, itT, cL, if_pos l5]
      unfold rdR
      rw [if_pos ⟨rfl, ob⟩, ixn, hRn K (Nat.le_refl _) hn]
      show (if hD h 900005 = hC h 900005 then clV (E L scr (d + 2) 52 [vU 900005 (hC h 900005)] (newO h 900005 600 17)) _ else none) = _
      rw [hC9, hD9, if_pos rfl, e52, clV_ok, if_pos ⟨rfl, gC.symm, gD.symm, gZ⟩, ← hg2, cL2]
      unfold wrR
      rw [if_pos ⟨rfl, ob⟩, ixn, ← hg3]
      dsimp only
      rw [e53, clV_ok, e66, clI_ok]
      exact tail h2 z cl
end CallLaw

/-! CALL: old -/
section Old
variable {L : Nat} {scr : Nat → Int32} {d : Nat}
def ahF (W : Nat → Int32) (i k : Nat) (x : Int32) : Int32 := if W i < W k then x + 1 else if W k = W i then (if i ≤ k then x else x + 1) else x
theorem ahF_congr {W V : Nat → Int32} {n i : Nat} (hi : i < n) (h : ∀ k, k < n → W k = V k) (a : Int32) : fold (ahF W i) a n = fold (ahF V i) a n := fold_congr (fun k hk x => by unfold ahF; rw [h k hk, h i hi])
theorem c_boatsAheadOf {n i : Nat} (hn : n ≤ 20) (hi : i < n) {h : MH} (e : hI h 200 0 0 = nI n) : E L scr (d + 1) 195 [vR 900011 0, vI (nI i)] h = some (some (vI (fold (ahF (hI h 1213002304 0) i) 0 n)), h) := by
  refine r_P_boatsAheadOf _ _ _ (Sm.step (t' := 1) (lo' := [some (vR 900011 0), some (vI (nI i)), some (vI 0), some (vI 0)]) (st' := []) (h' := h) (t_P_boatsAheadOf_0 ..) ?_)
  refine Sm.for (lo := fun k => [some (vR 900011 0), some (vI (nI i)), some (vI (fold (ahF (hI h 1213002304 0) i) 0 k)), some (vI (nI k))]) (hh := fun _ => h) n (fun k hk => ?_) (Sm.ret ?_)
  · show _ = some (Sum.inl (1, [some (vR 900011 0), some (vI (nI i)), some (vI (ahF (hI h 1213002304 0) i k (fold (ahF (hI h 1213002304 0) i) 0 k))), some (vI (nI (k + 1)))], [], h))
    generalize fold (ahF (hI h 1213002304 0) i) 0 k = acc
    unfold ahF
    have o1 : ¬ oob (nI k) 2304 := oob_nI (by omega) (by decide)
    have o2 : ¬ oob (nI i) 2304 := oob_nI (by omega) (by decide)
    rw [t_P_boatsAheadOf_1, e, if_neg (nI_ge hk (by omega)), rd_P_work o1, rd_P_work o2, ix_nI (by omega), ix_nI (by omega), nI_1]
    by_cases c1 : hI h 1213002304 0 i < hI h 1213002304 0 k
    · rw [if_pos c1, if_pos c1]
    · rw [if_neg c1, if_neg c1, rd_P_work o1, rd_P_work o2, ix_nI (by omega), ix_nI (by omega)]
      by_cases c2 : hI h 1213002304 0 k = hI h 1213002304 0 i
      · rw [if_pos c2, if_pos c2]
        by_cases c3 : i ≤ k
        · rw [if_pos c3, if_pos (nI_le c3 (by omega))]
        · rw [if_neg c3, if_neg (nI_ge (by omega) (by omega))]
      · rw [if_neg c2, if_neg c2]
  · rw [t_P_boatsAheadOf_1, e, if_pos (nI_le (Nat.le_refl _) (by omega))]
/-- the first n places of a row are those of V -/
def setF (f V : Nat → Int32) (n : Nat) : Nat → Int32 := fun c => if c < n then V c else f c
theorem setF_0 (f V : Nat → Int32) : setF f V 0 = f := by funext c; exact if_neg (Nat.not_lt_zero c)
theorem setF_s (f V : Nat → Int32) (n : Nat) : up (setF f V n) n (V n) = setF f V (n + 1) := by
  funext c
  unfold up setF
  by_cases h1 : c = n
  · rw [if_pos h1, if_pos (by omega), h1]
  · rw [if_neg h1]
    by_cases h2 : c < n
    · rw [if_pos h2, if_pos (by omega)]
    · rw [if_neg h2, if_neg (by omega)]
theorem setF_t {f V : Nat → Int32} {n k : Nat} (h : k < n) : setF f V n k = V k := if_pos h
theorem call_old (x y : Int32) (h : MH) (q : RHire h) (qb : RBoat h) : Both L scr (d + 40) Scr (fun _ => True) 149 286 [vR 900011 0, vI x, vI y] [vR 900012 0, vI x, vI y] h := by
  obtain ⟨q1, q2, q3, q4, q5, n, T, nb, hn, hT, hnb, ch, mh, cl, ml, bn, tk, hk, hsep⟩ := id q
  obtain ⟨b1, nB, hnB, eb, mb, b2⟩ := qb
  cases hx : ixB x nB with
  | false =>
    refine both0 (vI (-1)) (r_P_old _ _ _ _ (Sm.ret ?_)) (r_M_old _ _ _ _ (Sm.ret ?_)) trivial
    · rw [t_P_old_0, c_P_isBoat eb, clI_ok, hx, itF]
    · rw [t_M_old_0, c_M_isBoat (by omega) mb, clI_ok, hx, itF]
  | true =>
    cases hy : inB y 0 (nI T) with
    | false =>
      refine both0 (vI (-1)) (r_P_old _ _ _ _ (Sm.ret ?_)) (r_M_old _ _ _ _ (Sm.ret ?_)) trivial
      · rw [t_P_old_0, c_P_isBoat eb, clI_ok, hx, itT, c_P_isTelling cl, clI_ok, hy, itF]
      · rw [t_M_old_0, c_M_isBoat (by omega) mb, clI_ok, hx, itT, c_M_isTelling ml, clI_ok, hy, itF]
    | true =>
      obtain ⟨t, ht, rfl⟩ := inB_T (by omega) hy
      obtain ⟨hm, B, S, C, eS, fS⟩ := see_g (L := L) (scr := scr) (d := d + 37) q 0 hT cl ht hn ch
      -- the class: its view, then the wear of each boat
      have u1 := vwx_Scr (h := h) (B := B) (S := S) (C := C) (n := cnS h t)
      obtain ⟨g, hg⟩ : ∃ g, g = withR h (vwL h 0 B S C (cnS h t)) := ⟨_, rfl⟩
      obtain ⟨V, hV⟩ : ∃ V : Nat → Int32, V = fun b => fold (adF (ownB (hI h 203000120 0) B (nI b)) (durV B (hI h 205000120 0))) 0 (cnS h t) := ⟨_, rfl⟩
      obtain ⟨gk, hgk⟩ : ∃ gk : Nat → MH, gk = fun k => withR g [(1213002304, 0, setF (hI g 1213002304 0) V k)] := ⟨_, rfl⟩
      have gm : ∀ k a b, a ≠ 1213002304 → hI (gk k) a b = hI g a b := fun k a b hne => by
        rw [hgk]; exact withR_miss (fun z => hne z.1)
      have gw : ∀ k, hI (gk k) 1213002304 0 = setF (hI g 1213002304 0) V k := fun k => by rw [hgk]; exact withR_hit
      have g0 : gk 0 = g := by
        rw [hgk]
        refine withR_id (fun q hq => ?_)
        rw [List.mem_singleton] at hq
        subst hq
        exact setF_0 _ V
      have ug : Upd Scr h g := by rw [hg]; exact u1
      have ugk : ∀ k, Upd Scr h (gk k) := fun k => ug.tr (by
        rw [hgk]
        exact withR_Upd (fun q hq => by
          rw [List.mem_singleton] at hq
          subst hq
          dsimp only
          decide))
      have gB : ∀ k, hI (gk k) 1102000120 0 = B := fun k => by rw [gm k _ _ (by decide), hg]; exact vwx_B
      have gn : ∀ k, hI (gk k) 1101 0 0 = nI (cnS h t) := fun k => by rw [gm k _ _ (by decide), hg]; exact vwx_n
      have gb : ∀ k, hI (gk k) 200 0 0 = nI nB := fun k => by rw [gm k _ _ (by decide), ug.2 _ _ (by decide)]; exact eb
      have go : ∀ k, hI (gk k) 205000120 0 = hI h 205000120 0 := fun k => by rw [gm k _ _ (by decide), ug.2 _ _ (by decide)]
      have gbo : ∀ k, hI (gk k) 203000120 0 = hI h 203000120 0 := fun k => by rw [gm k _ _ (by decide), ug.2 _ _ (by decide)]
      have fin : fold (fun k x => x) 0 0 = 0 := rfl
      obtain ⟨p, hp⟩ : ∃ p : Nat → Bool, p = fun i => decide (fold (ahF V i) 0 nB = x) := ⟨_, rfl⟩
      have hp0 : ∀ i, p i = decide (fold (ahF V i) 0 nB = x) := fun i => by rw [hp]
      have eC : E L scr (d + 40) 149 [vR 900011 0, vI x, vI (nI t)] h = some (some (vI (match ffst p nB with | some i => nI i | none => -1)), gk nB) := by
        refine r_P_old _ _ _ _ (Sm.step (t' := 3) (lo' := [some (vR 900011 0), some (vI x), some (vI (nI t)), some (vI 0)]) (st' := []) (h' := gk 0) ?_ ?_)
        · rw [t_P_old_0, c_P_isBoat eb, clI_ok, hx, itT, c_P_isTelling cl, clI_ok, hy, itT, eS, clV_ok, g0, hg]
        refine Sm.for (lo := fun k => [some (vR 900011 0), some (vI x), some (vI (nI t)), some (vI (nI k))]) (hh := gk) nB (fun k hk => ?_) (Sm.step (t' := 5) (lo' := [some (vR 900011 0), some (vI x), some (vI (nI t)), some (vI 0)]) (st' := []) (h' := gk nB) ?_ ?_)
        · rw [t_P_old_3, gb, if_neg (nI_ge hk (by omega)), c_minutesOfBoat (m := cnS h t) (by omega) (nI k) (gn k), clI_ok, wr_P_work (oob_nI (by omega) (by decide)), ix_nI (by omega), nI_1, gB, go, gbo]
          have e1 : sI (gk k) 1213002304 0 k (V k) = gk (k + 1) := by
            rw [hgk]
            show sI (withR g [(1213002304, 0, setF (hI g 1213002304 0) V k)]) 1213002304 0 k (V k) = withR g [(1213002304, 0, setF (hI g 1213002304 0) V (k + 1))]
            rw [withR_set, setF_s]
          rw [← e1, hV]
        · rw [t_P_old_3, gb, if_pos (nI_le (Nat.le_refl _) (by omega))]
        have ce : ∀ k, k < nB → E L scr (d + 39) 195 [vR 900011 0, vI (nI k)] (gk nB) = some (some (vI (fold (ahF V k) 0 nB)), gk nB) := fun k hk => by
          rw [c_boatsAheadOf hnB hk (gb nB), gw, ahF_congr (V := V) hk (fun j hj => setF_t hj)]
        refine Sm.find (lo := fun k => [some (vR 900011 0), some (vI x), some (vI (nI t)), some (vI (nI k))]) (hh := fun _ => gk nB) (r := fun o => (some (vI (match o with | some i => nI i | none => -1)), gk nB)) p nB (fun k hk pk => ?_) (fun k hk pk _ => Sm.ret ?_) (fun _ => Sm.ret ?_)
        · rw [hp0] at pk
          rw [t_P_old_5, gb, if_neg (nI_ge hk (by omega)), ce k hk, clI_ok, if_neg (of_decide_eq_false pk), nI_1]
        · rw [hp0] at pk
          rw [t_P_old_5, gb, if_neg (nI_ge hk (by omega)), ce k hk, clI_ok, if_pos (of_decide_eq_true pk)]
        · rw [t_P_old_5, gb, if_pos (nI_le (Nat.le_refl _) (by omega))]
      have a1 : ∀ r ∈ SHire, hI (gk nB) r.1 r.2 = hI h r.1 r.2 := fun r hr => (ugk nB).2 _ _ ((show ∀ r ∈ SHire, r ∉ Scr by decide) r hr)
      obtain ⟨B2, S2, C2, D2, eK, fK⟩ := kn_g (L := L) (scr := scr) (d := d + 38) q hT cl ht hn ch a1
      obtain ⟨f, hf⟩ : ∃ f, f = withR (gk nB) (knL (gk nB) B2 S2 C2 D2 (nI t)) := ⟨_, rfl⟩
      rw [← hf] at eK
      have uf : Upd Scr h f := (ugk nB).tr (by rw [hf]; exact kn_Scr)
      have fB : hI f 1350000120 0 = B2 := by rw [hf]; exact kn_B
      have ft : hI f 1354 0 0 = nI t := by rw [hf]; exact kn_t
      have fh : hI f 1336 0 0 = nI n := by rw [uf.2 _ _ (by decide)]; exact mh
      have fb : hI f 1335 0 0 = nI nB := by rw [uf.2 _ _ (by decide)]; exact mb
      have hB : ∀ i, i < cnS h t → B i = B2 i := fun i hi => by rw [(fS i hi).1, (fK i (by omega)).1]
      have td : ∀ i, i < n → decide (hI h 207000120 0 i ≤ nI t) = decide (i < cnS h t) := fun i hi => told_dec hT ht hk hi
      have ew : ∀ (d : Nat) (b : Nat), E L scr (d + 3) 284 [vR 900012 0, vI (nI b)] f = some (some (vI (V b)), f) := fun d b => by
        rw [c_M_wornNow hn (nI b) fh, fB, ft, uf.2 1341000120 0 (by decide), uf.2 1339000120 0 (by decide), uf.2 1343000120 0 (by decide), ← q1, ← q3, ← q5, wear_eq (v := durV B (hI h 205000120 0)) hm td hB (fun i hi => by unfold durV; rw [hB i hi]), hV]
      have eM : E L scr (d + 40) 286 [vR 900012 0, vI x, vI (nI t)] (gk nB) = some (some (vI (match ffst p nB with | some i => nI i | none => -1)), f) := by
        have ml1 : hI (gk nB) 1337 0 0 = nI T := by rw [(ugk nB).2 _ _ (by decide)]; exact ml
        have mb1 : hI (gk nB) 1335 0 0 = nI nB := by rw [(ugk nB).2 _ _ (by decide)]; exact mb
        refine r_M_old _ _ _ _ (Sm.step (t' := 3) (lo' := [some (vR 900012 0), some (vI x), some (vI (nI t)), some (vI 0), none, none]) (st' := []) (h' := f) ?_ ?_)
        · rw [t_M_old_0, c_M_isBoat (by omega) mb1, clI_ok, hx, itT, c_M_isTelling ml1, clI_ok, hy, itT, eK, clV_ok]
        -- one boat: the inner loop
        have inner : ∀ (k : Nat) (z4 z5 : Option MV) (r : RT), k < nB → Sm L scr (d + 39) B_M_old C_M_old 4 [some (vR 900012 0), some (vI x), some (vI (nI t)), some (vI (nI k)), some (vI (fold (ahF V k) 0 nB)), some (vI (nI nB))] [] f r → Sm L scr (d + 39) B_M_old C_M_old 3 [some (vR 900012 0), some (vI x), some (vI (nI t)), some (vI (nI k)), z4, z5] [] f r := by
          intro k z4 z5 r hk kk
          refine Sm.step (t' := 4) (lo' := [some (vR 900012 0), some (vI x), some (vI (nI t)), some (vI (nI k)), some (vI 0), some (vI 0)]) (st' := []) (h' := f) ?_ ?_
          · rw [t_M_old_3, fb, if_neg (nI_ge hk (by omega))]
          refine Sm.for (lo := fun j => [some (vR 900012 0), some (vI x), some (vI (nI t)), some (vI (nI k)), some (vI (fold (ahF V k) 0 j)), some (vI (nI j))]) (hh := fun _ => f) nB (fun j hj => ?_) kk
          show _ = some (Sum.inl (4, [some (vR 900012 0), some (vI x), some (vI (nI t)), some (vI (nI k)), some (vI (ahF V k j (fold (ahF V k) 0 j))), some (vI (nI (j + 1)))], [], f))
          generalize fold (ahF V k) 0 j = acc
          unfold ahF
          rw [t_M_old_4, fb, if_neg (nI_ge hj (by omega)), ew, clI_ok, ew, clI_ok, nI_1]
          by_cases c1 : V k < V j
          · rw [if_pos c1, if_pos c1, c_M_one, clI_ok, if_neg i0n1]
          · rw [if_neg c1, if_neg c1, ew, clI_ok, ew, clI_ok]
            by_cases c2 : V j = V k
            · rw [if_pos c2, if_pos c2]
              by_cases c3 : k ≤ j
              · rw [if_pos c3, if_pos (nI_le c3 (by omega)), c_M_one, clI_ok, if_pos rfl, Int32.add_zero]
              · rw [if_neg c3, if_neg (nI_ge (by omega) (by omega)), c_M_one, clI_ok, if_neg i0n1]
            · rw [if_neg c2, if_neg c2, c_M_one, clI_ok, if_pos rfl, Int32.add_zero]
        obtain ⟨lo, hlo⟩ : ∃ lo : Nat → List (Option MV), lo = fun k => match k with
          | 0 => [some (vR 900012 0), some (vI x), some (vI (nI t)), some (vI 0), none, none]
          | j + 1 => [some (vR 900012 0), some (vI x), some (vI (nI t)), some (vI (nI (j + 1))), some (vI (fold (ahF V j) 0 nB)), some (vI (nI nB))] := ⟨_, rfl⟩
        have lo2 : ∀ k, ∃ z4 z5, lo k = [some (vR 900012 0), some (vI x), some (vI (nI t)), some (vI (nI k)), z4, z5] := fun k => by
          rw [hlo]
          cases k with
          | zero => exact ⟨_, _, rfl⟩
          | succ j => exact ⟨_, _, rfl⟩
        have lo3 : ∀ k, lo (k + 1) = [some (vR 900012 0), some (vI x), some (vI (nI t)), some (vI (nI (k + 1))), some (vI (fold (ahF V k) 0 nB)), some (vI (nI nB))] := fun k => by rw [hlo]
        have lo0 : lo 0 = [some (vR 900012 0), some (vI x), some (vI (nI t)), some (vI 0), none, none] := by rw [hlo]
        rw [← lo0]
        have stepK : ∀ (r : RT) (k : Nat), k < nB → p k = false → Sm L scr (d + 39) B_M_old C_M_old 3 (lo (k + 1)) [] f r → Sm L scr (d + 39) B_M_old C_M_old 3 (lo k) [] f r := by
          intro r k hk pk kk
          obtain ⟨z4, z5, ez⟩ := lo2 k
          rw [ez]
          rw [hp0] at pk
          refine inner k z4 z5 r hk (Sm.step (t' := 3) (lo' := lo (k + 1)) (st' := []) (h' := f) ?_ kk)
          rw [t_M_old_4, fb, if_pos (nI_le (Nat.le_refl _) (by omega)), if_neg (of_decide_eq_false pk), nI_1, lo3]
        cases hfi : ffst p nB with
        | none =>
          refine Sm.iter (lo := lo) (hh := fun _ => f) nB (fun k hk kk => stepK _ k hk (ffst_none hfi k hk) kk) (Sm.ret ?_)
          obtain ⟨z4, z5, ez⟩ := lo2 nB
          rw [ez, t_M_old_3, fb, if_pos (nI_le (Nat.le_refl _) (by omega))]
        | some j =>
          obtain ⟨j1, j2, j3⟩ := ffst_some hfi
          refine Sm.iter (lo := lo) (hh := fun _ => f) j (fun k hk kk => stepK _ k (by omega) (j3 k hk) kk) ?_
          obtain ⟨z4, z5, ez⟩ := lo2 j
          rw [ez]
          refine inner j z4 z5 _ j1 (Sm.ret ?_)
          rw [hp0] at j2
          rw [t_M_old_4, fb, if_pos (nI_le (Nat.le_refl _) (by omega)), if_pos (of_decide_eq_true j2)]
      exact ⟨_, gk nB, f, eC, eM, uf, trivial⟩
end Old

/-! CALL: together, its second part -/
section Tog2
variable {L : Nat} {scr : Nat → Int32} {d : Nat}
/-- how many of the first k minutes, and the first of them -/
def tgA (p : Nat → Bool) : Nat → Int32 × Int32
  | 0 => (0, -1)
  | k + 1 => if p k = true then ((tgA p k).1 + 1, if (tgA p k).1 = 0 then nI k else (tgA p k).2) else tgA p k
theorem tgA_t {p : Nat → Bool} {k : Nat} (h : p k = true) : tgA p (k + 1) = ((tgA p k).1 + 1, if (tgA p k).1 = 0 then nI k else (tgA p k).2) := if_pos h
theorem tgA_f {p : Nat → Bool} {k : Nat} (h : p k = false) : tgA p (k + 1) = tgA p k := if_neg (by rw [h]; decide)
theorem call_together (x y z u v : Int32) (h : MH) (q : RHire h) : Both L scr (d + 40) Scr (fun _ => True) 147 283 [vR 900011 0, vI x, vI y, vI z, vI u, vI v] [vR 900012 0, vI x, vI y, vI z, vI u, vI v] h := by
  obtain ⟨q1, q2, q3, q4, q5, n, T, nb, hn, hT, hnb, ch, mh, cl, ml, bn, tk, hk, hsep⟩ := id q
  have w9 : ∀ x : Int32, inB x 0 9 = ixB x 10 := fun x => inB_ix (n := 9) rfl (by decide)
  cases hx : ixB x 10 with
  | false =>
    refine both0 (vI (-1)) (r_P_together _ _ _ _ _ _ _ (Sm.ret ?_)) (r_M_together _ _ _ _ _ _ _ (Sm.ret ?_)) trivial
    · rw [t_P_together_0, c_P_isWho, clI_ok, hx, itF]
    · rw [t_M_together_0, c_M_isIn, clI_ok, w9, hx, itF]
  | true =>
    cases hy : ixB y 10 with
    | false =>
      refine both0 (vI (-1)) (r_P_together _ _ _ _ _ _ _ (Sm.ret ?_)) (r_M_together _ _ _ _ _ _ _ (Sm.ret ?_)) trivial
      · rw [t_P_together_0, c_P_isWho, clI_ok, hx, itT, c_P_isWho, clI_ok, hy, itF]
      · rw [t_M_together_0, c_M_isIn, clI_ok, w9, hx, itT, c_M_isIn, clI_ok, w9, hy, itF]
    | true =>
      by_cases xy : x = y
      · refine both0 (vI (-1)) (r_P_together _ _ _ _ _ _ _ (Sm.ret ?_)) (r_M_together _ _ _ _ _ _ _ (Sm.ret ?_)) trivial
        · rw [t_P_together_0, c_P_isWho, clI_ok, hx, itT, c_P_isWho, clI_ok, hy, itT, if_pos xy]
        · rw [t_M_together_0, c_M_isIn, clI_ok, w9, hx, itT, c_M_isIn, clI_ok, w9, hy, itT, if_pos xy]
      · cases hz : ixB z 100 with
        | false =>
          refine both0 (vI (-1)) (r_P_together _ _ _ _ _ _ _ (Sm.ret ?_)) (r_M_together _ _ _ _ _ _ _ (Sm.ret ?_)) trivial
          · rw [t_P_together_0, c_P_isWho, clI_ok, hx, itT, c_P_isWho, clI_ok, hy, itT, if_neg xy, c_P_isDay, clI_ok, hz, itF]
          · rw [t_M_together_0, c_M_isIn, clI_ok, w9, hx, itT, c_M_isIn, clI_ok, w9, hy, itT, if_neg xy, c_M_isDay, clI_ok, hz, itF]
        | true =>
          cases hu : inB u 0 (nI T) with
          | false =>
            refine both0 (vI (-1)) (r_P_together _ _ _ _ _ _ _ (Sm.ret ?_)) (r_M_together _ _ _ _ _ _ _ (Sm.ret ?_)) trivial
            · rw [t_P_together_0, c_P_isWho, clI_ok, hx, itT, c_P_isWho, clI_ok, hy, itT, if_neg xy, c_P_isDay, clI_ok, hz, itT, c_P_isTelling cl, clI_ok, hu, itF]
            · rw [t_M_together_0, c_M_isIn, clI_ok, w9, hx, itT, c_M_isIn, clI_ok, w9, hy, itT, if_neg xy, c_M_isDay, clI_ok, hz, itT, c_M_isTelling ml, clI_ok, hu, itF]
          | true =>
            cases hv : inB v 0 1 with
            | false =>
              refine both0 (vI (-1)) (r_P_together _ _ _ _ _ _ _ (Sm.ret ?_)) (r_M_together _ _ _ _ _ _ _ (Sm.ret ?_)) trivial
              · rw [t_P_together_0, c_P_isWho, clI_ok, hx, itT, c_P_isWho, clI_ok, hy, itT, if_neg xy, c_P_isDay, clI_ok, hz, itT, c_P_isTelling cl, clI_ok, hu, itT, c_P_within, clI_ok, hv, itF]
              · rw [t_M_together_0, c_M_isIn, clI_ok, w9, hx, itT, c_M_isIn, clI_ok, w9, hy, itT, if_neg xy, c_M_isDay, clI_ok, hz, itT, c_M_isTelling ml, clI_ok, hu, itT, c_M_isIn, clI_ok, hv, itF]
            | true =>
              obtain ⟨t, ht, rfl⟩ := inB_T (by omega) hu
              obtain ⟨day, hday, hday2, rfl⟩ := ixB_t hz
              obtain ⟨hm, B, S, C, eS, fS⟩ := see_g (L := L) (scr := scr) (d := d + 37) q 0 hT cl ht hn ch
              obtain ⟨g, hg⟩ : ∃ g, g = withR h (vwL h 0 B S C (cnS h t)) := ⟨_, rfl⟩
              have ug : Upd Scr h g := by rw [hg]; exact vwx_Scr
              rw [← hg] at eS
              have gB : hI g 1102000120 0 = B := by rw [hg]; exact vwx_B
              have gn : hI g 1101 0 0 = nI (cnS h t) := by rw [hg]; exact vwx_n
              have go : hI g 205000120 0 = hI h 205000120 0 := ug.2 _ _ (by decide)
              have gw : hI g 204000120 0 = hI h 204000120 0 := ug.2 _ _ (by decide)
              obtain ⟨oa, hoa⟩ : ∃ oa, oa = hI h 205000120 0 := ⟨_, rfl⟩
              obtain ⟨wo, hwo⟩ : ∃ wo, wo = hI h 204000120 0 := ⟨_, rfl⟩
              rw [← hoa] at go
              rw [← hwo] at gw
              have ho : ∀ i, i < cnS h t → ∃ a, a < 72000 ∧ oa i = nI a ∧ (B i = -1 ∨ ∃ b, B i = nI b ∧ b < 72000) := fun i hi => by
                obtain ⟨⟨bb, ww, m, qq, o1, o2, o3, o4, o5, o6, -⟩, -⟩ := hk i (by omega)
                refine ⟨m, o6, by rw [hoa]; exact o5, ?_⟩
                rw [(fS i hi).1]
                rcases bk_ok tk ht (i := i) (by omega) with e | ⟨a, b, b1, b2, b3, b4, b5⟩
                · exact Or.inl e
                · exact Or.inr ⟨b, b2, b5⟩
              obtain ⟨r0, hr0⟩ : ∃ r0, r0 = filF (hI g 1213002304 0) 0 2304 := ⟨_, rfl⟩
              have eF : E L scr (d + 39) 339 [vR 1213002304 0, vI 0] g = some (none, withR g [(1213002304, 0, r0)]) := by rw [hr0]; exact c_fill rfl rfl (by decide) 0 g
              obtain ⟨A, hA⟩ : ∃ A : Int32 → Nat → Nat → Bool, A = fun w j => whoB wo oa B w (nI (720 * day + j)) := ⟨_, rfl⟩
              have e1 := c_markOut (L := L) (scr := scr) (d := d + 37) (g := g) (m := cnS h t) (day := day) (B := B) (oa := oa) (wo := wo) (ro := r0) x 1 (by omega) hday gn gB go gw ho
              have e2 := c_markOut (L := L) (scr := scr) (d := d + 37) (g := g) (m := cnS h t) (day := day) (B := B) (oa := oa) (wo := wo) (ro := rowM r0 1 (fun j => whoB wo oa B x (nI (720 * day + j))) (cnS h t)) y 2 (by omega) hday gn gB go gw ho
              obtain ⟨r2, hr2⟩ : ∃ r2, r2 = rowM (rowM r0 1 (fun j => whoB wo oa B x (nI (720 * day + j))) (cnS h t)) 2 (fun j => whoB wo oa B y (nI (720 * day + j))) (cnS h t) := ⟨_, rfl⟩
              rw [← hr2] at e2
              obtain ⟨g2, hg2⟩ : ∃ g2, g2 = withR g [(1213002304, 0, r2)] := ⟨_, rfl⟩
              rw [← hg2] at e2
              have u2 : Upd Scr h g2 := ug.tr (by
                rw [hg2]
                exact withR_Upd (fun q hq => by
                  rw [List.mem_singleton] at hq
                  subst hq
                  dsimp only
                  decide))
              obtain ⟨p, hp⟩ : ∃ p : Nat → Bool, p = fun j => anyB (fun i => whoB wo oa B x (nI (720 * day + j)) i) (cnS h t) && anyB (fun i => whoB wo oa B y (nI (720 * day + j)) i) (cnS h t) := ⟨_, rfl⟩
              have rj : ∀ j, j < 720 → (r2 j = 3 ↔ p j = true) := fun j hj => by
                rw [hr2, hp]
                unfold rowM
                have z0 : r0 j = 0 := by rw [hr0]; exact if_pos (by omega)
                rw [z0]
                show (if j < 720 ∧ anyB (fun i => whoB wo oa B y (nI (720 * day + j)) i) (cnS h t) = true then _ else _) = 3 ↔ (anyB (fun i => whoB wo oa B x (nI (720 * day + j)) i) (cnS h t) && anyB (fun i => whoB wo oa B y (nI (720 * day + j)) i) (cnS h t)) = true
                cases c1 : anyB (fun i => whoB wo oa B x (nI (720 * day + j)) i) (cnS h t) <;> cases c2 : anyB (fun i => whoB wo oa B y (nI (720 * day + j)) i) (cnS h t)
                · rw [if_neg (fun z => by cases z.2), if_neg (fun z => by cases z.2)]; decide
                · rw [if_pos ⟨hj, rfl⟩, if_neg (fun z => by cases z.2)]; decide
                · rw [if_neg (fun z => by cases z.2), if_pos ⟨hj, rfl⟩]; decide
                · rw [if_pos ⟨hj, rfl⟩, if_pos ⟨hj, rfl⟩]; decide
              have g2w : hI g2 1213002304 0 = r2 := by rw [hg2, withR_hit]
              -- the reference
              have a1 : ∀ r ∈ SHire, hI g2 r.1 r.2 = hI h r.1 r.2 := fun r hr => u2.2 _ _ (ScrH r hr)
              obtain ⟨B2, S2, C2, D2, eK, fK⟩ := kn_g (L := L) (scr := scr) (d := d + 38) q hT cl ht hn ch a1
              obtain ⟨f, hf⟩ : ∃ f, f = withR g2 (knL g2 B2 S2 C2 D2 (nI t)) := ⟨_, rfl⟩
              rw [← hf] at eK
              have uf : Upd Scr h f := u2.tr (by rw [hf]; exact kn_Scr)
              have fB : hI f 1350000120 0 = B2 := by rw [hf]; exact kn_B
              have ft : hI f 1354 0 0 = nI t := by rw [hf]; exact kn_t
              have fh : hI f 1336 0 0 = nI n := by rw [uf.2 _ _ (by decide)]; exact mh
              have fo : hI f 1341000120 0 = oa := by rw [uf.2 _ _ (by decide), hoa]; exact Eq.symm q3
              have fw : hI f 1340000120 0 = wo := by rw [uf.2 _ _ (by decide), hwo]; exact Eq.symm q2
              have ftb : hI f 1343000120 0 = hI h 207000120 0 := by rw [uf.2 _ _ (by decide)]; exact Eq.symm q5
              have ml2 : hI g2 1337 0 0 = nI T := by rw [u2.2 _ _ (by decide)]; exact ml
              have hB : ∀ i, i < cnS h t → B i = B2 i := fun i hi => by rw [(fS i hi).1, (fK i (by omega)).1]
              have td : ∀ i, i < n → decide (hI h 207000120 0 i ≤ nI t) = decide (i < cnS h t) := fun i hi => told_dec hT ht hk hi
              have eO : ∀ (d : Nat) (w : Int32) (j : Nat), E L scr (d + 3) 282 [vR 900012 0, vI w, vI (nI (720 * day + j))] f = some (some (vI (zb (anyB (fun i => whoB wo oa B w (nI (720 * day + j)) i) (cnS h t)))), f) := fun d w j => by
                rw [c_M_hasOut hn w _ fh, fB, ft, fo, fw, ftb]
                rw [anyB_trunc (p := fun i => whoB wo oa B w (nI (720 * day + j)) i) hm (fun k hk => ?_) (fun k k1 k2 => ?_)]
                · show whoB wo oa B w _ k = (decide (wo k = w) && (decide (hI h 207000120 0 k ≤ nI t) && awayB oa B2 _ k))
                  unfold whoB awayB
                  rw [td k (by omega), decide_eq_true hk, Bool.true_and, hB k hk]
                · show (decide (wo k = w) && (decide (hI h 207000120 0 k ≤ nI t) && awayB oa B2 _ k)) = false
                  rw [td k k2, decide_eq_false (show ¬ k < cnS h t by omega), Bool.false_and, Bool.and_false]
              refine ⟨vI (if v = 0 then (tgA p 720).1 else (tgA p 720).2), g2, f, r_P_together _ _ _ _ _ _ _ (Sm.step (t' := 5) (lo' := [some (vR 900011 0), some (vI x), some (vI y), some (vI (nI day)), some (vI (nI t)), some (vI v), some (vI (tgA p 0).2), some (vI (tgA p 0).1), some (vI 0)]) (st' := []) (h' := g2) ?_ ?_), r_M_together _ _ _ _ _ _ _ (Sm.step (t' := 3) (lo' := [some (vR 900012 0), some (vI x), some (vI y), some (vI (nI day)), some (vI (nI t)), some (vI v), some (vI (tgA p 0).1), some (vI (tgA p 0).2), some (vI 0)]) (st' := []) (h' := f) ?_ ?_), uf, trivial⟩
              · rw [t_P_together_0, c_P_isWho, clI_ok, hx, itT, c_P_isWho, clI_ok, hy, itT, if_neg xy, c_P_isDay, clI_ok, hz, itT, c_P_isTelling cl, clI_ok, hu, itT, c_P_within, clI_ok, hv, itT, eS, clV_ok, eF, clV_ok, e1, clV_ok, e2, clV_ok]; rfl
              · refine Sm.for (lo := fun k => [some (vR 900011 0), some (vI x), some (vI y), some (vI (nI day)), some (vI (nI t)), some (vI v), some (vI (tgA p k).2), some (vI (tgA p k).1), some (vI (nI k))]) (hh := fun _ => g2) 720 (fun k hk => ?_) (Sm.ret ?_)
                · rw [t_P_together_5, if_neg (show ¬ (720 : Int32) ≤ nI k from nI_ge (b := 720) hk (by decide)), rd_P_work (oob_nI (by omega) (by decide)), ix_nI (by omega), g2w, nI_1]
                  cases e : p k with
                  | true =>
                    rw [if_pos ((rj k hk).mpr e), tgA_t e]
                    by_cases c : (tgA p k).1 = 0
                    · rw [if_pos c, if_pos c]
                    · rw [if_neg c, if_neg c]
                  | false => rw [if_neg (fun z => by rw [(rj k hk).mp z] at e; cases e), tgA_f e]
                · rw [t_P_together_5, if_pos (by decide)]
                  by_cases c : v = 0
                  · rw [if_pos c, if_pos c]
                  · rw [if_neg c, if_neg c]
              · rw [t_M_together_0, c_M_isIn, clI_ok, w9, hx, itT, c_M_isIn, clI_ok, w9, hy, itT, if_neg xy, c_M_isDay, clI_ok, hz, itT, c_M_isTelling ml2, clI_ok, hu, itT, c_M_isIn, clI_ok, hv, itT, eK, clV_ok]; rfl
              · refine Sm.for (lo := fun k => [some (vR 900012 0), some (vI x), some (vI y), some (vI (nI day)), some (vI (nI t)), some (vI v), some (vI (tgA p k).1), some (vI (tgA p k).2), some (vI (nI k))]) (hh := fun _ => f) 720 (fun k hk => ?_) (Sm.ret ?_)
                · have pk : p k = (anyB (fun i => whoB wo oa B x (nI (720 * day + k)) i) (cnS h t) && anyB (fun i => whoB wo oa B y (nI (720 * day + k)) i) (cnS h t)) := by rw [hp]
                  rw [t_M_together_3, if_neg (show ¬ (720 : Int32) ≤ nI k from nI_ge (b := 720) hk (by decide)), show (720 : Int32) = nI 720 from rfl, nI_mul, nI_add, eO, clI_ok, nI_1]
                  cases c1 : anyB (fun i => whoB wo oa B x (nI (720 * day + k)) i) (cnS h t) with
                  | false =>
                    rw [c1, Bool.false_and] at pk
                    rw [itF, tgA_f pk]
                  | true =>
                    rw [itT, eO, clI_ok]
                    cases c2 : anyB (fun i => whoB wo oa B y (nI (720 * day + k)) i) (cnS h t) with
                    | false =>
                      rw [c1, c2, Bool.and_false] at pk
                      rw [itF, tgA_f pk]
                    | true =>
                      rw [c1, c2, Bool.and_true] at pk
                      rw [itT, tgA_t pk]
                      by_cases c : (tgA p k).1 = 0
                      · rw [if_pos c, if_pos c]
                      · rw [if_neg c, if_neg c]
                · rw [t_M_together_3, if_pos (by decide)]
                  by_cases c : v = 0
                  · rw [if_pos c, if_pos c]
                  · rw [if_neg c, if_neg c]
end Tog2

/-! SOUNDNESS: calls, all instructions, blocks (printed by wip/whole/emitden.py) -/
theorem clV_inv {X : Type} {r : Option (Option MV × MH)} {k : MH → Option X} {x : X} (h : clV r k = some x) : ∃ h1, r = some (none, h1) ∧ k h1 = some x := by
  rcases r with _ | ⟨_ | v, h1⟩
  · exact no_some h
  · exact ⟨h1, rfl, h⟩
  · exact no_some h
theorem clI_inv {X : Type} {r : Option (Option MV × MH)} {k : Int32 → MH → Option X} {x : X} (h : clI r k = some x) : ∃ v h1, r = some (some (vI v), h1) ∧ k v h1 = some x := by
  rcases r with _ | ⟨_ | v | v, h1⟩
  · exact no_some h
  · exact no_some h
  · exact ⟨v, h1, rfl, h⟩
  · exact no_some h
theorem clJ_inv {X : Type} {r : Option (Option MV × MH)} {k : Int64 → MH → Option X} {x : X} (h : clJ r k = some x) : ∃ v h1, r = some (some (vL v), h1) ∧ k v h1 = some x := by
  rcases r with _ | ⟨_ | v | v | v, h1⟩
  · exact no_some h
  · exact no_some h
  · exact no_some h
  · exact ⟨v, h1, rfl, h⟩
  · exact no_some h
theorem clR_inv {X : Type} {c : Nat} {r : Option (Option MV × MH)} {k : Nat → MH → Option X} {x : X} (h : clR c r k = some x) : ∃ m h1, r = some (some (vR c m), h1) ∧ k m h1 = some x := by
  rcases r with _ | ⟨_ | v | v | ⟨s, n⟩ | v, h1⟩
  · exact no_some h
  · exact no_some h
  · exact no_some h
  · exact no_some h
  · replace h : (if s = c then k n h1 else none) = some x := h
    by_cases e : s = c
    · rw [if_pos e] at h
      subst e
      exact ⟨n, h1, rfl, h⟩
    · rw [if_neg e] at h; exact no_some h
  · exact no_some h
theorem mm_words : (Cond.static yAbs ∈ lwG ∧ Cond.static yMax ∈ lwG ∧ Cond.static yMin ∈ lwG) ∧ Cond.initialized "java/lang/Math" ∈ lwG ∧ Cond.code yAbs Lib.MathLoose.abs_long.code 2 (some .long) ∈ lwG ∧ Cond.code yMax Lib.Math.max.code 2 (some .int) ∈ lwG ∧ Cond.code yMin Lib.Math.min.code 2 (some .int) ∈ lwG :=
  ⟨⟨List.mem_filter.mpr ⟨List.mem_append_right _ (tbl_in (k := 2085) rfl), rfl⟩, List.mem_filter.mpr ⟨List.mem_append_right _ (tbl_in (k := 971) rfl), rfl⟩, List.mem_filter.mpr ⟨List.mem_append_right _ (tbl_in (k := 578) rfl), rfl⟩⟩, List.mem_filter.mpr ⟨List.mem_append_right _ (tbl_in (k := 15) rfl), rfl⟩, List.mem_filter.mpr ⟨List.mem_append_right _ (tbl_in (k := 2086) rfl), rfl⟩, List.mem_filter.mpr ⟨List.mem_append_right _ (tbl_in (k := 972) rfl), rfl⟩, List.mem_filter.mpr ⟨List.mem_append_right _ (tbl_in (k := 579) rfl), rfl⟩⟩
theorem fr_math {l : Launch} {own : String} {ini law : Bool} {cc : ByteArray} {nL L : Nat} {scr : Nat → Int32} {d : Nat} {pc idx : Nat} {lo : List (Option MV)} {rs as : List MV} {h h1 : MH} {j : Nat} {r : Option MV} {y : MethodName} (hm : mathM j as h = some (r, h1)) (hy : (j = 335 → y = yAbs) ∧ (j = 336 → y = yMax) ∧ (j = 337 → y = yMin)) (hd : decode cc pc = .ok (.invokestatic idx, 3)) (hl : Cond.methodLink own idx y ∈ lwG) (hcat : cat rs ≤ 8) : Fr l own ini law cc nL L scr d (pc, lo, as.reverse ++ rs, h) (pc + 3, lo, r.toList ++ rs, h1) := by
  intro p e R s m args below meth c Q Ts D dA base ad0 h0 F _ _ hR hroom k H locs cells slots ad ls S
  obtain ⟨rfl, hcase⟩ := mathM_inv hm
  have hml : c.maxLocals = ls.size := by rw [F.2.2.1]; exact S.2.2.2.1.1.symm
  have wd : ∀ {w : Cond}, w ∈ lwG → w.before args s = true := fun hw => F.2.2.2.2.1 _ (F.2.2.2.2.2.1 _ hw)
  have hcs : cells ≤ R.cells ∧ slots ≤ R.slots := by
    have a1 : cells + hc h0 = hc h1 := S.2.2.2.2.2.2.1.1
    have a2 : slots + hs h0 = hs h1 := S.2.2.2.2.2.2.1.2
    have a3 : hc h1 ≤ hc h0 + R.cells := hroom.1
    have a4 : hs h1 ≤ hs h0 + R.slots := hroom.2
    exact ⟨by omega, by omega⟩
  have hok : oks h1 rs := (oks_app.mp S.ok).2
  rcases hcase with ⟨rfl, x, rfl, rfl⟩ | ⟨rfl, x, z, rfl, rfl⟩ | ⟨rfl, x, z, rfl, rfl⟩
  · rw [hy.1 rfl] at hl
    exact va_mabs_long (rest := rs.map (rv ad)) F.1 F.2.1 hml F.2.2.2.1 (wd hl) (wd mm_words.1.1) (wd mm_words.2.1) (wd mm_words.2.2.1) (by omega) (by rw [cat_sum]; omega) hcs.1 hcs.2 hd (k H locs cells slots ad ls (S.stk ⟨trivial, hok⟩))
  · rw [hy.2.1 rfl] at hl
    exact va_mmax (rest := rs.map (rv ad)) F.1 F.2.1 hml F.2.2.2.1 (wd hl) (wd mm_words.1.2.1) (wd mm_words.2.1) (wd mm_words.2.2.2.1) (by omega) (by rw [cat_sum]; omega) hcs.1 hcs.2 hd (k H locs cells slots ad ls (S.stk ⟨trivial, hok⟩))
  · rw [hy.2.2 rfl] at hl
    exact va_mmin (rest := rs.map (rv ad)) F.1 F.2.1 hml F.2.2.2.1 (wd hl) (wd mm_words.1.2.2) (wd mm_words.2.1) (wd mm_words.2.2.2.2) (by omega) (by rw [cat_sum]; omega) hcs.1 hcs.2 hd (k H locs cells slots ad ls (S.stk ⟨trivial, hok⟩))
section Ins
variable {l : Launch} {own : String} {ini law : Bool} {cc : ByteArray} {nL L : Nat} {scr : Nat → Int32} {d : Nat} {mt : Nat → Option MT} {cal : Cal} {cst : MV} {a b c dd : Nat} {ts : List (Int32 × Nat)} {pc : Nat} {lo : List (Option MV)} {st : List MV} {h : MH} {k : List (Option MV) → List MV → MH → Option Exit} {x : Exit}
theorem cpy_R {R : Room} {d : Nat} (h : d + 1 ≤ R.frames ∧ 80 * d + 60 ≤ R.locals) : 1 ≤ R.frames ∧ 40 ≤ R.locals := ⟨by omega, by omega⟩
/-- a call that came back -/
theorem call_inv {j : Nat} {as r : List MV} {rv : Option MV} {h1 : MH} (hcal : CalOk l mt d cal) (hi : Inv lo st h) (hs : oks h as ∧ oks h r) (hc1 : cal j as h = some (rv, h1)) : Inv lo (rv.toList ++ r) h1 ∧ Mono h h1 := by
  obtain ⟨hm, hw, hv, -, -⟩ := hcal j as h rv h1 hc1 hi.1 hs.1
  refine ⟨hi.mono hm hw ?_, hm⟩
  have := oks_mono hm.1 hm.2.1 hs.2
  cases rv with
  | none => exact this
  | some w => exact ⟨hv w rfl, this⟩
theorem call_con {j : Nat} (hmb : mathB j = false) {as : List MV} {rv : Option MV} {h1 : MH} {q : MT} (hmt : MtOk mt) (hq : mt j = some q) (hcal : CalOk l mt d cal) (hw : Wf h) (ho : oks h as) (hc1 : cal j as h = some (rv, h1)) : Con l d q.1 as h rv h1 := by
  have hj : j ≠ 902 := fun e => by rw [e, hmt.1.1] at hq; cases hq
  obtain ⟨q', e, hcon⟩ := (hcal j as h rv h1 hc1 hw ho).2.2.2.1 hj
  rw [hq] at e
  cases e
  exact hcon.1 hmb
theorem math_kind {j : Nat} {q : MT} (hmt : MtOk mt) (hq : mt j = some q) (hk : q.1.2.2.2.2.1 ≠ 0) : mathB j = false := by
  cases e : mathB j with
  | false => rfl
  | true =>
    exfalso
    have h0 := hmt.1.2.2.2.2
    unfold mathB at e
    rw [Bool.or_eq_true, Bool.or_eq_true] at e
    rcases e with e | e | e
    · have e := Nat.eq_of_beq_eq_true e; subst e; exact hk (h0 _ q (by decide) hq)
    · have e := Nat.eq_of_beq_eq_true e; subst e; exact hk (h0 _ q (by decide) hq)
    · have e := Nat.eq_of_beq_eq_true e; subst e; exact hk (h0 _ q (by decide) hq)
theorem x_invokestatic {idx : Nat} (hmt : MtOk mt) (hcal : CalOk l mt d cal) (hi : Inv lo st h) (hd : decode cc pc = .ok (.invokestatic idx, 3)) (hr : ckR own ini law nL mt (.invokestatic idx, cst, a, b, c, dd, ts) = true) (hx : ex1 L scr cal (.invokestatic idx, cst, a, b, c, dd, ts) lo st h k = some x) : Nx l own ini law cc nL L scr d pc 3 lo st h k x := by
  replace hr : (match Nat.beq a 900 with
      | true => tw (plc ts) (.methodLink own idx arraycopyName)
      | false => match mt a with
        | some q => tw (plc ts) (.methodLink own idx q.1.1) && (Nat.beq q.1.2.2.2.2.1 0 && Nat.beq b q.2)
        | none => false) = true := hr
  replace hx : (match Nat.beq a 900 with
      | true => match (generalizing := false) st with
        | [.inl len, .inl q, .inr (.inr (.inl (t, m))), .inl p, .inr (.inr (.inl (s, n)))] => match Nat.beq b 0 with
          | true => cpyI h s n p t m q len fun h => k lo [] h
          | false => cpyJ h s n p t m q len fun h => k lo [] h
        | _ => none
      | false => match spl b [] st with
        | some (as, r) => match Nat.ble (cat r) 8 with
          | true => match (generalizing := false) c with
            | 0 => clV (cal a as h) fun h => k lo r h
            | 1 => clI (cal a as h) fun x h => k lo (vI x :: r) h
            | 2 => clJ (cal a as h) fun x h => k lo (vL x :: r) h
            | _ => none
          | false => none
        | none => none) = some x := hx
  cases e : Nat.beq a 900 with
  | true =>
    rw [e] at hx hr
    rcases st with _ | ⟨y | y, _ | ⟨z | z, _ | ⟨w | w | ⟨t, m⟩ | w | w, _ | ⟨u | u, _ | ⟨v | v | ⟨s, n⟩ | v | v, _ | ⟨r0, r⟩⟩⟩⟩⟩⟩
    all_goals first
      | exact no_some hx
      | skip
    replace hx : (match Nat.beq b 0 with
          | true => cpyI h s n u t m z y fun h => k lo [] h
          | false => cpyJ h s n u t m z y fun h => k lo [] h) = some x := hx
    cases e2 : Nat.beq b 0 with
    | true =>
      rw [e2] at hx
      replace hx : (if isRow s 0 = true ∧ isRow t 0 = true ∧ ¬ (u < 0 ∨ z < 0 ∨ y < 0 ∨ lenOf s < ix u + ix y ∨ lenOf t < ix z + ix y) then k lo [] (cpI h s n (ix u) t m (ix z) (ix y)) else none) = some x := hx
      by_cases hz : isRow s 0 = true ∧ isRow t 0 = true ∧ ¬ (u < 0 ∨ z < 0 ∨ y < 0 ∨ lenOf s < ix u + ix y ∨ lenOf t < ix z + ix y)
      · rw [if_pos hz] at hx
        exact ⟨_, _, _, hx, hi.upd (sameS_cpI ..) rfl trivial, (sameS_cpI ..).mono, fun F _ _ hR _ k => s_cpyI F hd (tw_in hr) hz.1 hz.2.1 hz.2.2 (cpy_R hR) k⟩
      · rw [if_neg hz] at hx; exact no_some hx
    | false =>
      rw [e2] at hx
      replace hx : (if isRow s 3 = true ∧ isRow t 3 = true ∧ ¬ (u < 0 ∨ z < 0 ∨ y < 0 ∨ lenOf s < ix u + ix y ∨ lenOf t < ix z + ix y) then k lo [] (cpJ h s n (ix u) t m (ix z) (ix y)) else none) = some x := hx
      by_cases hz : isRow s 3 = true ∧ isRow t 3 = true ∧ ¬ (u < 0 ∨ z < 0 ∨ y < 0 ∨ lenOf s < ix u + ix y ∨ lenOf t < ix z + ix y)
      · rw [if_pos hz] at hx
        exact ⟨_, _, _, hx, hi.upd (sameS_cpJ ..) rfl trivial, (sameS_cpJ ..).mono, fun F _ _ hR _ k => s_cpyJ F hd (tw_in hr) hz.1 hz.2.1 hz.2.2 (cpy_R hR) k⟩
      · rw [if_neg hz] at hx; exact no_some hx
  | false =>
    rw [e] at hx hr
    replace hr : (match mt a with
        | some q => tw (plc ts) (.methodLink own idx q.1.1) && (Nat.beq q.1.2.2.2.2.1 0 && Nat.beq b q.2)
        | none => false) = true := hr
    cases eq : mt a with
    | none => rw [eq] at hr; exact absurd (show false = true from hr) (by decide)
    | some q =>
      rw [eq] at hr
      replace hr : (tw (plc ts) (.methodLink own idx q.1.1) && (Nat.beq q.1.2.2.2.2.1 0 && Nat.beq b q.2)) = true := hr
      rw [Bool.and_eq_true, Bool.and_eq_true] at hr
      obtain ⟨h1, h2, h3⟩ := hr
      have h1 := tw_in h1
      have h2 := Nat.eq_of_beq_eq_true h2
      have h3 := Nat.eq_of_beq_eq_true h3
      replace hx : (match spl b [] st with
        | some (as, r) => match Nat.ble (cat r) 8 with
          | true => match (generalizing := false) c with
            | 0 => clV (cal a as h) fun h => k lo r h
            | 1 => clI (cal a as h) fun x h => k lo (vI x :: r) h
            | 2 => clJ (cal a as h) fun x h => k lo (vL x :: r) h
            | _ => none
          | false => none
        | none => none) = some x := hx
      cases es : spl b [] st with
      | none => rw [es] at hx; exact no_some hx
      | some z =>
        obtain ⟨as, r⟩ := z
        rw [es] at hx
        obtain ⟨e3, e4⟩ := spl_all es
        replace hx : (match Nat.ble (cat r) 8 with
          | true => match (generalizing := false) c with
            | 0 => clV (cal a as h) fun h => k lo r h
            | 1 => clI (cal a as h) fun x h => k lo (vI x :: r) h
            | 2 => clJ (cal a as h) fun x h => k lo (vL x :: r) h
            | _ => none
          | false => none) = some x := hx
        cases ec : Nat.ble (cat r) 8 with
        | false => rw [ec] at hx; exact no_some hx
        | true =>
          rw [ec] at hx
          have hok : oks h as ∧ oks h r := by
            have := hi.2.1
            rw [e3, oks_app, oks_rev] at this
            exact this
          have main : ∀ (rv : Option MV) (h1 : MH), cal a as h = some (rv, h1) → Inv lo (rv.toList ++ r) h1 ∧ Mono h h1 ∧ Fr l own ini law cc nL L scr d (pc, lo, st, h) (pc + 3, lo, rv.toList ++ r, h1) := by
            intro rv h1 hc1
            obtain ⟨i1, i2⟩ := call_inv hcal hi hok hc1
            refine ⟨i1, i2, ?_⟩
            cases hmb : mathB a with
            | true =>
              have hj : a ≠ 902 := fun e => by rw [e, hmt.1.1] at eq; cases eq
              obtain ⟨q', e', hmm⟩ := (hcal a as h rv h1 hc1 hi.1 hok.1).2.2.2.1 hj
              rw [e3]
              have hf : Fr l own ini law cc nL L scr d (pc, lo, as.reverse ++ r, h) (pc + 3, lo, rv.toList ++ r, h1) := fr_math (hmm.2 hmb) ⟨fun e9 => hmt.1.2.1 q (by rw [← e9]; exact eq), fun e9 => hmt.1.2.2.1 q (by rw [← e9]; exact eq), fun e9 => hmt.1.2.2.2.1 q (by rw [← e9]; exact eq)⟩ hd ‹_› (Nat.le_of_ble_eq_true ec)
              exact @hf
            | false =>
            intro p e R s m1 args below meth cd Q Ts D dA base ad0 h0 F _ _ hR hroom kk
            have hcon := call_con hmb hmt eq hcal hi.1 hok.1 hc1
            have hcl := hcal a as h rv h1 hc1 hi.1 hok.1
            have hme := (hmt.2 a q eq).1
            rw [← h3, ← e4] at hme
            have := s_callS F hcon hcl.1 hcl.2.1 hcl.2.2.1 hroom hR ‹_› (Nat.le_of_ble_eq_true ec) hme ((hmt.2 a q eq).2.1 h2) hd kk
            show AtW _ _ _ _ _ _ _ _ _ _ _ _ _ _ _ _ _ pc lo st h
            rw [e3]
            exact this
          rcases c with _ | _ | _ | c
          · obtain ⟨h1, g1, g2⟩ := clV_inv hx
            obtain ⟨a1, a2, a3⟩ := main _ _ g1
            exact ⟨_, _, _, g2, a1, a2, a3⟩
          · obtain ⟨v, h1, g1, g2⟩ := clI_inv hx
            obtain ⟨a1, a2, a3⟩ := main _ _ g1
            exact ⟨_, _, _, g2, a1, a2, a3⟩
          · obtain ⟨v, h1, g1, g2⟩ := clJ_inv hx
            obtain ⟨a1, a2, a3⟩ := main _ _ g1
            exact ⟨_, _, _, g2, a1, a2, a3⟩
          · exact no_some hx
theorem x_invokevirtual {idx : Nat} (hmt : MtOk mt) (hcal : CalOk l mt d cal) (hch : ChOk l own ini law cc nL L scr d) (hi : Inv lo st h) (hd : decode cc pc = .ok (.invokevirtual idx, 3)) (hr : ckR own ini law nL mt (.invokevirtual idx, cst, a, b, c, dd, ts) = true) (hx : ex1 L scr cal (.invokevirtual idx, cst, a, b, c, dd, ts) lo st h k = some x) : Nx l own ini law cc nL L scr d pc 3 lo st h k x := by
  replace hr : (match Nat.beq a 902 with
      | true => tw (plc ts) (.methodLink own idx yCh) && (Nat.beq dd 98 && (Nat.beq b 2 && Nat.beq c 1))
      | false => match mt a with
        | some q => tw (plc ts) (.methodLink own idx q.1.1) && (Nat.beq q.1.2.2.2.2.1 1 && (Nat.beq b (q.2 + 1) && clNm dd q.1.1))
        | none => false) = true := hr
  replace hx : (match spl b [] st with
      | some (as, r) => match (generalizing := false) as with
        | .inr (.inr (.inl (s, n))) :: _ => match Nat.ble (cat r) 8 && Nat.beq s dd with
          | true => match (generalizing := false) c with
            | 0 => clV (cal a as h) fun h => k lo r h
            | 1 => clI (cal a as h) fun x h => k lo (vI x :: r) h
            | 2 => clJ (cal a as h) fun x h => k lo (vL x :: r) h
            | c + 3 => clR (c + 3) (cal a as h) fun m h => k lo (vR (c + 3) m :: r) h
          | false => none
        | _ => none
      | none => none) = some x := hx
  cases es : spl b [] st with
  | none => rw [es] at hx; exact no_some hx
  | some z =>
    obtain ⟨as, r⟩ := z
    rw [es] at hx
    obtain ⟨e3, e4⟩ := spl_all es
    have hok : oks h as ∧ oks h r := by
      have := hi.2.1
      rw [e3, oks_app, oks_rev] at this
      exact this
    rcases as with _ | ⟨y | y | ⟨s, n⟩ | y | y, as⟩
    all_goals first
      | exact no_some hx
      | skip
    replace hx : (match Nat.ble (cat r) 8 && Nat.beq s dd with
          | true => match (generalizing := false) c with
            | 0 => clV (cal a (vR s n :: as) h) fun h => k lo r h
            | 1 => clI (cal a (vR s n :: as) h) fun x h => k lo (vI x :: r) h
            | 2 => clJ (cal a (vR s n :: as) h) fun x h => k lo (vL x :: r) h
            | c + 3 => clR (c + 3) (cal a (vR s n :: as) h) fun m h => k lo (vR (c + 3) m :: r) h
          | false => none) = some x := hx
    cases ec : (Nat.ble (cat r) 8 && Nat.beq s dd) with
    | false => rw [ec] at hx; exact no_some hx
    | true =>
      rw [ec] at hx
      rw [Bool.and_eq_true] at ec
      obtain ⟨ec, es2⟩ := ec
      replace ec := Nat.le_of_ble_eq_true ec
      replace es2 := Nat.eq_of_beq_eq_true es2
      subst es2
      have e5 : st = as.reverse ++ vR s n :: r := by
        rw [e3, List.reverse_cons, List.append_assoc]; rfl
      cases e : Nat.beq a 902 with
      | true =>
        rw [e] at hr
        replace e := Nat.eq_of_beq_eq_true e
        subst e
        replace hr : (tw (plc ts) (.methodLink own idx yCh) && (Nat.beq s 98 && (Nat.beq b 2 && Nat.beq c 1))) = true := hr
        rw [Bool.and_eq_true, Bool.and_eq_true, Bool.and_eq_true] at hr
        obtain ⟨h1, h2, h3, h4⟩ := hr
        replace h2 := Nat.eq_of_beq_eq_true h2
        replace h4 := Nat.eq_of_beq_eq_true h4
        subst h2; subst h4
        replace hx : clI (cal 902 (vR 98 n :: as) h) (fun x h => k lo (vI x :: r) h) = some x := hx
        obtain ⟨v, hh, g1, g2⟩ := clI_inv hx
        obtain ⟨i, ea, ho, er, eh, h4d⟩ := (hcal _ _ _ _ _ g1 hi.1 hok.1).2.2.2.2 rfl
        obtain ⟨ea1, ea2⟩ := List.cons.inj ea
        have en : n = 0 := by
          have := Sum.inl.inj (Sum.inr.inj (Sum.inr.inj ea1))
          exact (Prod.mk.inj this).2
        subst en
        subst ea2
        subst eh
        have ev : v = wordsB.getD (ix i) 0 := Sum.inl.inj (Option.some.inj er)
        subst ev
        refine ⟨_, _, _, g2, hi.stk ⟨trivial, hok.2⟩, Mono.rf _, ?_⟩
        rw [e5]
        exact hch pc idx lo i r _ h4d hd (tw_in h1) ho ec
      | false =>
        rw [e] at hr
        replace hr : (match mt a with
          | some q => tw (plc ts) (.methodLink own idx q.1.1) && (Nat.beq q.1.2.2.2.2.1 1 && (Nat.beq b (q.2 + 1) && clNm s q.1.1))
          | none => false) = true := hr
        cases eq : mt a with
        | none => rw [eq] at hr; exact absurd (show false = true from hr) (by decide)
        | some q =>
          rw [eq] at hr
          replace hr : (tw (plc ts) (.methodLink own idx q.1.1) && (Nat.beq q.1.2.2.2.2.1 1 && (Nat.beq b (q.2 + 1) && clNm s q.1.1))) = true := hr
          rw [Bool.and_eq_true, Bool.and_eq_true, Bool.and_eq_true] at hr
          obtain ⟨h1, h2, h3, h4⟩ := hr
          have h1 := tw_in h1
          have h2 := Nat.eq_of_beq_eq_true h2
          have h3 := Nat.eq_of_beq_eq_true h3
          obtain ⟨ci, T, N, ed, hcl⟩ := clNm_ok h4
          subst ed
          have main : ∀ (rv : Option MV) (h1 : MH), cal a (vR (900000 + ci) n :: as) h = some (rv, h1) → Inv lo (rv.toList ++ r) h1 ∧ Mono h h1 ∧ Fr l own ini law cc nL L scr d (pc, lo, st, h) (pc + 3, lo, rv.toList ++ r, h1) := by
            intro rv h1 hc1
            obtain ⟨i1, i2⟩ := call_inv hcal hi hok hc1
            refine ⟨i1, i2, fun F _ _ hR hroom kk => ?_⟩
            have hcon := call_con (math_kind hmt eq (by rw [h2]; decide)) hmt eq hcal hi.1 hok.1 hc1
            have hcl2 := hcal a _ h rv h1 hc1 hi.1 hok.1
            have hme := (hmt.2 a q eq).1
            have e6 : as.length = q.2 := by
              have : as.length + 1 = b := e4
              omega
            rw [← e6] at hme
            have := s_callV F hcon hcl2.1 hcl2.2.1 hcl2.2.2.1 hroom hR ‹_› ec hcl hme ((hmt.2 a q eq).2.2.1 h2) hd kk
            show AtW _ _ _ _ _ _ _ _ _ _ _ _ _ _ _ _ _ pc lo st h
            rw [e5]
            exact this
          rcases c with _ | _ | _ | c
          · obtain ⟨h1, g1, g2⟩ := clV_inv hx
            obtain ⟨a1, a2, a3⟩ := main _ _ g1
            exact ⟨_, _, _, g2, a1, a2, a3⟩
          · obtain ⟨v, h1, g1, g2⟩ := clI_inv hx
            obtain ⟨a1, a2, a3⟩ := main _ _ g1
            exact ⟨_, _, _, g2, a1, a2, a3⟩
          · obtain ⟨v, h1, g1, g2⟩ := clJ_inv hx
            obtain ⟨a1, a2, a3⟩ := main _ _ g1
            exact ⟨_, _, _, g2, a1, a2, a3⟩
          · obtain ⟨v, h1, g1, g2⟩ := clR_inv hx
            obtain ⟨a1, a2, a3⟩ := main _ _ g1
            exact ⟨_, _, _, g2, a1, a2, a3⟩
theorem x_invokespecial {idx : Nat} (hmt : MtOk mt) (hcal : CalOk l mt d cal) (hi : Inv lo st h) (hd : decode cc pc = .ok (.invokespecial idx, 3)) (hr : ckR own ini law nL mt (.invokespecial idx, cst, a, b, c, dd, ts) = true) (hx : ex1 L scr cal (.invokespecial idx, cst, a, b, c, dd, ts) lo st h k = some x) : Nx l own ini law cc nL L scr d pc 3 lo st h k x := by
  replace hr : (match Nat.beq a 901 with
      | true => tw (plc ts) (.methodLink own idx Lib.objectInit)
      | false => match mt a with
        | some q => tw (plc ts) (.methodLink own idx q.1.1) && (Nat.beq q.1.2.2.2.2.1 2 && (Nat.beq b (q.2 + 1) && (clNm dd q.1.1 && maskB dd c)))
        | none => false) = true := hr
  replace hx : (match Nat.beq a 901 with
      | true => match (generalizing := false) st with
        | [.inr (.inr (.inr (.inl _)))] => k lo [] h
        | _ => none
      | false => match spl b [] st with
        | some (.inr (.inr (.inr (.inl (s, n)))) :: as, .inr (.inr (.inr (.inl (t, m)))) :: r) => match Nat.ble (cat r) 7 && Nat.beq s dd && Nat.beq t dd with
          | true => clV (cal a (vU s n :: as) h) fun h => if m = n ∧ n + 1 = hC h s ∧ n = hD h s ∧ (∀ q ∈ List.range 100, c.testBit q = true → hZ h s q = true) then k lo (vR s n :: r) (whole h s n) else none
          | false => none
        | _ => none) = some x := hx
  cases e : Nat.beq a 901 with
  | true =>
    rw [e] at hx hr
    rcases st with _ | ⟨y | y | y | y | y, _ | ⟨z, r⟩⟩
    all_goals first
      | exact no_some hx
      | skip
    exact ⟨_, _, _, hx, hi.stk trivial, Mono.rf _, fun F _ _ hR _ k => s_objInit F hd (tw_in hr) (cpy_R hR) k⟩
  | false =>
    rw [e] at hx hr
    replace hr : (match mt a with
        | some q => tw (plc ts) (.methodLink own idx q.1.1) && (Nat.beq q.1.2.2.2.2.1 2 && (Nat.beq b (q.2 + 1) && (clNm dd q.1.1 && maskB dd c)))
        | none => false) = true := hr
    cases eq : mt a with
    | none => rw [eq] at hr; exact absurd (show false = true from hr) (by decide)
    | some q =>
      rw [eq] at hr
      replace hr : (tw (plc ts) (.methodLink own idx q.1.1) && (Nat.beq q.1.2.2.2.2.1 2 && (Nat.beq b (q.2 + 1) && (clNm dd q.1.1 && maskB dd c)))) = true := hr
      rw [Bool.and_eq_true, Bool.and_eq_true, Bool.and_eq_true, Bool.and_eq_true] at hr
      obtain ⟨h1, h2, h3, h4, h5⟩ := hr
      have h1 := tw_in h1
      have h2 := Nat.eq_of_beq_eq_true h2
      have h3 := Nat.eq_of_beq_eq_true h3
      obtain ⟨ci, T, N, ed, hcl⟩ := clNm_ok h4
      subst ed
      replace hx : (match spl b [] st with
        | some (.inr (.inr (.inr (.inl (s, n)))) :: as, .inr (.inr (.inr (.inl (t, m)))) :: r) => match Nat.ble (cat r) 7 && Nat.beq s (900000 + ci) && Nat.beq t (900000 + ci) with
          | true => clV (cal a (vU s n :: as) h) fun h => if m = n ∧ n + 1 = hC h s ∧ n = hD h s ∧ (∀ q ∈ List.range 100, c.testBit q = true → hZ h s q = true) then k lo (vR s n :: r) (whole h s n) else none
          | false => none
        | _ => none) = some x := hx
      cases es : spl b [] st with
      | none => rw [es] at hx; exact no_some hx
      | some z =>
        obtain ⟨as, r⟩ := z
        rw [es] at hx
        obtain ⟨e3, e4⟩ := spl_all es
        have hok : oks h as ∧ oks h r := by
          have := hi.2.1
          rw [e3, oks_app, oks_rev] at this
          exact this
        rcases as with _ | ⟨y | y | y | ⟨s, n⟩ | y, as⟩
        all_goals first
          | exact no_some hx
          | skip
        rcases r with _ | ⟨y | y | y | ⟨t, m⟩ | y, r⟩
        all_goals first
          | exact no_some hx
          | skip
        replace hx : (match Nat.ble (cat r) 7 && Nat.beq s (900000 + ci) && Nat.beq t (900000 + ci) with
          | true => clV (cal a (vU s n :: as) h) fun h => if m = n ∧ n + 1 = hC h s ∧ n = hD h s ∧ (∀ q ∈ List.range 100, c.testBit q = true → hZ h s q = true) then k lo (vR s n :: r) (whole h s n) else none
          | false => none) = some x := hx
        cases ec : (Nat.ble (cat r) 7 && Nat.beq s (900000 + ci) && Nat.beq t (900000 + ci)) with
        | false => rw [ec] at hx; exact no_some hx
        | true =>
          rw [ec] at hx
          rw [Bool.and_eq_true, Bool.and_eq_true] at ec
          obtain ⟨⟨ec, es1⟩, et1⟩ := ec
          replace ec := Nat.le_of_ble_eq_true ec
          replace es1 := Nat.eq_of_beq_eq_true es1
          replace et1 := Nat.eq_of_beq_eq_true et1
          subst es1; subst et1
          obtain ⟨hh, g1, g2⟩ := clV_inv hx
          by_cases hz : m = n ∧ n + 1 = hC hh (900000 + ci) ∧ n = hD hh (900000 + ci) ∧ (∀ q ∈ List.range 100, c.testBit q = true → hZ hh (900000 + ci) q = true)
          · rw [if_pos hz] at g2
            obtain ⟨z1, z2, z3, z4⟩ := hz
            subst z1
            have hzz := mask_ok (h := hh) h5 z4
            obtain ⟨i1, i2⟩ := call_inv (r := vU (900000 + ci) m :: r) hcal hi hok g1
            have hmw := whole_mono (h := hh) (s := 900000 + ci) z3
            have hww := Wf_whole i1.1 z2 z3 hzz
            refine ⟨_, _, _, g2, i1.mono hmw hww ⟨Or.inr ⟨by show m < hC hh (900000 + ci); omega, fun _ => by show m < (if 900000 + ci = 900000 + ci then m + 1 else hD hh (900000 + ci)); rw [if_pos rfl]; omega⟩, oks_mono hmw.1 hmw.2.1 i1.2.1.2⟩, i2.tr hmw, Fr.tr (y := (pc + 3, lo, vU (900000 + ci) m :: r, hh)) ?_ (Fr_whole z2 z3 hzz) hmw⟩
            intro p e R s m1 args below meth cd Q Ts D dA base ad0 h0 F hini hlaw hR hroom kk
            have hcon := call_con (math_kind hmt eq (by rw [h2]; decide)) hmt eq hcal hi.1 hok.1 g1
            have hcl2 := hcal a _ h none hh g1 hi.1 hok.1
            have hme := (hmt.2 a q eq).1
            have e6 : as.length = q.2 := by
              have : as.length + 1 = b := e4
              omega
            rw [← e6] at hme
            have hq := (hmt.2 a q eq).2.2.2 h2
            have hcat8 : cat (vU (900000 + ci) m :: r) ≤ 8 := by show cat r + 1 ≤ 8; omega
            have := s_callI F hcon hcl2.1 hcl2.2.1 hroom hR h1 hcat8 hme hq.2.2 ⟨hq.1, hq.2.1⟩ hd kk
            show AtW _ _ _ _ _ _ _ _ _ _ _ _ _ _ _ _ _ pc lo st h
            rw [e3, List.reverse_cons, List.append_assoc]
            exact this
          · rw [if_neg hz] at g2; exact no_some g2

theorem ex1_ok {i : MI} (hmt : MtOk mt) (hcal : CalOk l mt d cal) (hch : ChOk l own ini law cc nL L scr d) (hi : Inv lo st h) (hck : ckI own ini law nL cc mt pc i = true) (hx : ex1 L scr cal i lo st h k = some x) : Nx l own ini law cc nL L scr d pc (iln i.1) lo st h k x := by
  obtain ⟨ins, cst, a, b, c, dd, ts⟩ := i
  unfold ckI at hck
  rw [Bool.and_eq_true, decide_eq_true_eq] at hck
  obtain ⟨hd, hr⟩ := hck
  cases ins with
  | iadd => exact x_iadd hi hd hx
  | isub => exact x_isub hi hd hx
  | imul => exact x_imul hi hd hx
  | iand => exact x_iand hi hd hx
  | ior => exact x_ior hi hd hx
  | ixor => exact x_ixor hi hd hx
  | ishl => exact x_ishl hi hd hx
  | ishr => exact x_ishr hi hd hx
  | iushr => exact x_iushr hi hd hx
  | idiv => exact x_idiv hi hd hx
  | irem => exact x_irem hi hd hx
  | ladd => exact x_ladd hi hd hx
  | lmul => exact x_lmul hi hd hx
  | land => exact x_land hi hd hx
  | lor => exact x_lor hi hd hx
  | lxor => exact x_lxor hi hd hx
  | lcmp => exact x_lcmp hi hd hx
  | ldiv => exact x_ldiv hi hd hx
  | lrem => exact x_lrem hi hd hx
  | lshl => exact x_lshl hi hd hx
  | lushr => exact x_lushr hi hd hx
  | ineg => exact x_ineg hi hd hx
  | i2l => exact x_i2l hi hd hx
  | i2b => exact x_i2b hi hd hx
  | lneg => exact x_lneg hi hd hx
  | l2i => exact x_l2i hi hd hx
  | pop => exact x_pop hi hd hx
  | dup => exact x_dup hi hd hx
  | dup2 => exact x_dup2 hi hd hx
  | laload => exact x_laload hi hd hx
  | iastore => exact x_iastore hi hd hx
  | lastore => exact x_lastore hi hd hx
  | bastore => exact x_bastore hi hd hx
  | arraylength => exact x_arraylength hi hd hr hx
  | iaload => exact x_iaload hi hd hr hx
  | baload => exact x_baload hi hd hr hx
  | aaload => exact x_aaload hi hd hr hx
  | aastore => exact x_aastore hi hd hr hx
  | iconst n => exact x_iconst hi hd hr hx
  | bipush n => exact x_bipush hi hd hr hx
  | sipush n => exact x_sipush hi hd hr hx
  | lconst n => exact x_lconst hi hd hr hx
  | ldc n => exact x_ldc hi hd hr hx
  | ldc_w n => exact x_ldc_w hi hd hr hx
  | ldc2_w n => exact x_ldc2_w hi hd hr hx
  | aconst_null => exact x_aconst_null hi hd hr hx
  | iload n => exact x_iload hi hd hr hx
  | iload_n n => exact x_iload_n hi hd hr hx
  | lload n => exact x_lload hi hd hr hx
  | lload_n n => exact x_lload_n hi hd hr hx
  | aload n => exact x_aload hi hd hr hx
  | aload_n n => exact x_aload_n hi hd hr hx
  | istore n => exact x_istore hi hd hr hx
  | istore_n n => exact x_istore_n hi hd hr hx
  | lstore n => exact x_lstore hi hd hr hx
  | lstore_n n => exact x_lstore_n hi hd hr hx
  | astore n => exact x_astore hi hd hr hx
  | astore_n n => exact x_astore_n hi hd hr hx
  | iinc n m => exact x_iinc hi hd hr hx
  | getfield n => exact x_getfield hi hd hr hx
  | putfield n => exact x_putfield hi hd hr hx
  | new n => exact x_new hi hd hr hx
  | newarray t => exact x_newarray hi hd hr hx
  | anewarray n => exact x_anewarray hi hd hr hx
  | invokestatic n => exact x_invokestatic hmt hcal hi hd hr hx
  | invokevirtual n => exact x_invokevirtual hmt hcal hch hi hd hr hx
  | invokespecial n => exact x_invokespecial hmt hcal hi hd hr hx
  | _ => exact no_some hx
end Ins

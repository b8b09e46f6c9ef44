/-! LAWS read, on the class's side: cleared, and whole -/
abbrev WLc (m : Nat) : List (Nat × Nat) := (600, m) :: WRu m
abbrev WRz (m : Nat) : List (Nat × Nat) := WSc ++ WRx m
section CClear
variable {L : Nat} {scr : Nat → Int32} {d : Nat}
theorem fil_lt {f : Nat → Int32} {v : Int32} {n i : Nat} (h : i < n) : filF f v n i = v := if_pos h
theorem c_clear {h : MH} {m : Nat} (dy : Int32) : ∃ h2, E L scr (d + 2) 53 [vR 900005 m, vI dy] h = some (none, h2) ∧ Upd (WLc m) h h2 ∧ LwC h2 m 0 S0 ∧ hI h2 600 m 0 = dy := by
  obtain ⟨g0, hg0⟩ : ∃ g0, g0 = sI h 600 m 0 dy := ⟨_, rfl⟩
  obtain ⟨g1, hg1⟩ : ∃ g1, g1 = withR g0 [(601000004, m, filF (hI g0 601000004 m) 0 4)] := ⟨_, rfl⟩
  obtain ⟨g2, hg2⟩ : ∃ g2, g2 = withR g1 [(602000004, m, filF (hI g1 602000004 m) 60 4)] := ⟨_, rfl⟩
  obtain ⟨g3, hg3⟩ : ∃ g3, g3 = withR g2 [(603000004, m, filF (hI g2 603000004 m) 0 4)] := ⟨_, rfl⟩
  obtain ⟨g4, hg4⟩ : ∃ g4, g4 = withR g3 [(604000040, m, filF (hI g3 604000040 m) 0 40)] := ⟨_, rfl⟩
  obtain ⟨g5, hg5⟩ : ∃ g5, g5 = sI (sI (sI (sI (sI (sI (sI g4 605 m 0 0) 606 m 0 60) 607 m 0 0) 608 m 0 0) 609 m 0 0) 610 m 0 0) 615 m 0 0 := ⟨_, rfl⟩
  have e1 : E L scr (d + 1) 339 [vR 601000004 m, vI 0] g0 = some (none, g1) := by rw [hg1]; exact c_fill (N := 4) rfl rfl (by decide) 0 g0
  have e2 : E L scr (d + 1) 339 [vR 602000004 m, vI 60] g1 = some (none, g2) := by rw [hg2]; exact c_fill (N := 4) rfl rfl (by decide) 60 g1
  have e3 : E L scr (d + 1) 339 [vR 603000004 m, vI 0] g2 = some (none, g3) := by rw [hg3]; exact c_fill (N := 4) rfl rfl (by decide) 0 g2
  have e4 : E L scr (d + 1) 339 [vR 604000040 m, vI 0] g3 = some (none, g4) := by rw [hg4]; exact c_fill (N := 40) rfl rfl (by decide) 0 g3
  have wr : ∀ {g : MH} {s : Nat} {f : Nat → Int32} {a b : Nat}, ¬ (a = s ∧ b = m) → hI (withR g [(s, m, f)]) a b = hI g a b := fun z => withR_miss z
  have mem : ∀ s, s ∈ 600 :: num9 ++ [610, 615] → (s, m) ∈ WLc m := fun s hs => by
    simp only [num9, List.cons_append, List.nil_append, List.mem_cons, List.not_mem_nil, or_false] at hs
    rcases hs with rfl | rfl | rfl | rfl | rfl | rfl | rfl | rfl | rfl | rfl | rfl | rfl <;> simp [WLc, WRu, WOne, WRd, WLw, WAr]
  have uw : ∀ {g : MH} {s : Nat} {f : Nat → Int32}, s ∈ num9 → Upd (WLc m) h g → Upd (WLc m) h (withR g [(s, m, f)]) := fun {g} {s} {f} hs u => u.tr (withR_Upd (fun q hq => by
    rw [List.mem_singleton] at hq
    rw [hq]
    exact List.mem_cons_of_mem _ (WRu_nm hs)))
  have u4 : Upd (WLc m) h g4 := by
    rw [hg4, hg3, hg2, hg1, hg0]
    exact uw (by decide) (uw (by decide) (uw (by decide) (uw (by decide) ((Upd.rf _ h).sI (mem _ (by decide))))))
  have u5 : Upd (WLc m) h g5 := by
    rw [hg5]
    exact ((((((u4.sI (mem _ (by decide))).sI (mem _ (by decide))).sI (mem _ (by decide))).sI (mem _ (by decide))).sI (mem _ (by decide))).sI (mem _ (by decide))).sI (mem _ (by decide))
  have k5 : ∀ s, s ∉ [605, 606, 607, 608, 609, 610, 615] → hI g5 s m = hI g4 s m := fun s hs => by
    simp only [List.mem_cons, List.not_mem_nil, or_false, not_or] at hs
    obtain ⟨s1, s2, s3, s4, s5, s6, s7⟩ := hs
    rw [hg5, hI_rn (fun z => s7 z.1), hI_rn (fun z => s6 z.1), hI_rn (fun z => s5 z.1), hI_rn (fun z => s4 z.1), hI_rn (fun z => s3 z.1), hI_rn (fun z => s2 z.1), hI_rn (fun z => s1 z.1)]
  have f : ∀ j, nI (bareN j) = bareF j := fun j => (bareN_F j).symm
  refine ⟨g5, r_Law_clear (d := d + 1) _ _ _ (Sm.ret ?_), u5, ⟨⟨fun j hj => ⟨?_, ?_, ?_⟩, ⟨?_, ?_, ?_, ?_, ?_⟩, fun i hi => ?_⟩, by decide, ?_, ⟨by decide, ?_⟩, fun i hi => absurd hi (Nat.not_lt_zero i)⟩, ?_⟩
  · rw [t_Law_clear_0, ← hg0, e1, clV_ok, e2, clV_ok, e3, clV_ok, e4, clV_ok, ← hg5]
  · rw [k5 _ (by decide), hg4, wr (by simp), hg3, wr (by simp), hg2, wr (by simp), hg1, withR_hit, fil_lt hj]
    show 0 = nI (bareN j)
    rw [f]; unfold bareF; rw [if_pos hj]
  · rw [k5 _ (by decide), hg4, wr (by simp), hg3, wr (by simp), hg2, withR_hit, fil_lt hj]
    show 60 = nI (bareN (4 + j))
    rw [f]; unfold bareF; rw [if_neg (by omega), if_pos (by omega)]
  · rw [k5 _ (by decide), hg4, wr (by simp), hg3, withR_hit, fil_lt hj]
    show 0 = nI (bareN (8 + j))
    rw [f]; unfold bareF; rw [if_neg (by omega), if_neg (by omega), if_neg (by omega)]
  · rw [hg5, hI_rn (by simp), hI_rn (by simp), hI_rn (by simp), hI_rn (by simp), hI_rn (by simp), hI_rn (by simp), hI_rs, up_s]; rfl
  · rw [hg5, hI_rn (by simp), hI_rn (by simp), hI_rn (by simp), hI_rn (by simp), hI_rn (by simp), hI_rs, up_s]; rfl
  · rw [hg5, hI_rn (by simp), hI_rn (by simp), hI_rn (by simp), hI_rn (by simp), hI_rs, up_s]; rfl
  · rw [hg5, hI_rn (by simp), hI_rn (by simp), hI_rn (by simp), hI_rs, up_s]; rfl
  · rw [hg5, hI_rn (by simp), hI_rn (by simp), hI_rs, up_s]; rfl
  · rw [k5 _ (by decide), hg4, withR_hit, fil_lt hi]
    show 0 = nI (bareN (20 + i))
    rw [f]; unfold bareF; rw [if_neg (by omega), if_neg (by omega), if_neg (by omega)]
  · rw [hg5, hI_rn (by simp), hI_rs, up_s]; rfl
  · rw [hg5, hI_rs, up_s]; rfl
  · rw [k5 _ (by decide), hg4, wr (by simp), hg3, wr (by simp), hg2, wr (by simp), hg1, wr (by simp), hg0, hI_rs, up_s]
theorem c_P_read {h : MH} {v : Nat → Nat} {m n k : Nat} (nk : n ≤ k) (k9 : k ≤ 900) (b : BtV h v n) (es : hI h 701 0 0 = nI k) (lw : LwC h m 0 S0) : ∃ h2, E L scr (d + 32) 66 [vR 900006 0, vI (nI n), vR 900005 m] h = some (some (vI (rfI (pLaw 40 S0 (lex v n 0)))), h2) ∧ Upd (WRz m) h h2 ∧ hI h2 701 0 0 = 0 ∧ (∀ S, pLaw 40 S0 (lex v n 0) = .inl S → LB S.1 ∧ ∃ b, LwC h2 m b S) ∧ ∀ g, pLaw 40 S0 (lex v n 0) = .inr g → g ≤ 900 := by
  obtain ⟨h1, e1, u1, lx1⟩ := c_scan (L := L) (scr := scr) (d := d + 23) b
  have n9 := b.1
  obtain ⟨h2, hh2⟩ : ∃ h2, h2 = sI (sI h1 704 0 0 0) 705 0 0 (-1) := ⟨_, rfl⟩
  have u2 : Upd WRd h1 h2 := by rw [hh2]; exact ((Upd.rf _ h1).sI (by decide)).sI (by decide)
  obtain ⟨ok, len⟩ := lex_ok (v := v) (p := 0) n9
  have cp : CP h2 (lex v n 0) (.inl (lex v n 0)) := by
    refine ⟨by omega, lx1.fr u2 (by decide), 0, rfl, ok, ?_, ?_⟩
    · rw [hh2, hI_rn (by decide), hI_rs, up_s]; rfl
    · rw [hh2, hI_rs, up_s]
  have lw1 : LwC h1 m 0 S0 := lw.same (fun s hs => u1.2 s m (fun z => (by decide : ∀ s, s ∈ lwA → s ∉ WSc.map Prod.fst) s hs (List.mem_map_of_mem (f := Prod.fst) z)))
  have ko : KO h2 (lex v n 0) m (.inl (lex v n 0, S0)) := ⟨cp, lex_gap (Nat.zero_le _), 0, Nat.zero_le _, lw1.rd u2⟩
  obtain ⟨h3, s3, u3, z3, f3⟩ := rd_run (L := L) (scr := scr) (d := d) (m := m) (nI n) 40 0 h2 (.inl (lex v n 0, S0)) rfl (fun l S z => by injection z with z; injection z with _ z; rw [← z]; exact ⟨bareN_LB, Nat.le_refl _⟩) ko
  refine ⟨h3, r_Reader_read (d := d + 31) _ _ _ _ (Sm.step (t' := 1) (lo' := [some (vR 900006 0), some (vI (nI n)), some (vR 900005 m), some (vI (nI 0))]) (st' := []) (h' := h2) ?_ s3), ((u1.mono (fun q hq => List.mem_append_left _ hq)).tr (u2.mono (fun q hq => List.mem_append_right _ (List.mem_cons_of_mem _ (WRu_rd q hq))))).tr (u3.mono (fun q hq => List.mem_append_right _ hq)), z3, f3⟩
  have mn : (if nI k < nI n then nI k else nI n) = nI n := if_neg (fun z => by
    have := (nI_ltI (a := k) (b := n) (by omega) (by omega)).mp z
    omega)
  replace e1 : E L scr (d + 31) 67 [vR 900006 0, vI (nI n)] h = some (none, h1) := e1
  rw [t_Reader_read_0, es, c_min, clI_ok, mn, e1, clV_ok, ← hh2]; rfl
end CClear

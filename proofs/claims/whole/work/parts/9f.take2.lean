/-! IMAGES: what each take copies (printed by wip/whole/emittake.py) -/
section Take
variable {L : Nat} {scr : Nat → Int32} {d : Nat}
abbrev tkBook : List (Nat × Nat) := [(200, 1), (202, 1), (210, 1), (214, 1), (215, 1), (201000020, 20), (203000120, 120), (204000120, 120), (205000120, 120), (206000120, 120), (207000120, 120), (208000120, 120), (209000120, 120), (211000400, 400), (212000400, 400), (213000400, 400)]
theorem tk_Book {o p : Nat} (hop : p ≠ o) {h : MH} : E L scr (d + 1) 10 [vR 900001 o, vR 900001 p] h = some (none, cpL o p tkBook h) := by
  refine r_Book_take _ _ _ (Sm.ret ?_)
  rw [t_Book_take_0]
  obtain ⟨g1, hg1⟩ : ∃ g1, g1 = cpS o p (200, 1) h := ⟨_, rfl⟩
  rw [show sI h 200 o 0 (hI h 200 p 0) = g1 from cpS_sI.trans hg1.symm]
  obtain ⟨g2, hg2⟩ : ∃ g2, g2 = cpS o p (202, 1) g1 := ⟨_, rfl⟩
  rw [show sI g1 202 o 0 (hI g1 202 p 0) = g2 from cpS_sI.trans hg2.symm]
  obtain ⟨g3, hg3⟩ : ∃ g3, g3 = cpS o p (210, 1) g2 := ⟨_, rfl⟩
  rw [show sI g2 210 o 0 (hI g2 210 p 0) = g3 from cpS_sI.trans hg3.symm]
  obtain ⟨g4, hg4⟩ : ∃ g4, g4 = cpS o p (214, 1) g3 := ⟨_, rfl⟩
  rw [show sI g3 214 o 0 (hI g3 214 p 0) = g4 from cpS_sI.trans hg4.symm]
  obtain ⟨g5, hg5⟩ : ∃ g5, g5 = cpS o p (215, 1) g4 := ⟨_, rfl⟩
  rw [show sI g4 215 o 0 (hI g4 215 p 0) = g5 from cpS_sI.trans hg5.symm]
  obtain ⟨g6, hg6⟩ : ∃ g6, g6 = cpS o p (201000020, 20) g5 := ⟨_, rfl⟩
  rw [show (20 : Int32) = nI 20 from rfl, cpS_cp (s := 201000020) (N := 20) rfl rfl (by decide), ← hg6]
  obtain ⟨g7, hg7⟩ : ∃ g7, g7 = cpS o p (203000120, 120) g6 := ⟨_, rfl⟩
  rw [show (120 : Int32) = nI 120 from rfl, cpS_cp (s := 203000120) (N := 120) rfl rfl (by decide), ← hg7]
  obtain ⟨g8, hg8⟩ : ∃ g8, g8 = cpS o p (204000120, 120) g7 := ⟨_, rfl⟩
  rw [cpS_cp (s := 204000120) (N := 120) rfl rfl (by decide), ← hg8]
  obtain ⟨g9, hg9⟩ : ∃ g9, g9 = cpS o p (205000120, 120) g8 := ⟨_, rfl⟩
  rw [cpS_cp (s := 205000120) (N := 120) rfl rfl (by decide), ← hg9]
  obtain ⟨g10, hg10⟩ : ∃ g10, g10 = cpS o p (206000120, 120) g9 := ⟨_, rfl⟩
  rw [cpS_cp (s := 206000120) (N := 120) rfl rfl (by decide), ← hg10]
  obtain ⟨g11, hg11⟩ : ∃ g11, g11 = cpS o p (207000120, 120) g10 := ⟨_, rfl⟩
  rw [cpS_cp (s := 207000120) (N := 120) rfl rfl (by decide), ← hg11]
  obtain ⟨g12, hg12⟩ : ∃ g12, g12 = cpS o p (208000120, 120) g11 := ⟨_, rfl⟩
  rw [cpS_cp (s := 208000120) (N := 120) rfl rfl (by decide), ← hg12]
  obtain ⟨g13, hg13⟩ : ∃ g13, g13 = cpS o p (209000120, 120) g12 := ⟨_, rfl⟩
  rw [cpS_cp (s := 209000120) (N := 120) rfl rfl (by decide), ← hg13]
  obtain ⟨g14, hg14⟩ : ∃ g14, g14 = cpS o p (211000400, 400) g13 := ⟨_, rfl⟩
  rw [show (400 : Int32) = nI 400 from rfl, cpS_cp (s := 211000400) (N := 400) rfl rfl (by decide), ← hg14]
  obtain ⟨g15, hg15⟩ : ∃ g15, g15 = cpS o p (212000400, 400) g14 := ⟨_, rfl⟩
  rw [cpS_cp (s := 212000400) (N := 400) rfl rfl (by decide), ← hg15]
  obtain ⟨g16, hg16⟩ : ∃ g16, g16 = cpS o p (213000400, 400) g15 := ⟨_, rfl⟩
  rw [cpS_cp (s := 213000400) (N := 400) rfl rfl (by decide), ← hg16]
  rw [hg16, hg15, hg14, hg13, hg12, hg11, hg10, hg9, hg8, hg7, hg6, hg5, hg4, hg3, hg2, hg1]; rfl
abbrev tkRiver : List (Nat × Nat) := [(801, 1), (805, 1), (807, 1), (811, 1), (800000100, 100), (806000100, 100), (802000040, 40), (803000040, 40), (804000040, 40), (808000020, 20), (809000020, 20), (810000020, 20), (812000010, 10), (813000010, 10), (814000010, 10), (815000010, 10)]
theorem tk_River {o p : Nat} (hop : p ≠ o) {h : MH} : E L scr (d + 1) 91 [vR 900007 o, vR 900007 p] h = some (none, cpL o p tkRiver h) := by
  refine r_River_take _ _ _ (Sm.ret ?_)
  rw [t_River_take_0]
  obtain ⟨g1, hg1⟩ : ∃ g1, g1 = cpS o p (801, 1) h := ⟨_, rfl⟩
  rw [show sI h 801 o 0 (hI h 801 p 0) = g1 from cpS_sI.trans hg1.symm]
  obtain ⟨g2, hg2⟩ : ∃ g2, g2 = cpS o p (805, 1) g1 := ⟨_, rfl⟩
  rw [show sI g1 805 o 0 (hI g1 805 p 0) = g2 from cpS_sI.trans hg2.symm]
  obtain ⟨g3, hg3⟩ : ∃ g3, g3 = cpS o p (807, 1) g2 := ⟨_, rfl⟩
  rw [show sI g2 807 o 0 (hI g2 807 p 0) = g3 from cpS_sI.trans hg3.symm]
  obtain ⟨g4, hg4⟩ : ∃ g4, g4 = cpS o p (811, 1) g3 := ⟨_, rfl⟩
  rw [show sI g3 811 o 0 (hI g3 811 p 0) = g4 from cpS_sI.trans hg4.symm]
  obtain ⟨g5, hg5⟩ : ∃ g5, g5 = cpS o p (800000100, 100) g4 := ⟨_, rfl⟩
  rw [show (100 : Int32) = nI 100 from rfl, cpS_cp (s := 800000100) (N := 100) rfl rfl (by decide), ← hg5]
  obtain ⟨g6, hg6⟩ : ∃ g6, g6 = cpS o p (806000100, 100) g5 := ⟨_, rfl⟩
  rw [cpS_cp (s := 806000100) (N := 100) rfl rfl (by decide), ← hg6]
  obtain ⟨g7, hg7⟩ : ∃ g7, g7 = cpS o p (802000040, 40) g6 := ⟨_, rfl⟩
  rw [show (40 : Int32) = nI 40 from rfl, cpS_cp (s := 802000040) (N := 40) rfl rfl (by decide), ← hg7]
  obtain ⟨g8, hg8⟩ : ∃ g8, g8 = cpS o p (803000040, 40) g7 := ⟨_, rfl⟩
  rw [cpS_cp (s := 803000040) (N := 40) rfl rfl (by decide), ← hg8]
  obtain ⟨g9, hg9⟩ : ∃ g9, g9 = cpS o p (804000040, 40) g8 := ⟨_, rfl⟩
  rw [cpS_cp (s := 804000040) (N := 40) rfl rfl (by decide), ← hg9]
  obtain ⟨g10, hg10⟩ : ∃ g10, g10 = cpS o p (808000020, 20) g9 := ⟨_, rfl⟩
  rw [show (20 : Int32) = nI 20 from rfl, cpS_cp (s := 808000020) (N := 20) rfl rfl (by decide), ← hg10]
  obtain ⟨g11, hg11⟩ : ∃ g11, g11 = cpS o p (809000020, 20) g10 := ⟨_, rfl⟩
  rw [cpS_cp (s := 809000020) (N := 20) rfl rfl (by decide), ← hg11]
  obtain ⟨g12, hg12⟩ : ∃ g12, g12 = cpS o p (810000020, 20) g11 := ⟨_, rfl⟩
  rw [cpS_cp (s := 810000020) (N := 20) rfl rfl (by decide), ← hg12]
  obtain ⟨g13, hg13⟩ : ∃ g13, g13 = cpS o p (812000010, 10) g12 := ⟨_, rfl⟩
  rw [show (10 : Int32) = nI 10 from rfl, cpS_cp (s := 812000010) (N := 10) rfl rfl (by decide), ← hg13]
  obtain ⟨g14, hg14⟩ : ∃ g14, g14 = cpS o p (813000010, 10) g13 := ⟨_, rfl⟩
  rw [cpS_cp (s := 813000010) (N := 10) rfl rfl (by decide), ← hg14]
  obtain ⟨g15, hg15⟩ : ∃ g15, g15 = cpS o p (814000010, 10) g14 := ⟨_, rfl⟩
  rw [cpS_cp (s := 814000010) (N := 10) rfl rfl (by decide), ← hg15]
  obtain ⟨g16, hg16⟩ : ∃ g16, g16 = cpS o p (815000010, 10) g15 := ⟨_, rfl⟩
  rw [cpS_cp (s := 815000010) (N := 10) rfl rfl (by decide), ← hg16]
  rw [hg16, hg15, hg14, hg13, hg12, hg11, hg10, hg9, hg8, hg7, hg6, hg5, hg4, hg3, hg2, hg1]; rfl
abbrev tkDemand : List (Nat × Nat) := [(301, 1), (300000072, 72), (302000012, 12)]
theorem tk_Demand {o p : Nat} (hop : p ≠ o) {h : MH} : E L scr (d + 1) 21 [vR 900002 o, vR 900002 p] h = some (none, cpL o p tkDemand h) := by
  refine r_Demand_take _ _ _ (Sm.ret ?_)
  rw [t_Demand_take_0]
  obtain ⟨g1, hg1⟩ : ∃ g1, g1 = cpS o p (301, 1) h := ⟨_, rfl⟩
  rw [show sI h 301 o 0 (hI h 301 p 0) = g1 from cpS_sI.trans hg1.symm]
  obtain ⟨g2, hg2⟩ : ∃ g2, g2 = cpS o p (300000072, 72) g1 := ⟨_, rfl⟩
  rw [show (72 : Int32) = nI 72 from rfl, cpS_cp (s := 300000072) (N := 72) rfl rfl (by decide), ← hg2]
  obtain ⟨g3, hg3⟩ : ∃ g3, g3 = cpS o p (302000012, 12) g2 := ⟨_, rfl⟩
  rw [show (12 : Int32) = nI 12 from rfl, cpS_cp (s := 302000012) (N := 12) rfl rfl (by decide), ← hg3]
  rw [hg3, hg2, hg1]; rfl
abbrev tkRoller : List (Nat × Nat) := [(900, 1), (901000007, 7), (902000007, 7)]
theorem tk_Roller {o p : Nat} (hop : p ≠ o) {h : MH} : E L scr (d + 1) 101 [vR 900008 o, vR 900008 p] h = some (none, cpL o p tkRoller h) := by
  refine r_Roller_take _ _ _ (Sm.ret ?_)
  rw [t_Roller_take_0]
  obtain ⟨g1, hg1⟩ : ∃ g1, g1 = cpS o p (900, 1) h := ⟨_, rfl⟩
  rw [show sI h 900 o 0 (hI h 900 p 0) = g1 from cpS_sI.trans hg1.symm]
  obtain ⟨g2, hg2⟩ : ∃ g2, g2 = cpS o p (901000007, 7) g1 := ⟨_, rfl⟩
  rw [show (7 : Int32) = nI 7 from rfl, cpS_cp (s := 901000007) (N := 7) rfl rfl (by decide), ← hg2]
  obtain ⟨g3, hg3⟩ : ∃ g3, g3 = cpS o p (902000007, 7) g2 := ⟨_, rfl⟩
  rw [cpS_cp (s := 902000007) (N := 7) rfl rfl (by decide), ← hg3]
  rw [hg3, hg2, hg1]; rfl
abbrev tkGuides : List (Nat × Nat) := [(500, 1), (503, 1), (501000008, 8), (502000008, 8), (504000008, 8), (505000008, 8)]
theorem tk_Guides {o p : Nat} (hop : p ≠ o) {h : MH} : E L scr (d + 1) 43 [vR 900004 o, vR 900004 p] h = some (none, cpL o p tkGuides h) := by
  refine r_Guides_take _ _ _ (Sm.ret ?_)
  rw [t_Guides_take_0]
  obtain ⟨g1, hg1⟩ : ∃ g1, g1 = cpS o p (500, 1) h := ⟨_, rfl⟩
  rw [show sI h 500 o 0 (hI h 500 p 0) = g1 from cpS_sI.trans hg1.symm]
  obtain ⟨g2, hg2⟩ : ∃ g2, g2 = cpS o p (503, 1) g1 := ⟨_, rfl⟩
  rw [show sI g1 503 o 0 (hI g1 503 p 0) = g2 from cpS_sI.trans hg2.symm]
  obtain ⟨g3, hg3⟩ : ∃ g3, g3 = cpS o p (501000008, 8) g2 := ⟨_, rfl⟩
  rw [show (8 : Int32) = nI 8 from rfl, cpS_cp (s := 501000008) (N := 8) rfl rfl (by decide), ← hg3]
  obtain ⟨g4, hg4⟩ : ∃ g4, g4 = cpS o p (502000008, 8) g3 := ⟨_, rfl⟩
  rw [cpS_cp (s := 502000008) (N := 8) rfl rfl (by decide), ← hg4]
  obtain ⟨g5, hg5⟩ : ∃ g5, g5 = cpS o p (504000008, 8) g4 := ⟨_, rfl⟩
  rw [cpS_cp (s := 504000008) (N := 8) rfl rfl (by decide), ← hg5]
  obtain ⟨g6, hg6⟩ : ∃ g6, g6 = cpS o p (505000008, 8) g5 := ⟨_, rfl⟩
  rw [cpS_cp (s := 505000008) (N := 8) rfl rfl (by decide), ← hg6]
  rw [hg6, hg5, hg4, hg3, hg2, hg1]; rfl
abbrev tkDock : List (Nat × Nat) := [(400000020, 20), (401000020, 20), (402000020, 20), (403000020, 20)]
theorem tk_Dock {o p : Nat} (hop : p ≠ o) {h : MH} : E L scr (d + 1) 32 [vR 900003 o, vR 900003 p] h = some (none, cpL o p tkDock h) := by
  refine r_Dock_take _ _ _ (Sm.ret ?_)
  rw [t_Dock_take_0]
  obtain ⟨g1, hg1⟩ : ∃ g1, g1 = cpS o p (400000020, 20) h := ⟨_, rfl⟩
  rw [show (20 : Int32) = nI 20 from rfl, cpS_cp (s := 400000020) (N := 20) rfl rfl (by decide), ← hg1]
  obtain ⟨g2, hg2⟩ : ∃ g2, g2 = cpS o p (401000020, 20) g1 := ⟨_, rfl⟩
  rw [cpS_cp (s := 401000020) (N := 20) rfl rfl (by decide), ← hg2]
  obtain ⟨g3, hg3⟩ : ∃ g3, g3 = cpS o p (402000020, 20) g2 := ⟨_, rfl⟩
  rw [cpS_cp (s := 402000020) (N := 20) rfl rfl (by decide), ← hg3]
  obtain ⟨g4, hg4⟩ : ∃ g4, g4 = cpS o p (403000020, 20) g3 := ⟨_, rfl⟩
  rw [cpS_cp (s := 403000020) (N := 20) rfl rfl (by decide), ← hg4]
  rw [hg4, hg3, hg2, hg1]; rfl
abbrev tkAll : List (Nat × Nat) := tkBook ++ tkRiver ++ tkDemand ++ tkRoller ++ tkGuides ++ tkDock
theorem cpL_app {o p : Nat} : ∀ {l r : List (Nat × Nat)} {h : MH}, cpL o p (l ++ r) h = cpL o p r (cpL o p l h)
  | [], _, _ => rfl
  | q :: l, r, h => by show cpL o p (l ++ r) (cpS o p q h) = _; rw [cpL_app]; rfl
theorem tk_State {o p : Nat} (hop : p ≠ o) {h : MH} : E L scr (d + 2) 106 [vR 900009 o, vR 900009 p] h = some (none, cpL o p tkAll h) := by
  refine r_State_take _ _ _ (Sm.ret ?_)
  rw [t_State_take_0, tk_Book hop, clV_ok, tk_River hop, clV_ok, tk_Demand hop, clV_ok, tk_Roller hop, clV_ok, tk_Guides hop, clV_ok, tk_Dock hop, clV_ok]
  rfl
end Take

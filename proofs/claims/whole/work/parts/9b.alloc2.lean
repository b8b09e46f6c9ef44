/-! ALLOCATION: what the constructors make (printed by wip/whole/emitalloc.py) -/
section Alloc
variable {L : Nat} {scr : Nat → Int32} {d : Nat}
abbrev alBook : List (Nat × Nat) := [(201000020, 1), (203000120, 3), (204000120, 4), (205000120, 5), (206000120, 6), (207000120, 7), (208000120, 8), (209000120, 9), (211000400, 11), (212000400, 12), (213000400, 13)]
theorem al_Book {h : MH} {o : Nat} (hc : hC h 900001 = o + 1) (hr : ∀ s, s ∈ alBook.map Prod.fst → hC h s = o) : E L scr (d + 2) 9 [vU 900001 o] h = some (none, alR 900001 alBook h) := by
  refine r_Book_init _ _ (Sm.ret ?_)
  rw [t_Book_init_0]
  rw [al_if (s := 201000020) (c := 900001) (by decide) (by decide) hc (hr 201000020 (by decide))]
  obtain ⟨g1, hg1⟩ : ∃ g1, g1 = alS 900001 (201000020, 1) h := ⟨_, rfl⟩
  rw [show setZ (newA h 201000020 (lenOf 201000020)) 900001 1 = g1 from hg1.symm]
  have H1 : ∀ a, a ∉ [201000020] → hC g1 a = hC h a := fun a ha => by rw [hg1, alS_C]; exact if_neg (fun z => ha (by rw [z]; exact List.mem_cons_self))
  have C1 : hC g1 900001 = o + 1 := (H1 900001 (by decide)).trans hc
  rw [al_if (s := 203000120) (c := 900001) (by decide) (by decide) C1 ((H1 203000120 (by decide)).trans (hr 203000120 (by decide)))]
  obtain ⟨g2, hg2⟩ : ∃ g2, g2 = alS 900001 (203000120, 3) g1 := ⟨_, rfl⟩
  rw [show setZ (newA g1 203000120 (lenOf 203000120)) 900001 3 = g2 from hg2.symm]
  have H2 : ∀ a, a ∉ [203000120, 201000020] → hC g2 a = hC h a := fun a ha => by rw [hg2, alS_C, if_neg (fun z => ha (by rw [z]; exact List.mem_cons_self))]; exact H1 a (fun z => ha (List.mem_cons_of_mem _ z))
  have C2 : hC g2 900001 = o + 1 := (H2 900001 (by decide)).trans hc
  rw [al_if (s := 204000120) (c := 900001) (by decide) (by decide) C2 ((H2 204000120 (by decide)).trans (hr 204000120 (by decide)))]
  obtain ⟨g3, hg3⟩ : ∃ g3, g3 = alS 900001 (204000120, 4) g2 := ⟨_, rfl⟩
  rw [show setZ (newA g2 204000120 (lenOf 204000120)) 900001 4 = g3 from hg3.symm]
  have H3 : ∀ a, a ∉ [204000120, 203000120, 201000020] → hC g3 a = hC h a := fun a ha => by rw [hg3, alS_C, if_neg (fun z => ha (by rw [z]; exact List.mem_cons_self))]; exact H2 a (fun z => ha (List.mem_cons_of_mem _ z))
  have C3 : hC g3 900001 = o + 1 := (H3 900001 (by decide)).trans hc
  rw [al_if (s := 205000120) (c := 900001) (by decide) (by decide) C3 ((H3 205000120 (by decide)).trans (hr 205000120 (by decide)))]
  obtain ⟨g4, hg4⟩ : ∃ g4, g4 = alS 900001 (205000120, 5) g3 := ⟨_, rfl⟩
  rw [show setZ (newA g3 205000120 (lenOf 205000120)) 900001 5 = g4 from hg4.symm]
  have H4 : ∀ a, a ∉ [205000120, 204000120, 203000120, 201000020] → hC g4 a = hC h a := fun a ha => by rw [hg4, alS_C, if_neg (fun z => ha (by rw [z]; exact List.mem_cons_self))]; exact H3 a (fun z => ha (List.mem_cons_of_mem _ z))
  have C4 : hC g4 900001 = o + 1 := (H4 900001 (by decide)).trans hc
  rw [al_if (s := 206000120) (c := 900001) (by decide) (by decide) C4 ((H4 206000120 (by decide)).trans (hr 206000120 (by decide)))]
  obtain ⟨g5, hg5⟩ : ∃ g5, g5 = alS 900001 (206000120, 6) g4 := ⟨_, rfl⟩
  rw [show setZ (newA g4 206000120 (lenOf 206000120)) 900001 6 = g5 from hg5.symm]
  have H5 : ∀ a, a ∉ [206000120, 205000120, 204000120, 203000120, 201000020] → hC g5 a = hC h a := fun a ha => by rw [hg5, alS_C, if_neg (fun z => ha (by rw [z]; exact List.mem_cons_self))]; exact H4 a (fun z => ha (List.mem_cons_of_mem _ z))
  have C5 : hC g5 900001 = o + 1 := (H5 900001 (by decide)).trans hc
  rw [al_if (s := 207000120) (c := 900001) (by decide) (by decide) C5 ((H5 207000120 (by decide)).trans (hr 207000120 (by decide)))]
  obtain ⟨g6, hg6⟩ : ∃ g6, g6 = alS 900001 (207000120, 7) g5 := ⟨_, rfl⟩
  rw [show setZ (newA g5 207000120 (lenOf 207000120)) 900001 7 = g6 from hg6.symm]
  have H6 : ∀ a, a ∉ [207000120, 206000120, 205000120, 204000120, 203000120, 201000020] → hC g6 a = hC h a := fun a ha => by rw [hg6, alS_C, if_neg (fun z => ha (by rw [z]; exact List.mem_cons_self))]; exact H5 a (fun z => ha (List.mem_cons_of_mem _ z))
  have C6 : hC g6 900001 = o + 1 := (H6 900001 (by decide)).trans hc
  rw [al_if (s := 208000120) (c := 900001) (by decide) (by decide) C6 ((H6 208000120 (by decide)).trans (hr 208000120 (by decide)))]
  obtain ⟨g7, hg7⟩ : ∃ g7, g7 = alS 900001 (208000120, 8) g6 := ⟨_, rfl⟩
  rw [show setZ (newA g6 208000120 (lenOf 208000120)) 900001 8 = g7 from hg7.symm]
  have H7 : ∀ a, a ∉ [208000120, 207000120, 206000120, 205000120, 204000120, 203000120, 201000020] → hC g7 a = hC h a := fun a ha => by rw [hg7, alS_C, if_neg (fun z => ha (by rw [z]; exact List.mem_cons_self))]; exact H6 a (fun z => ha (List.mem_cons_of_mem _ z))
  have C7 : hC g7 900001 = o + 1 := (H7 900001 (by decide)).trans hc
  rw [al_if (s := 209000120) (c := 900001) (by decide) (by decide) C7 ((H7 209000120 (by decide)).trans (hr 209000120 (by decide)))]
  obtain ⟨g8, hg8⟩ : ∃ g8, g8 = alS 900001 (209000120, 9) g7 := ⟨_, rfl⟩
  rw [show setZ (newA g7 209000120 (lenOf 209000120)) 900001 9 = g8 from hg8.symm]
  have H8 : ∀ a, a ∉ [209000120, 208000120, 207000120, 206000120, 205000120, 204000120, 203000120, 201000020] → hC g8 a = hC h a := fun a ha => by rw [hg8, alS_C, if_neg (fun z => ha (by rw [z]; exact List.mem_cons_self))]; exact H7 a (fun z => ha (List.mem_cons_of_mem _ z))
  have C8 : hC g8 900001 = o + 1 := (H8 900001 (by decide)).trans hc
  rw [al_if (s := 211000400) (c := 900001) (by decide) (by decide) C8 ((H8 211000400 (by decide)).trans (hr 211000400 (by decide)))]
  obtain ⟨g9, hg9⟩ : ∃ g9, g9 = alS 900001 (211000400, 11) g8 := ⟨_, rfl⟩
  rw [show setZ (newA g8 211000400 (lenOf 211000400)) 900001 11 = g9 from hg9.symm]
  have H9 : ∀ a, a ∉ [211000400, 209000120, 208000120, 207000120, 206000120, 205000120, 204000120, 203000120, 201000020] → hC g9 a = hC h a := fun a ha => by rw [hg9, alS_C, if_neg (fun z => ha (by rw [z]; exact List.mem_cons_self))]; exact H8 a (fun z => ha (List.mem_cons_of_mem _ z))
  have C9 : hC g9 900001 = o + 1 := (H9 900001 (by decide)).trans hc
  rw [al_if (s := 212000400) (c := 900001) (by decide) (by decide) C9 ((H9 212000400 (by decide)).trans (hr 212000400 (by decide)))]
  obtain ⟨g10, hg10⟩ : ∃ g10, g10 = alS 900001 (212000400, 12) g9 := ⟨_, rfl⟩
  rw [show setZ (newA g9 212000400 (lenOf 212000400)) 900001 12 = g10 from hg10.symm]
  have H10 : ∀ a, a ∉ [212000400, 211000400, 209000120, 208000120, 207000120, 206000120, 205000120, 204000120, 203000120, 201000020] → hC g10 a = hC h a := fun a ha => by rw [hg10, alS_C, if_neg (fun z => ha (by rw [z]; exact List.mem_cons_self))]; exact H9 a (fun z => ha (List.mem_cons_of_mem _ z))
  have C10 : hC g10 900001 = o + 1 := (H10 900001 (by decide)).trans hc
  rw [al_if (s := 213000400) (c := 900001) (by decide) (by decide) C10 ((H10 213000400 (by decide)).trans (hr 213000400 (by decide)))]
  obtain ⟨g11, hg11⟩ : ∃ g11, g11 = alS 900001 (213000400, 13) g10 := ⟨_, rfl⟩
  rw [show setZ (newA g10 213000400 (lenOf 213000400)) 900001 13 = g11 from hg11.symm]
  have H11 : ∀ a, a ∉ [213000400, 212000400, 211000400, 209000120, 208000120, 207000120, 206000120, 205000120, 204000120, 203000120, 201000020] → hC g11 a = hC h a := fun a ha => by rw [hg11, alS_C, if_neg (fun z => ha (by rw [z]; exact List.mem_cons_self))]; exact H10 a (fun z => ha (List.mem_cons_of_mem _ z))
  have C11 : hC g11 900001 = o + 1 := (H11 900001 (by decide)).trans hc
  have e : g11 = (alR 900001 alBook h) := by rw [hg11, hg10, hg9, hg8, hg7, hg6, hg5, hg4, hg3, hg2, hg1]; rfl
  rw [e]
abbrev alRiver : List (Nat × Nat) := [(800000100, 0), (802000040, 2), (803000040, 3), (804000040, 4), (806000100, 6), (808000020, 8), (809000020, 9), (810000020, 10), (812000010, 12), (813000010, 13), (814000010, 14), (815000010, 15)]
theorem al_River {h : MH} {o : Nat} (hc : hC h 900007 = o + 1) (hr : ∀ s, s ∈ alRiver.map Prod.fst → hC h s = o) : E L scr (d + 2) 90 [vU 900007 o] h = some (none, withR (alR 900007 alRiver h) [(800000100, o, filF (hI (alR 900007 alRiver h) 800000100 o) 50 100)]) := by
  refine r_River_init _ _ (Sm.ret ?_)
  rw [t_River_init_0]
  rw [al_if (s := 800000100) (c := 900007) (by decide) (by decide) hc (hr 800000100 (by decide))]
  obtain ⟨g1, hg1⟩ : ∃ g1, g1 = alS 900007 (800000100, 0) h := ⟨_, rfl⟩
  rw [show setZ (newA h 800000100 (lenOf 800000100)) 900007 0 = g1 from hg1.symm]
  have H1 : ∀ a, a ∉ [800000100] → hC g1 a = hC h a := fun a ha => by rw [hg1, alS_C]; exact if_neg (fun z => ha (by rw [z]; exact List.mem_cons_self))
  have C1 : hC g1 900007 = o + 1 := (H1 900007 (by decide)).trans hc
  rw [al_if (s := 802000040) (c := 900007) (by decide) (by decide) C1 ((H1 802000040 (by decide)).trans (hr 802000040 (by decide)))]
  obtain ⟨g2, hg2⟩ : ∃ g2, g2 = alS 900007 (802000040, 2) g1 := ⟨_, rfl⟩
  rw [show setZ (newA g1 802000040 (lenOf 802000040)) 900007 2 = g2 from hg2.symm]
  have H2 : ∀ a, a ∉ [802000040, 800000100] → hC g2 a = hC h a := fun a ha => by rw [hg2, alS_C, if_neg (fun z => ha (by rw [z]; exact List.mem_cons_self))]; exact H1 a (fun z => ha (List.mem_cons_of_mem _ z))
  have C2 : hC g2 900007 = o + 1 := (H2 900007 (by decide)).trans hc
  rw [al_if (s := 803000040) (c := 900007) (by decide) (by decide) C2 ((H2 803000040 (by decide)).trans (hr 803000040 (by decide)))]
  obtain ⟨g3, hg3⟩ : ∃ g3, g3 = alS 900007 (803000040, 3) g2 := ⟨_, rfl⟩
  rw [show setZ (newA g2 803000040 (lenOf 803000040)) 900007 3 = g3 from hg3.symm]
  have H3 : ∀ a, a ∉ [803000040, 802000040, 800000100] → hC g3 a = hC h a := fun a ha => by rw [hg3, alS_C, if_neg (fun z => ha (by rw [z]; exact List.mem_cons_self))]; exact H2 a (fun z => ha (List.mem_cons_of_mem _ z))
  have C3 : hC g3 900007 = o + 1 := (H3 900007 (by decide)).trans hc
  rw [al_if (s := 804000040) (c := 900007) (by decide) (by decide) C3 ((H3 804000040 (by decide)).trans (hr 804000040 (by decide)))]
  obtain ⟨g4, hg4⟩ : ∃ g4, g4 = alS 900007 (804000040, 4) g3 := ⟨_, rfl⟩
  rw [show setZ (newA g3 804000040 (lenOf 804000040)) 900007 4 = g4 from hg4.symm]
  have H4 : ∀ a, a ∉ [804000040, 803000040, 802000040, 800000100] → hC g4 a = hC h a := fun a ha => by rw [hg4, alS_C, if_neg (fun z => ha (by rw [z]; exact List.mem_cons_self))]; exact H3 a (fun z => ha (List.mem_cons_of_mem _ z))
  have C4 : hC g4 900007 = o + 1 := (H4 900007 (by decide)).trans hc
  rw [al_if (s := 806000100) (c := 900007) (by decide) (by decide) C4 ((H4 806000100 (by decide)).trans (hr 806000100 (by decide)))]
  obtain ⟨g5, hg5⟩ : ∃ g5, g5 = alS 900007 (806000100, 6) g4 := ⟨_, rfl⟩
  rw [show setZ (newA g4 806000100 (lenOf 806000100)) 900007 6 = g5 from hg5.symm]
  have H5 : ∀ a, a ∉ [806000100, 804000040, 803000040, 802000040, 800000100] → hC g5 a = hC h a := fun a ha => by rw [hg5, alS_C, if_neg (fun z => ha (by rw [z]; exact List.mem_cons_self))]; exact H4 a (fun z => ha (List.mem_cons_of_mem _ z))
  have C5 : hC g5 900007 = o + 1 := (H5 900007 (by decide)).trans hc
  rw [al_if (s := 808000020) (c := 900007) (by decide) (by decide) C5 ((H5 808000020 (by decide)).trans (hr 808000020 (by decide)))]
  obtain ⟨g6, hg6⟩ : ∃ g6, g6 = alS 900007 (808000020, 8) g5 := ⟨_, rfl⟩
  rw [show setZ (newA g5 808000020 (lenOf 808000020)) 900007 8 = g6 from hg6.symm]
  have H6 : ∀ a, a ∉ [808000020, 806000100, 804000040, 803000040, 802000040, 800000100] → hC g6 a = hC h a := fun a ha => by rw [hg6, alS_C, if_neg (fun z => ha (by rw [z]; exact List.mem_cons_self))]; exact H5 a (fun z => ha (List.mem_cons_of_mem _ z))
  have C6 : hC g6 900007 = o + 1 := (H6 900007 (by decide)).trans hc
  rw [al_if (s := 809000020) (c := 900007) (by decide) (by decide) C6 ((H6 809000020 (by decide)).trans (hr 809000020 (by decide)))]
  obtain ⟨g7, hg7⟩ : ∃ g7, g7 = alS 900007 (809000020, 9) g6 := ⟨_, rfl⟩
  rw [show setZ (newA g6 809000020 (lenOf 809000020)) 900007 9 = g7 from hg7.symm]
  have H7 : ∀ a, a ∉ [809000020, 808000020, 806000100, 804000040, 803000040, 802000040, 800000100] → hC g7 a = hC h a := fun a ha => by rw [hg7, alS_C, if_neg (fun z => ha (by rw [z]; exact List.mem_cons_self))]; exact H6 a (fun z => ha (List.mem_cons_of_mem _ z))
  have C7 : hC g7 900007 = o + 1 := (H7 900007 (by decide)).trans hc
  rw [al_if (s := 810000020) (c := 900007) (by decide) (by decide) C7 ((H7 810000020 (by decide)).trans (hr 810000020 (by decide)))]
  obtain ⟨g8, hg8⟩ : ∃ g8, g8 = alS 900007 (810000020, 10) g7 := ⟨_, rfl⟩
  rw [show setZ (newA g7 810000020 (lenOf 810000020)) 900007 10 = g8 from hg8.symm]
  have H8 : ∀ a, a ∉ [810000020, 809000020, 808000020, 806000100, 804000040, 803000040, 802000040, 800000100] → hC g8 a = hC h a := fun a ha => by rw [hg8, alS_C, if_neg (fun z => ha (by rw [z]; exact List.mem_cons_self))]; exact H7 a (fun z => ha (List.mem_cons_of_mem _ z))
  have C8 : hC g8 900007 = o + 1 := (H8 900007 (by decide)).trans hc
  rw [al_if (s := 812000010) (c := 900007) (by decide) (by decide) C8 ((H8 812000010 (by decide)).trans (hr 812000010 (by decide)))]
  obtain ⟨g9, hg9⟩ : ∃ g9, g9 = alS 900007 (812000010, 12) g8 := ⟨_, rfl⟩
  rw [show setZ (newA g8 812000010 (lenOf 812000010)) 900007 12 = g9 from hg9.symm]
  have H9 : ∀ a, a ∉ [812000010, 810000020, 809000020, 808000020, 806000100, 804000040, 803000040, 802000040, 800000100] → hC g9 a = hC h a := fun a ha => by rw [hg9, alS_C, if_neg (fun z => ha (by rw [z]; exact List.mem_cons_self))]; exact H8 a (fun z => ha (List.mem_cons_of_mem _ z))
  have C9 : hC g9 900007 = o + 1 := (H9 900007 (by decide)).trans hc
  rw [al_if (s := 813000010) (c := 900007) (by decide) (by decide) C9 ((H9 813000010 (by decide)).trans (hr 813000010 (by decide)))]
  obtain ⟨g10, hg10⟩ : ∃ g10, g10 = alS 900007 (813000010, 13) g9 := ⟨_, rfl⟩
  rw [show setZ (newA g9 813000010 (lenOf 813000010)) 900007 13 = g10 from hg10.symm]
  have H10 : ∀ a, a ∉ [813000010, 812000010, 810000020, 809000020, 808000020, 806000100, 804000040, 803000040, 802000040, 800000100] → hC g10 a = hC h a := fun a ha => by rw [hg10, alS_C, if_neg (fun z => ha (by rw [z]; exact List.mem_cons_self))]; exact H9 a (fun z => ha (List.mem_cons_of_mem _ z))
  have C10 : hC g10 900007 = o + 1 := (H10 900007 (by decide)).trans hc
  rw [al_if (s := 814000010) (c := 900007) (by decide) (by decide) C10 ((H10 814000010 (by decide)).trans (hr 814000010 (by decide)))]
  obtain ⟨g11, hg11⟩ : ∃ g11, g11 = alS 900007 (814000010, 14) g10 := ⟨_, rfl⟩
  rw [show setZ (newA g10 814000010 (lenOf 814000010)) 900007 14 = g11 from hg11.symm]
  have H11 : ∀ a, a ∉ [814000010, 813000010, 812000010, 810000020, 809000020, 808000020, 806000100, 804000040, 803000040, 802000040, 800000100] → hC g11 a = hC h a := fun a ha => by rw [hg11, alS_C, if_neg (fun z => ha (by rw [z]; exact List.mem_cons_self))]; exact H10 a (fun z => ha (List.mem_cons_of_mem _ z))
  have C11 : hC g11 900007 = o + 1 := (H11 900007 (by decide)).trans hc
  rw [al_if (s := 815000010) (c := 900007) (by decide) (by decide) C11 ((H11 815000010 (by decide)).trans (hr 815000010 (by decide)))]
  obtain ⟨g12, hg12⟩ : ∃ g12, g12 = alS 900007 (815000010, 15) g11 := ⟨_, rfl⟩
  rw [show setZ (newA g11 815000010 (lenOf 815000010)) 900007 15 = g12 from hg12.symm]
  have H12 : ∀ a, a ∉ [815000010, 814000010, 813000010, 812000010, 810000020, 809000020, 808000020, 806000100, 804000040, 803000040, 802000040, 800000100] → hC g12 a = hC h a := fun a ha => by rw [hg12, alS_C, if_neg (fun z => ha (by rw [z]; exact List.mem_cons_self))]; exact H11 a (fun z => ha (List.mem_cons_of_mem _ z))
  have C12 : hC g12 900007 = o + 1 := (H12 900007 (by decide)).trans hc
  have e : g12 = (alR 900007 alRiver h) := by rw [hg12, hg11, hg10, hg9, hg8, hg7, hg6, hg5, hg4, hg3, hg2, hg1]; rfl
  have ez : hZ g12 900007 0 = true := by rw [e]; exact alR_Z.mpr (Or.inr ⟨rfl, by decide⟩)
  rw [if_pos ⟨ez, C12.symm⟩, e, c_fill (N := 100) rfl rfl (by decide), clV_ok]
abbrev alDemand : List (Nat × Nat) := [(300000072, 0), (302000012, 2), (303300036, 3), (304300036, 4)]
theorem al_Demand {h : MH} {o : Nat} (hc : hC h 900002 = o + 1) (hr : ∀ s, s ∈ alDemand.map Prod.fst → hC h s = o) : E L scr (d + 2) 20 [vU 900002 o] h = some (none, alR 900002 alDemand h) := by
  refine r_Demand_init _ _ (Sm.ret ?_)
  rw [t_Demand_init_0]
  rw [al_if (s := 300000072) (c := 900002) (by decide) (by decide) hc (hr 300000072 (by decide))]
  obtain ⟨g1, hg1⟩ : ∃ g1, g1 = alS 900002 (300000072, 0) h := ⟨_, rfl⟩
  rw [show setZ (newA h 300000072 (lenOf 300000072)) 900002 0 = g1 from hg1.symm]
  have H1 : ∀ a, a ∉ [300000072] → hC g1 a = hC h a := fun a ha => by rw [hg1, alS_C]; exact if_neg (fun z => ha (by rw [z]; exact List.mem_cons_self))
  have C1 : hC g1 900002 = o + 1 := (H1 900002 (by decide)).trans hc
  rw [al_if (s := 302000012) (c := 900002) (by decide) (by decide) C1 ((H1 302000012 (by decide)).trans (hr 302000012 (by decide)))]
  obtain ⟨g2, hg2⟩ : ∃ g2, g2 = alS 900002 (302000012, 2) g1 := ⟨_, rfl⟩
  rw [show setZ (newA g1 302000012 (lenOf 302000012)) 900002 2 = g2 from hg2.symm]
  have H2 : ∀ a, a ∉ [302000012, 300000072] → hC g2 a = hC h a := fun a ha => by rw [hg2, alS_C, if_neg (fun z => ha (by rw [z]; exact List.mem_cons_self))]; exact H1 a (fun z => ha (List.mem_cons_of_mem _ z))
  have C2 : hC g2 900002 = o + 1 := (H2 900002 (by decide)).trans hc
  rw [al_if (s := 303300036) (c := 900002) (by decide) (by decide) C2 ((H2 303300036 (by decide)).trans (hr 303300036 (by decide)))]
  obtain ⟨g3, hg3⟩ : ∃ g3, g3 = alS 900002 (303300036, 3) g2 := ⟨_, rfl⟩
  rw [show setZ (newA g2 303300036 (lenOf 303300036)) 900002 3 = g3 from hg3.symm]
  have H3 : ∀ a, a ∉ [303300036, 302000012, 300000072] → hC g3 a = hC h a := fun a ha => by rw [hg3, alS_C, if_neg (fun z => ha (by rw [z]; exact List.mem_cons_self))]; exact H2 a (fun z => ha (List.mem_cons_of_mem _ z))
  have C3 : hC g3 900002 = o + 1 := (H3 900002 (by decide)).trans hc
  rw [al_if (s := 304300036) (c := 900002) (by decide) (by decide) C3 ((H3 304300036 (by decide)).trans (hr 304300036 (by decide)))]
  obtain ⟨g4, hg4⟩ : ∃ g4, g4 = alS 900002 (304300036, 4) g3 := ⟨_, rfl⟩
  rw [show setZ (newA g3 304300036 (lenOf 304300036)) 900002 4 = g4 from hg4.symm]
  have H4 : ∀ a, a ∉ [304300036, 303300036, 302000012, 300000072] → hC g4 a = hC h a := fun a ha => by rw [hg4, alS_C, if_neg (fun z => ha (by rw [z]; exact List.mem_cons_self))]; exact H3 a (fun z => ha (List.mem_cons_of_mem _ z))
  have C4 : hC g4 900002 = o + 1 := (H4 900002 (by decide)).trans hc
  have e : g4 = (alR 900002 alDemand h) := by rw [hg4, hg3, hg2, hg1]; rfl
  rw [e]
abbrev alRoller : List (Nat × Nat) := [(901000007, 1), (902000007, 2), (904000007, 4), (905000007, 5)]
theorem al_Roller {h : MH} {o : Nat} (hc : hC h 900008 = o + 1) (hr : ∀ s, s ∈ alRoller.map Prod.fst → hC h s = o) : E L scr (d + 2) 100 [vU 900008 o] h = some (none, alR 900008 alRoller h) := by
  refine r_Roller_init _ _ (Sm.ret ?_)
  rw [t_Roller_init_0]
  rw [al_if (s := 901000007) (c := 900008) (by decide) (by decide) hc (hr 901000007 (by decide))]
  obtain ⟨g1, hg1⟩ : ∃ g1, g1 = alS 900008 (901000007, 1) h := ⟨_, rfl⟩
  rw [show setZ (newA h 901000007 (lenOf 901000007)) 900008 1 = g1 from hg1.symm]
  have H1 : ∀ a, a ∉ [901000007] → hC g1 a = hC h a := fun a ha => by rw [hg1, alS_C]; exact if_neg (fun z => ha (by rw [z]; exact List.mem_cons_self))
  have C1 : hC g1 900008 = o + 1 := (H1 900008 (by decide)).trans hc
  rw [al_if (s := 902000007) (c := 900008) (by decide) (by decide) C1 ((H1 902000007 (by decide)).trans (hr 902000007 (by decide)))]
  obtain ⟨g2, hg2⟩ : ∃ g2, g2 = alS 900008 (902000007, 2) g1 := ⟨_, rfl⟩
  rw [show setZ (newA g1 902000007 (lenOf 902000007)) 900008 2 = g2 from hg2.symm]
  have H2 : ∀ a, a ∉ [902000007, 901000007] → hC g2 a = hC h a := fun a ha => by rw [hg2, alS_C, if_neg (fun z => ha (by rw [z]; exact List.mem_cons_self))]; exact H1 a (fun z => ha (List.mem_cons_of_mem _ z))
  have C2 : hC g2 900008 = o + 1 := (H2 900008 (by decide)).trans hc
  rw [al_if (s := 904000007) (c := 900008) (by decide) (by decide) C2 ((H2 904000007 (by decide)).trans (hr 904000007 (by decide)))]
  obtain ⟨g3, hg3⟩ : ∃ g3, g3 = alS 900008 (904000007, 4) g2 := ⟨_, rfl⟩
  rw [show setZ (newA g2 904000007 (lenOf 904000007)) 900008 4 = g3 from hg3.symm]
  have H3 : ∀ a, a ∉ [904000007, 902000007, 901000007] → hC g3 a = hC h a := fun a ha => by rw [hg3, alS_C, if_neg (fun z => ha (by rw [z]; exact List.mem_cons_self))]; exact H2 a (fun z => ha (List.mem_cons_of_mem _ z))
  have C3 : hC g3 900008 = o + 1 := (H3 900008 (by decide)).trans hc
  rw [al_if (s := 905000007) (c := 900008) (by decide) (by decide) C3 ((H3 905000007 (by decide)).trans (hr 905000007 (by decide)))]
  obtain ⟨g4, hg4⟩ : ∃ g4, g4 = alS 900008 (905000007, 5) g3 := ⟨_, rfl⟩
  rw [show setZ (newA g3 905000007 (lenOf 905000007)) 900008 5 = g4 from hg4.symm]
  have H4 : ∀ a, a ∉ [905000007, 904000007, 902000007, 901000007] → hC g4 a = hC h a := fun a ha => by rw [hg4, alS_C, if_neg (fun z => ha (by rw [z]; exact List.mem_cons_self))]; exact H3 a (fun z => ha (List.mem_cons_of_mem _ z))
  have C4 : hC g4 900008 = o + 1 := (H4 900008 (by decide)).trans hc
  have e : g4 = (alR 900008 alRoller h) := by rw [hg4, hg3, hg2, hg1]; rfl
  rw [e]
abbrev alGuides : List (Nat × Nat) := [(501000008, 1), (502000008, 2), (504000008, 4), (505000008, 5), (506000008, 6)]
theorem al_Guides {h : MH} {o : Nat} (hc : hC h 900004 = o + 1) (hr : ∀ s, s ∈ alGuides.map Prod.fst → hC h s = o) : E L scr (d + 2) 42 [vU 900004 o] h = some (none, alR 900004 alGuides h) := by
  refine r_Guides_init _ _ (Sm.ret ?_)
  rw [t_Guides_init_0]
  rw [al_if (s := 501000008) (c := 900004) (by decide) (by decide) hc (hr 501000008 (by decide))]
  obtain ⟨g1, hg1⟩ : ∃ g1, g1 = alS 900004 (501000008, 1) h := ⟨_, rfl⟩
  rw [show setZ (newA h 501000008 (lenOf 501000008)) 900004 1 = g1 from hg1.symm]
  have H1 : ∀ a, a ∉ [501000008] → hC g1 a = hC h a := fun a ha => by rw [hg1, alS_C]; exact if_neg (fun z => ha (by rw [z]; exact List.mem_cons_self))
  have C1 : hC g1 900004 = o + 1 := (H1 900004 (by decide)).trans hc
  rw [al_if (s := 502000008) (c := 900004) (by decide) (by decide) C1 ((H1 502000008 (by decide)).trans (hr 502000008 (by decide)))]
  obtain ⟨g2, hg2⟩ : ∃ g2, g2 = alS 900004 (502000008, 2) g1 := ⟨_, rfl⟩
  rw [show setZ (newA g1 502000008 (lenOf 502000008)) 900004 2 = g2 from hg2.symm]
  have H2 : ∀ a, a ∉ [502000008, 501000008] → hC g2 a = hC h a := fun a ha => by rw [hg2, alS_C, if_neg (fun z => ha (by rw [z]; exact List.mem_cons_self))]; exact H1 a (fun z => ha (List.mem_cons_of_mem _ z))
  have C2 : hC g2 900004 = o + 1 := (H2 900004 (by decide)).trans hc
  rw [al_if (s := 504000008) (c := 900004) (by decide) (by decide) C2 ((H2 504000008 (by decide)).trans (hr 504000008 (by decide)))]
  obtain ⟨g3, hg3⟩ : ∃ g3, g3 = alS 900004 (504000008, 4) g2 := ⟨_, rfl⟩
  rw [show setZ (newA g2 504000008 (lenOf 504000008)) 900004 4 = g3 from hg3.symm]
  have H3 : ∀ a, a ∉ [504000008, 502000008, 501000008] → hC g3 a = hC h a := fun a ha => by rw [hg3, alS_C, if_neg (fun z => ha (by rw [z]; exact List.mem_cons_self))]; exact H2 a (fun z => ha (List.mem_cons_of_mem _ z))
  have C3 : hC g3 900004 = o + 1 := (H3 900004 (by decide)).trans hc
  rw [al_if (s := 505000008) (c := 900004) (by decide) (by decide) C3 ((H3 505000008 (by decide)).trans (hr 505000008 (by decide)))]
  obtain ⟨g4, hg4⟩ : ∃ g4, g4 = alS 900004 (505000008, 5) g3 := ⟨_, rfl⟩
  rw [show setZ (newA g3 505000008 (lenOf 505000008)) 900004 5 = g4 from hg4.symm]
  have H4 : ∀ a, a ∉ [505000008, 504000008, 502000008, 501000008] → hC g4 a = hC h a := fun a ha => by rw [hg4, alS_C, if_neg (fun z => ha (by rw [z]; exact List.mem_cons_self))]; exact H3 a (fun z => ha (List.mem_cons_of_mem _ z))
  have C4 : hC g4 900004 = o + 1 := (H4 900004 (by decide)).trans hc
  rw [al_if (s := 506000008) (c := 900004) (by decide) (by decide) C4 ((H4 506000008 (by decide)).trans (hr 506000008 (by decide)))]
  obtain ⟨g5, hg5⟩ : ∃ g5, g5 = alS 900004 (506000008, 6) g4 := ⟨_, rfl⟩
  rw [show setZ (newA g4 506000008 (lenOf 506000008)) 900004 6 = g5 from hg5.symm]
  have H5 : ∀ a, a ∉ [506000008, 505000008, 504000008, 502000008, 501000008] → hC g5 a = hC h a := fun a ha => by rw [hg5, alS_C, if_neg (fun z => ha (by rw [z]; exact List.mem_cons_self))]; exact H4 a (fun z => ha (List.mem_cons_of_mem _ z))
  have C5 : hC g5 900004 = o + 1 := (H5 900004 (by decide)).trans hc
  have e : g5 = (alR 900004 alGuides h) := by rw [hg5, hg4, hg3, hg2, hg1]; rfl
  rw [e]
abbrev alDock : List (Nat × Nat) := [(400000020, 0), (401000020, 1), (402000020, 2), (403000020, 3), (404000010, 4), (405000010, 5)]
theorem al_Dock {h : MH} {o : Nat} (hc : hC h 900003 = o + 1) (hr : ∀ s, s ∈ alDock.map Prod.fst → hC h s = o) : E L scr (d + 2) 31 [vU 900003 o] h = some (none, alR 900003 alDock h) := by
  refine r_Dock_init _ _ (Sm.ret ?_)
  rw [t_Dock_init_0]
  rw [al_if (s := 400000020) (c := 900003) (by decide) (by decide) hc (hr 400000020 (by decide))]
  obtain ⟨g1, hg1⟩ : ∃ g1, g1 = alS 900003 (400000020, 0) h := ⟨_, rfl⟩
  rw [show setZ (newA h 400000020 (lenOf 400000020)) 900003 0 = g1 from hg1.symm]
  have H1 : ∀ a, a ∉ [400000020] → hC g1 a = hC h a := fun a ha => by rw [hg1, alS_C]; exact if_neg (fun z => ha (by rw [z]; exact List.mem_cons_self))
  have C1 : hC g1 900003 = o + 1 := (H1 900003 (by decide)).trans hc
  rw [al_if (s := 401000020) (c := 900003) (by decide) (by decide) C1 ((H1 401000020 (by decide)).trans (hr 401000020 (by decide)))]
  obtain ⟨g2, hg2⟩ : ∃ g2, g2 = alS 900003 (401000020, 1) g1 := ⟨_, rfl⟩
  rw [show setZ (newA g1 401000020 (lenOf 401000020)) 900003 1 = g2 from hg2.symm]
  have H2 : ∀ a, a ∉ [401000020, 400000020] → hC g2 a = hC h a := fun a ha => by rw [hg2, alS_C, if_neg (fun z => ha (by rw [z]; exact List.mem_cons_self))]; exact H1 a (fun z => ha (List.mem_cons_of_mem _ z))
  have C2 : hC g2 900003 = o + 1 := (H2 900003 (by decide)).trans hc
  rw [al_if (s := 402000020) (c := 900003) (by decide) (by decide) C2 ((H2 402000020 (by decide)).trans (hr 402000020 (by decide)))]
  obtain ⟨g3, hg3⟩ : ∃ g3, g3 = alS 900003 (402000020, 2) g2 := ⟨_, rfl⟩
  rw [show setZ (newA g2 402000020 (lenOf 402000020)) 900003 2 = g3 from hg3.symm]
  have H3 : ∀ a, a ∉ [402000020, 401000020, 400000020] → hC g3 a = hC h a := fun a ha => by rw [hg3, alS_C, if_neg (fun z => ha (by rw [z]; exact List.mem_cons_self))]; exact H2 a (fun z => ha (List.mem_cons_of_mem _ z))
  have C3 : hC g3 900003 = o + 1 := (H3 900003 (by decide)).trans hc
  rw [al_if (s := 403000020) (c := 900003) (by decide) (by decide) C3 ((H3 403000020 (by decide)).trans (hr 403000020 (by decide)))]
  obtain ⟨g4, hg4⟩ : ∃ g4, g4 = alS 900003 (403000020, 3) g3 := ⟨_, rfl⟩
  rw [show setZ (newA g3 403000020 (lenOf 403000020)) 900003 3 = g4 from hg4.symm]
  have H4 : ∀ a, a ∉ [403000020, 402000020, 401000020, 400000020] → hC g4 a = hC h a := fun a ha => by rw [hg4, alS_C, if_neg (fun z => ha (by rw [z]; exact List.mem_cons_self))]; exact H3 a (fun z => ha (List.mem_cons_of_mem _ z))
  have C4 : hC g4 900003 = o + 1 := (H4 900003 (by decide)).trans hc
  rw [al_if (s := 404000010) (c := 900003) (by decide) (by decide) C4 ((H4 404000010 (by decide)).trans (hr 404000010 (by decide)))]
  obtain ⟨g5, hg5⟩ : ∃ g5, g5 = alS 900003 (404000010, 4) g4 := ⟨_, rfl⟩
  rw [show setZ (newA g4 404000010 (lenOf 404000010)) 900003 4 = g5 from hg5.symm]
  have H5 : ∀ a, a ∉ [404000010, 403000020, 402000020, 401000020, 400000020] → hC g5 a = hC h a := fun a ha => by rw [hg5, alS_C, if_neg (fun z => ha (by rw [z]; exact List.mem_cons_self))]; exact H4 a (fun z => ha (List.mem_cons_of_mem _ z))
  have C5 : hC g5 900003 = o + 1 := (H5 900003 (by decide)).trans hc
  rw [al_if (s := 405000010) (c := 900003) (by decide) (by decide) C5 ((H5 405000010 (by decide)).trans (hr 405000010 (by decide)))]
  obtain ⟨g6, hg6⟩ : ∃ g6, g6 = alS 900003 (405000010, 5) g5 := ⟨_, rfl⟩
  rw [show setZ (newA g5 405000010 (lenOf 405000010)) 900003 5 = g6 from hg6.symm]
  have H6 : ∀ a, a ∉ [405000010, 404000010, 403000020, 402000020, 401000020, 400000020] → hC g6 a = hC h a := fun a ha => by rw [hg6, alS_C, if_neg (fun z => ha (by rw [z]; exact List.mem_cons_self))]; exact H5 a (fun z => ha (List.mem_cons_of_mem _ z))
  have C6 : hC g6 900003 = o + 1 := (H6 900003 (by decide)).trans hc
  have e : g6 = (alR 900003 alDock h) := by rw [hg6, hg5, hg4, hg3, hg2, hg1]; rfl
  rw [e]
abbrev alReader : List (Nat × Nat) := [(700000900, 0), (702000901, 2), (703000901, 3)]
theorem al_Reader {h : MH} {o : Nat} (hc : hC h 900006 = o + 1) (hr : ∀ s, s ∈ alReader.map Prod.fst → hC h s = o) : E L scr (d + 2) 63 [vU 900006 o] h = some (none, alR 900006 alReader h) := by
  refine r_Reader_init _ _ (Sm.ret ?_)
  rw [t_Reader_init_0]
  rw [al_if (s := 700000900) (c := 900006) (by decide) (by decide) hc (hr 700000900 (by decide))]
  obtain ⟨g1, hg1⟩ : ∃ g1, g1 = alS 900006 (700000900, 0) h := ⟨_, rfl⟩
  rw [show setZ (newA h 700000900 (lenOf 700000900)) 900006 0 = g1 from hg1.symm]
  have H1 : ∀ a, a ∉ [700000900] → hC g1 a = hC h a := fun a ha => by rw [hg1, alS_C]; exact if_neg (fun z => ha (by rw [z]; exact List.mem_cons_self))
  have C1 : hC g1 900006 = o + 1 := (H1 900006 (by decide)).trans hc
  rw [al_if (s := 702000901) (c := 900006) (by decide) (by decide) C1 ((H1 702000901 (by decide)).trans (hr 702000901 (by decide)))]
  obtain ⟨g2, hg2⟩ : ∃ g2, g2 = alS 900006 (702000901, 2) g1 := ⟨_, rfl⟩
  rw [show setZ (newA g1 702000901 (lenOf 702000901)) 900006 2 = g2 from hg2.symm]
  have H2 : ∀ a, a ∉ [702000901, 700000900] → hC g2 a = hC h a := fun a ha => by rw [hg2, alS_C, if_neg (fun z => ha (by rw [z]; exact List.mem_cons_self))]; exact H1 a (fun z => ha (List.mem_cons_of_mem _ z))
  have C2 : hC g2 900006 = o + 1 := (H2 900006 (by decide)).trans hc
  rw [al_if (s := 703000901) (c := 900006) (by decide) (by decide) C2 ((H2 703000901 (by decide)).trans (hr 703000901 (by decide)))]
  obtain ⟨g3, hg3⟩ : ∃ g3, g3 = alS 900006 (703000901, 3) g2 := ⟨_, rfl⟩
  rw [show setZ (newA g2 703000901 (lenOf 703000901)) 900006 3 = g3 from hg3.symm]
  have H3 : ∀ a, a ∉ [703000901, 702000901, 700000900] → hC g3 a = hC h a := fun a ha => by rw [hg3, alS_C, if_neg (fun z => ha (by rw [z]; exact List.mem_cons_self))]; exact H2 a (fun z => ha (List.mem_cons_of_mem _ z))
  have C3 : hC g3 900006 = o + 1 := (H3 900006 (by decide)).trans hc
  have e : g3 = (alR 900006 alReader h) := by rw [hg3, hg2, hg1]; rfl
  rw [e]
abbrev alLaw : List (Nat × Nat) := [(601000004, 1), (602000004, 2), (603000004, 3), (604000040, 4), (611000040, 11), (612000040, 12), (613000040, 13), (614000040, 14), (616000300, 16)]
abbrev alLaw1 : List (Nat × Nat) := [(601000004, 1), (602000004, 2), (603000004, 3), (604000040, 4)]
abbrev alLaw2 : List (Nat × Nat) := [(611000040, 11), (612000040, 12), (613000040, 13), (614000040, 14), (616000300, 16)]
theorem al_Law {h : MH} {o : Nat} (hc : hC h 900005 = o + 1) (hr : ∀ s, s ∈ alLaw.map Prod.fst → hC h s = o) : E L scr (d + 2) 52 [vU 900005 o] h = some (none, withR (alR 900005 alLaw2 (sI (alR 900005 alLaw1 h) 606 o 0 60)) [(602000004, o, filF (hI (alR 900005 alLaw2 (sI (alR 900005 alLaw1 h) 606 o 0 60)) 602000004 o) 60 4)]) := by
  refine r_Law_init _ _ (Sm.ret ?_)
  rw [t_Law_init_0]
  rw [al_if (s := 601000004) (c := 900005) (by decide) (by decide) hc (hr 601000004 (by decide))]
  obtain ⟨g1, hg1⟩ : ∃ g1, g1 = alS 900005 (601000004, 1) h := ⟨_, rfl⟩
  rw [show setZ (newA h 601000004 (lenOf 601000004)) 900005 1 = g1 from hg1.symm]
  have H1 : ∀ a, a ∉ [601000004] → hC g1 a = hC h a := fun a ha => by rw [hg1, alS_C]; exact if_neg (fun z => ha (by rw [z]; exact List.mem_cons_self))
  have C1 : hC g1 900005 = o + 1 := (H1 900005 (by decide)).trans hc
  rw [al_if (s := 602000004) (c := 900005) (by decide) (by decide) C1 ((H1 602000004 (by decide)).trans (hr 602000004 (by decide)))]
  obtain ⟨g2, hg2⟩ : ∃ g2, g2 = alS 900005 (602000004, 2) g1 := ⟨_, rfl⟩
  rw [show setZ (newA g1 602000004 (lenOf 602000004)) 900005 2 = g2 from hg2.symm]
  have H2 : ∀ a, a ∉ [602000004, 601000004] → hC g2 a = hC h a := fun a ha => by rw [hg2, alS_C, if_neg (fun z => ha (by rw [z]; exact List.mem_cons_self))]; exact H1 a (fun z => ha (List.mem_cons_of_mem _ z))
  have C2 : hC g2 900005 = o + 1 := (H2 900005 (by decide)).trans hc
  rw [al_if (s := 603000004) (c := 900005) (by decide) (by decide) C2 ((H2 603000004 (by decide)).trans (hr 603000004 (by decide)))]
  obtain ⟨g3, hg3⟩ : ∃ g3, g3 = alS 900005 (603000004, 3) g2 := ⟨_, rfl⟩
  rw [show setZ (newA g2 603000004 (lenOf 603000004)) 900005 3 = g3 from hg3.symm]
  have H3 : ∀ a, a ∉ [603000004, 602000004, 601000004] → hC g3 a = hC h a := fun a ha => by rw [hg3, alS_C, if_neg (fun z => ha (by rw [z]; exact List.mem_cons_self))]; exact H2 a (fun z => ha (List.mem_cons_of_mem _ z))
  have C3 : hC g3 900005 = o + 1 := (H3 900005 (by decide)).trans hc
  rw [al_if (s := 604000040) (c := 900005) (by decide) (by decide) C3 ((H3 604000040 (by decide)).trans (hr 604000040 (by decide)))]
  obtain ⟨g4, hg4⟩ : ∃ g4, g4 = alS 900005 (604000040, 4) g3 := ⟨_, rfl⟩
  rw [show setZ (newA g3 604000040 (lenOf 604000040)) 900005 4 = g4 from hg4.symm]
  have H4 : ∀ a, a ∉ [604000040, 603000004, 602000004, 601000004] → hC g4 a = hC h a := fun a ha => by rw [hg4, alS_C, if_neg (fun z => ha (by rw [z]; exact List.mem_cons_self))]; exact H3 a (fun z => ha (List.mem_cons_of_mem _ z))
  have C4 : hC g4 900005 = o + 1 := (H4 900005 (by decide)).trans hc
  obtain ⟨gx, hgx⟩ : ∃ gx, gx = sI g4 606 o 0 60 := ⟨_, rfl⟩
  rw [show sI g4 606 o 0 60 = gx from hgx.symm]
  replace H4 : ∀ a, a ∉ [604000040, 603000004, 602000004, 601000004] → hC gx a = hC h a := by rw [hgx]; exact H4
  replace C4 : hC gx 900005 = o + 1 := by rw [hgx]; exact C4
  rw [al_if (s := 611000040) (c := 900005) (by decide) (by decide) C4 ((H4 611000040 (by decide)).trans (hr 611000040 (by decide)))]
  obtain ⟨g5, hg5⟩ : ∃ g5, g5 = alS 900005 (611000040, 11) gx := ⟨_, rfl⟩
  rw [show setZ (newA gx 611000040 (lenOf 611000040)) 900005 11 = g5 from hg5.symm]
  have H5 : ∀ a, a ∉ [611000040, 604000040, 603000004, 602000004, 601000004] → hC g5 a = hC h a := fun a ha => by rw [hg5, alS_C, if_neg (fun z => ha (by rw [z]; exact List.mem_cons_self))]; exact H4 a (fun z => ha (List.mem_cons_of_mem _ z))
  have C5 : hC g5 900005 = o + 1 := (H5 900005 (by decide)).trans hc
  rw [al_if (s := 612000040) (c := 900005) (by decide) (by decide) C5 ((H5 612000040 (by decide)).trans (hr 612000040 (by decide)))]
  obtain ⟨g6, hg6⟩ : ∃ g6, g6 = alS 900005 (612000040, 12) g5 := ⟨_, rfl⟩
  rw [show setZ (newA g5 612000040 (lenOf 612000040)) 900005 12 = g6 from hg6.symm]
  have H6 : ∀ a, a ∉ [612000040, 611000040, 604000040, 603000004, 602000004, 601000004] → hC g6 a = hC h a := fun a ha => by rw [hg6, alS_C, if_neg (fun z => ha (by rw [z]; exact List.mem_cons_self))]; exact H5 a (fun z => ha (List.mem_cons_of_mem _ z))
  have C6 : hC g6 900005 = o + 1 := (H6 900005 (by decide)).trans hc
  rw [al_if (s := 613000040) (c := 900005) (by decide) (by decide) C6 ((H6 613000040 (by decide)).trans (hr 613000040 (by decide)))]
  obtain ⟨g7, hg7⟩ : ∃ g7, g7 = alS 900005 (613000040, 13) g6 := ⟨_, rfl⟩
  rw [show setZ (newA g6 613000040 (lenOf 613000040)) 900005 13 = g7 from hg7.symm]
  have H7 : ∀ a, a ∉ [613000040, 612000040, 611000040, 604000040, 603000004, 602000004, 601000004] → hC g7 a = hC h a := fun a ha => by rw [hg7, alS_C, if_neg (fun z => ha (by rw [z]; exact List.mem_cons_self))]; exact H6 a (fun z => ha (List.mem_cons_of_mem _ z))
  have C7 : hC g7 900005 = o + 1 := (H7 900005 (by decide)).trans hc
  rw [al_if (s := 614000040) (c := 900005) (by decide) (by decide) C7 ((H7 614000040 (by decide)).trans (hr 614000040 (by decide)))]
  obtain ⟨g8, hg8⟩ : ∃ g8, g8 = alS 900005 (614000040, 14) g7 := ⟨_, rfl⟩
  rw [show setZ (newA g7 614000040 (lenOf 614000040)) 900005 14 = g8 from hg8.symm]
  have H8 : ∀ a, a ∉ [614000040, 613000040, 612000040, 611000040, 604000040, 603000004, 602000004, 601000004] → hC g8 a = hC h a := fun a ha => by rw [hg8, alS_C, if_neg (fun z => ha (by rw [z]; exact List.mem_cons_self))]; exact H7 a (fun z => ha (List.mem_cons_of_mem _ z))
  have C8 : hC g8 900005 = o + 1 := (H8 900005 (by decide)).trans hc
  rw [al_if (s := 616000300) (c := 900005) (by decide) (by decide) C8 ((H8 616000300 (by decide)).trans (hr 616000300 (by decide)))]
  obtain ⟨g9, hg9⟩ : ∃ g9, g9 = alS 900005 (616000300, 16) g8 := ⟨_, rfl⟩
  rw [show setZ (newA g8 616000300 (lenOf 616000300)) 900005 16 = g9 from hg9.symm]
  have H9 : ∀ a, a ∉ [616000300, 614000040, 613000040, 612000040, 611000040, 604000040, 603000004, 602000004, 601000004] → hC g9 a = hC h a := fun a ha => by rw [hg9, alS_C, if_neg (fun z => ha (by rw [z]; exact List.mem_cons_self))]; exact H8 a (fun z => ha (List.mem_cons_of_mem _ z))
  have C9 : hC g9 900005 = o + 1 := (H9 900005 (by decide)).trans hc
  have e : g9 = (alR 900005 alLaw2 (sI (alR 900005 alLaw1 h) 606 o 0 60)) := by rw [hg9, hg8, hg7, hg6, hg5, hgx, hg4, hg3, hg2, hg1]; rfl
  have ez : hZ g9 900005 2 = true := by rw [e]; exact alR_Z.mpr (Or.inl (alR_Z.mpr (Or.inr ⟨rfl, by decide⟩)))
  rw [if_pos ⟨ez, C9.symm⟩, e, c_fill (N := 4) rfl rfl (by decide), clV_ok]
end Alloc

/-! instructions, on (printed by wip/whole/emitmt.py) -/
set_option maxRecDepth 100000 in
set_option maxHeartbeats 4000000 in
theorem k_Demand_commonDivisor : ckM e_Demand_commonDivisor = true := by decide +kernel
set_option maxRecDepth 100000 in
set_option maxHeartbeats 4000000 in
theorem k_Demand_meanCoin : ckM e_Demand_meanCoin = true := by decide +kernel
set_option maxRecDepth 100000 in
set_option maxHeartbeats 4000000 in
theorem k_Demand_addLoyal : ckM e_Demand_addLoyal = true := by decide +kernel
set_option maxRecDepth 100000 in
set_option maxHeartbeats 4000000 in
theorem k_Demand_staying : ckM e_Demand_staying = true := by decide +kernel
set_option maxRecDepth 100000 in
set_option maxHeartbeats 4000000 in
theorem k_Demand_bestPrice : ckM e_Demand_bestPrice = true := by decide +kernel
set_option maxRecDepth 100000 in
set_option maxHeartbeats 4000000 in
theorem k_Dock_init : ckM e_Dock_init = true := by decide +kernel
set_option maxRecDepth 100000 in
set_option maxHeartbeats 4000000 in
theorem k_Dock_take : ckM e_Dock_take = true := by decide +kernel
set_option maxRecDepth 100000 in
set_option maxHeartbeats 4000000 in
theorem k_Dock_setPaint : ckM e_Dock_setPaint = true := by decide +kernel
set_option maxRecDepth 100000 in
set_option maxHeartbeats 4000000 in
theorem k_Dock_listDry : ckM e_Dock_listDry = true := by decide +kernel
set_option maxRecDepth 100000 in
set_option maxHeartbeats 4000000 in
theorem k_Dock_orderDry : ckM e_Dock_orderDry = true := by decide +kernel
set_option maxRecDepth 100000 in
set_option maxHeartbeats 4000000 in
theorem k_Dock_isSooner : ckM e_Dock_isSooner = true := by decide +kernel
set_option maxRecDepth 100000 in
set_option maxHeartbeats 4000000 in
theorem k_Dock_solvePaint : ckM e_Dock_solvePaint = true := by decide +kernel
set_option maxRecDepth 100000 in
set_option maxHeartbeats 4000000 in
theorem k_Dock_coinLost : ckM e_Dock_coinLost = true := by decide +kernel
set_option maxRecDepth 100000 in
set_option maxHeartbeats 4000000 in
theorem k_Dock_solveRenewal : ckM e_Dock_solveRenewal = true := by decide +kernel
set_option maxRecDepth 100000 in
set_option maxHeartbeats 4000000 in
theorem k_Dock_saving : ckM e_Dock_saving = true := by decide +kernel
set_option maxRecDepth 100000 in
set_option maxHeartbeats 4000000 in
theorem k_Dock_bestSet : ckM e_Dock_bestSet = true := by decide +kernel
set_option maxRecDepth 100000 in
set_option maxHeartbeats 4000000 in
theorem k_Guides_init : ckM e_Guides_init = true := by decide +kernel
set_option maxRecDepth 100000 in
set_option maxHeartbeats 4000000 in
theorem k_Guides_take : ckM e_Guides_take = true := by decide +kernel
set_option maxRecDepth 100000 in
set_option maxHeartbeats 4000000 in
theorem k_Guides_addGuide : ckM e_Guides_addGuide = true := by decide +kernel
set_option maxRecDepth 100000 in
set_option maxHeartbeats 4000000 in
theorem k_Guides_addParty : ckM e_Guides_addParty = true := by decide +kernel
set_option maxRecDepth 100000 in
set_option maxHeartbeats 4000000 in
theorem k_Guides_canGuide : ckM e_Guides_canGuide = true := by decide +kernel
set_option maxRecDepth 100000 in
theorem kb_Guides_solve_0 : ckS "PuntYard$Guides" false false 5 prog_6_method_6_code mtb B_Guides_solve (Option.none : Option Jvm.ClassFile.FieldType) (blkI B_Guides_solve 0) 0 1 = true := by decide +kernel
set_option maxRecDepth 100000 in
theorem kb_Guides_solve_1 : ckS "PuntYard$Guides" false false 5 prog_6_method_6_code mtb B_Guides_solve (Option.none : Option Jvm.ClassFile.FieldType) (blkI B_Guides_solve 1) 19 2 = true := by decide +kernel
set_option maxRecDepth 100000 in
theorem kb_Guides_solve_2 : ckS "PuntYard$Guides" false false 5 prog_6_method_6_code mtb B_Guides_solve (Option.none : Option Jvm.ClassFile.FieldType) (blkI B_Guides_solve 2) 38 3 = true := by decide +kernel
set_option maxRecDepth 100000 in
theorem kb_Guides_solve_3 : ckS "PuntYard$Guides" false false 5 prog_6_method_6_code mtb B_Guides_solve (Option.none : Option Jvm.ClassFile.FieldType) (blkI B_Guides_solve 3) 45 4 = true := by decide +kernel
set_option maxRecDepth 100000 in
theorem kb_Guides_solve_4 : ckS "PuntYard$Guides" false false 5 prog_6_method_6_code mtb B_Guides_solve (Option.none : Option Jvm.ClassFile.FieldType) (blkI B_Guides_solve 4) 75 5 = true := by decide +kernel
set_option maxRecDepth 100000 in
theorem kb_Guides_solve_5 : ckS "PuntYard$Guides" false false 5 prog_6_method_6_code mtb B_Guides_solve (Option.none : Option Jvm.ClassFile.FieldType) (blkI B_Guides_solve 5) 81 6 = true := by decide +kernel
set_option maxRecDepth 100000 in
theorem kb_Guides_solve_6 : ckS "PuntYard$Guides" false false 5 prog_6_method_6_code mtb B_Guides_solve (Option.none : Option Jvm.ClassFile.FieldType) (blkI B_Guides_solve 6) 86 7 = true := by decide +kernel
set_option maxRecDepth 100000 in
theorem kb_Guides_solve_7 : ckS "PuntYard$Guides" false false 5 prog_6_method_6_code mtb B_Guides_solve (Option.none : Option Jvm.ClassFile.FieldType) (blkI B_Guides_solve 7) 159 8 = true := by decide +kernel
set_option maxRecDepth 100000 in
theorem kb_Guides_solve_8 : ckS "PuntYard$Guides" false false 5 prog_6_method_6_code mtb B_Guides_solve (Option.none : Option Jvm.ClassFile.FieldType) (blkI B_Guides_solve 8) 165 9 = true := by decide +kernel
set_option maxRecDepth 100000 in
theorem k_Guides_solve : ckM e_Guides_solve = true := by
  have h : ∀ b ∈ B_Guides_solve, ckS "PuntYard$Guides" false false 5 prog_6_method_6_code mtb B_Guides_solve (Option.none : Option Jvm.ClassFile.FieldType) b.2.1 b.1 b.2.2 = true := List.forall_mem_cons.mpr ⟨kb_Guides_solve_0, List.forall_mem_cons.mpr ⟨kb_Guides_solve_1, List.forall_mem_cons.mpr ⟨kb_Guides_solve_2, List.forall_mem_cons.mpr ⟨kb_Guides_solve_3, List.forall_mem_cons.mpr ⟨kb_Guides_solve_4, List.forall_mem_cons.mpr ⟨kb_Guides_solve_5, List.forall_mem_cons.mpr ⟨kb_Guides_solve_6, List.forall_mem_cons.mpr ⟨kb_Guides_solve_7, List.forall_mem_cons.mpr ⟨kb_Guides_solve_8, fun _ h => absurd h List.not_mem_nil⟩⟩⟩⟩⟩⟩⟩⟩⟩
  unfold ckM
  rw [Bool.and_eq_true, Bool.and_eq_true]
  exact ⟨by decide +kernel, rfl, List.all_eq_true.mpr h⟩
set_option maxRecDepth 100000 in
set_option maxHeartbeats 4000000 in
theorem k_Guides_worth : ckM e_Guides_worth = true := by decide +kernel
set_option maxRecDepth 100000 in
set_option maxHeartbeats 4000000 in
theorem k_Guides_choose : ckM e_Guides_choose = true := by decide +kernel

/-! instructions, on (printed by wip/whole/emitmt.py) -/
set_option maxRecDepth 100000 in
set_option maxHeartbeats 4000000 in
theorem k_M_takesSign : ckM e_M_takesSign = true := by decide +kernel
set_option maxRecDepth 100000 in
set_option maxHeartbeats 4000000 in
theorem k_M_takesNumber : ckM e_M_takesNumber = true := by decide +kernel
set_option maxRecDepth 100000 in
set_option maxHeartbeats 4000000 in
theorem k_M_askedBy : ckM e_M_askedBy = true := by decide +kernel
set_option maxRecDepth 100000 in
set_option maxHeartbeats 4000000 in
theorem k_M_puts : ckM e_M_puts = true := by decide +kernel
set_option maxRecDepth 100000 in
set_option maxHeartbeats 4000000 in
theorem k_M_opens : ckM e_M_opens = true := by decide +kernel
set_option maxRecDepth 100000 in
set_option maxHeartbeats 4000000 in
theorem k_M_any : ckM e_M_any = true := by decide +kernel
set_option maxRecDepth 100000 in
set_option maxHeartbeats 4000000 in
theorem k_M_all : ckM e_M_all = true := by decide +kernel
set_option maxRecDepth 100000 in
theorem kb_M_single_0 : ckS "PuntYardModel" false false 3 prog_14_method_22_code mtb B_M_single (Option.some Jvm.ClassFile.FieldType.boolean) (blkI B_M_single 0) 0 1 = true := by decide +kernel
set_option maxRecDepth 100000 in
theorem kb_M_single_1 : ckS "PuntYardModel" false false 3 prog_14_method_22_code mtb B_M_single (Option.some Jvm.ClassFile.FieldType.boolean) (blkI B_M_single 1) 20 2 = true := by decide +kernel
set_option maxRecDepth 100000 in
theorem kb_M_single_2 : ckS "PuntYardModel" false false 3 prog_14_method_22_code mtb B_M_single (Option.some Jvm.ClassFile.FieldType.boolean) (blkI B_M_single 2) 37 3 = true := by decide +kernel
set_option maxRecDepth 100000 in
theorem kb_M_single_3 : ckS "PuntYardModel" false false 3 prog_14_method_22_code mtb B_M_single (Option.some Jvm.ClassFile.FieldType.boolean) (blkI B_M_single 3) 56 4 = true := by decide +kernel
set_option maxRecDepth 100000 in
theorem kb_M_single_4 : ckS "PuntYardModel" false false 3 prog_14_method_22_code mtb B_M_single (Option.some Jvm.ClassFile.FieldType.boolean) (blkI B_M_single 4) 90 5 = true := by decide +kernel
set_option maxRecDepth 100000 in
theorem kb_M_single_5 : ckS "PuntYardModel" false false 3 prog_14_method_22_code mtb B_M_single (Option.some Jvm.ClassFile.FieldType.boolean) (blkI B_M_single 5) 116 6 = true := by decide +kernel
set_option maxRecDepth 100000 in
theorem kb_M_single_6 : ckS "PuntYardModel" false false 3 prog_14_method_22_code mtb B_M_single (Option.some Jvm.ClassFile.FieldType.boolean) (blkI B_M_single 6) 118 7 = true := by decide +kernel
set_option maxRecDepth 100000 in
theorem kb_M_single_7 : ckS "PuntYardModel" false false 3 prog_14_method_22_code mtb B_M_single (Option.some Jvm.ClassFile.FieldType.boolean) (blkI B_M_single 7) 130 8 = true := by decide +kernel
set_option maxRecDepth 100000 in
theorem kb_M_single_8 : ckS "PuntYardModel" false false 3 prog_14_method_22_code mtb B_M_single (Option.some Jvm.ClassFile.FieldType.boolean) (blkI B_M_single 8) 145 9 = true := by decide +kernel
set_option maxRecDepth 100000 in
theorem kb_M_single_9 : ckS "PuntYardModel" false false 3 prog_14_method_22_code mtb B_M_single (Option.some Jvm.ClassFile.FieldType.boolean) (blkI B_M_single 9) 166 10 = true := by decide +kernel
set_option maxRecDepth 100000 in
theorem kb_M_single_10 : ckS "PuntYardModel" false false 3 prog_14_method_22_code mtb B_M_single (Option.some Jvm.ClassFile.FieldType.boolean) (blkI B_M_single 10) 179 11 = true := by decide +kernel
set_option maxRecDepth 100000 in
theorem kb_M_single_11 : ckS "PuntYardModel" false false 3 prog_14_method_22_code mtb B_M_single (Option.some Jvm.ClassFile.FieldType.boolean) (blkI B_M_single 11) 192 12 = true := by decide +kernel
set_option maxRecDepth 100000 in
theorem kb_M_single_12 : ckS "PuntYardModel" false false 3 prog_14_method_22_code mtb B_M_single (Option.some Jvm.ClassFile.FieldType.boolean) (blkI B_M_single 12) 193 13 = true := by decide +kernel
set_option maxRecDepth 100000 in
theorem kb_M_single_13 : ckS "PuntYardModel" false false 3 prog_14_method_22_code mtb B_M_single (Option.some Jvm.ClassFile.FieldType.boolean) (blkI B_M_single 13) 210 14 = true := by decide +kernel
set_option maxRecDepth 100000 in
theorem kb_M_single_14 : ckS "PuntYardModel" false false 3 prog_14_method_22_code mtb B_M_single (Option.some Jvm.ClassFile.FieldType.boolean) (blkI B_M_single 14) 212 15 = true := by decide +kernel
set_option maxRecDepth 100000 in
theorem k_M_single : ckM e_M_single = true := by
  have h : ∀ b ∈ B_M_single, ckS "PuntYardModel" false false 3 prog_14_method_22_code mtb B_M_single (Option.some Jvm.ClassFile.FieldType.boolean) b.2.1 b.1 b.2.2 = true := List.forall_mem_cons.mpr ⟨kb_M_single_0, List.forall_mem_cons.mpr ⟨kb_M_single_1, List.forall_mem_cons.mpr ⟨kb_M_single_2, List.forall_mem_cons.mpr ⟨kb_M_single_3, List.forall_mem_cons.mpr ⟨kb_M_single_4, List.forall_mem_cons.mpr ⟨kb_M_single_5, List.forall_mem_cons.mpr ⟨kb_M_single_6, List.forall_mem_cons.mpr ⟨kb_M_single_7, List.forall_mem_cons.mpr ⟨kb_M_single_8, List.forall_mem_cons.mpr ⟨kb_M_single_9, List.forall_mem_cons.mpr ⟨kb_M_single_10, List.forall_mem_cons.mpr ⟨kb_M_single_11, List.forall_mem_cons.mpr ⟨kb_M_single_12, List.forall_mem_cons.mpr ⟨kb_M_single_13, List.forall_mem_cons.mpr ⟨kb_M_single_14, fun _ h => absurd h List.not_mem_nil⟩⟩⟩⟩⟩⟩⟩⟩⟩⟩⟩⟩⟩⟩⟩
  unfold ckM
  rw [Bool.and_eq_true, Bool.and_eq_true]
  exact ⟨by decide +kernel, rfl, List.all_eq_true.mpr h⟩
set_option maxRecDepth 100000 in
set_option maxHeartbeats 4000000 in
theorem k_M_says : ckM e_M_says = true := by decide +kernel
set_option maxRecDepth 100000 in
set_option maxHeartbeats 4000000 in
theorem k_M_eachTold : ckM e_M_eachTold = true := by decide +kernel
set_option maxRecDepth 100000 in
set_option maxHeartbeats 4000000 in
theorem k_M_priceTold : ckM e_M_priceTold = true := by decide +kernel
set_option maxRecDepth 100000 in
set_option maxHeartbeats 4000000 in
theorem k_M_depositTold : ckM e_M_depositTold = true := by decide +kernel
set_option maxRecDepth 100000 in
set_option maxHeartbeats 4000000 in
theorem k_M_lateTold : ckM e_M_lateTold = true := by decide +kernel
set_option maxRecDepth 100000 in
set_option maxHeartbeats 4000000 in
theorem k_M_rightTold : ckM e_M_rightTold = true := by decide +kernel
set_option maxRecDepth 100000 in
set_option maxHeartbeats 4000000 in
theorem k_M_oneTold : ckM e_M_oneTold = true := by decide +kernel
set_option maxRecDepth 100000 in
theorem kb_M_clauseTold_0 : ckS "PuntYardModel" false false 3 prog_14_method_30_code mtb B_M_clauseTold (Option.some Jvm.ClassFile.FieldType.boolean) (blkI B_M_clauseTold 0) 0 1 = true := by decide +kernel
set_option maxRecDepth 100000 in
theorem kb_M_clauseTold_1 : ckS "PuntYardModel" false false 3 prog_14_method_30_code mtb B_M_clauseTold (Option.some Jvm.ClassFile.FieldType.boolean) (blkI B_M_clauseTold 1) 35 2 = true := by decide +kernel
set_option maxRecDepth 100000 in
theorem kb_M_clauseTold_2 : ckS "PuntYardModel" false false 3 prog_14_method_30_code mtb B_M_clauseTold (Option.some Jvm.ClassFile.FieldType.boolean) (blkI B_M_clauseTold 2) 71 3 = true := by decide +kernel
set_option maxRecDepth 100000 in
theorem kb_M_clauseTold_3 : ckS "PuntYardModel" false false 3 prog_14_method_30_code mtb B_M_clauseTold (Option.some Jvm.ClassFile.FieldType.boolean) (blkI B_M_clauseTold 3) 73 4 = true := by decide +kernel
set_option maxRecDepth 100000 in
theorem kb_M_clauseTold_4 : ckS "PuntYardModel" false false 3 prog_14_method_30_code mtb B_M_clauseTold (Option.some Jvm.ClassFile.FieldType.boolean) (blkI B_M_clauseTold 4) 83 5 = true := by decide +kernel
set_option maxRecDepth 100000 in
theorem kb_M_clauseTold_5 : ckS "PuntYardModel" false false 3 prog_14_method_30_code mtb B_M_clauseTold (Option.some Jvm.ClassFile.FieldType.boolean) (blkI B_M_clauseTold 5) 107 6 = true := by decide +kernel
set_option maxRecDepth 100000 in
theorem kb_M_clauseTold_6 : ckS "PuntYardModel" false false 3 prog_14_method_30_code mtb B_M_clauseTold (Option.some Jvm.ClassFile.FieldType.boolean) (blkI B_M_clauseTold 6) 117 7 = true := by decide +kernel
set_option maxRecDepth 100000 in
theorem kb_M_clauseTold_7 : ckS "PuntYardModel" false false 3 prog_14_method_30_code mtb B_M_clauseTold (Option.some Jvm.ClassFile.FieldType.boolean) (blkI B_M_clauseTold 7) 145 8 = true := by decide +kernel
set_option maxRecDepth 100000 in
theorem kb_M_clauseTold_8 : ckS "PuntYardModel" false false 3 prog_14_method_30_code mtb B_M_clauseTold (Option.some Jvm.ClassFile.FieldType.boolean) (blkI B_M_clauseTold 8) 168 9 = true := by decide +kernel
set_option maxRecDepth 100000 in
theorem k_M_clauseTold : ckM e_M_clauseTold = true := by
  have h : ∀ b ∈ B_M_clauseTold, ckS "PuntYardModel" false false 3 prog_14_method_30_code mtb B_M_clauseTold (Option.some Jvm.ClassFile.FieldType.boolean) b.2.1 b.1 b.2.2 = true := List.forall_mem_cons.mpr ⟨kb_M_clauseTold_0, List.forall_mem_cons.mpr ⟨kb_M_clauseTold_1, List.forall_mem_cons.mpr ⟨kb_M_clauseTold_2, List.forall_mem_cons.mpr ⟨kb_M_clauseTold_3, List.forall_mem_cons.mpr ⟨kb_M_clauseTold_4, List.forall_mem_cons.mpr ⟨kb_M_clauseTold_5, List.forall_mem_cons.mpr ⟨kb_M_clauseTold_6, List.forall_mem_cons.mpr ⟨kb_M_clauseTold_7, List.forall_mem_cons.mpr ⟨kb_M_clauseTold_8, fun _ h => absurd h List.not_mem_nil⟩⟩⟩⟩⟩⟩⟩⟩⟩
  unfold ckM
  rw [Bool.and_eq_true, Bool.and_eq_true]
  exact ⟨by decide +kernel, rfl, List.all_eq_true.mpr h⟩
set_option maxRecDepth 100000 in
set_option maxHeartbeats 4000000 in
theorem k_M_rule_0 : ckM e_M_rule_0 = true := by decide +kernel
set_option maxRecDepth 100000 in
set_option maxHeartbeats 4000000 in
theorem k_M_bare : ckM e_M_bare = true := by decide +kernel
set_option maxRecDepth 100000 in
set_option maxHeartbeats 4000000 in
theorem k_M_reads : ckM e_M_reads = true := by decide +kernel
set_option maxRecDepth 100000 in
theorem kb_M_law_0 : ckS "PuntYardModel" false false 7 prog_14_method_34_code mtb B_M_law (Option.some Jvm.ClassFile.FieldType.int) (blkI B_M_law 0) 0 1 = true := by decide +kernel
set_option maxRecDepth 100000 in
theorem kb_M_law_1 : ckS "PuntYardModel" false false 7 prog_14_method_34_code mtb B_M_law (Option.some Jvm.ClassFile.FieldType.int) (blkI B_M_law 1) 19 2 = true := by decide +kernel
set_option maxRecDepth 100000 in
theorem kb_M_law_2 : ckS "PuntYardModel" false false 7 prog_14_method_34_code mtb B_M_law (Option.some Jvm.ClassFile.FieldType.int) (blkI B_M_law 2) 22 3 = true := by decide +kernel
set_option maxRecDepth 100000 in
theorem kb_M_law_3 : ckS "PuntYardModel" false false 7 prog_14_method_34_code mtb B_M_law (Option.some Jvm.ClassFile.FieldType.int) (blkI B_M_law 3) 33 4 = true := by decide +kernel
set_option maxRecDepth 100000 in
theorem kb_M_law_4 : ckS "PuntYardModel" false false 7 prog_14_method_34_code mtb B_M_law (Option.some Jvm.ClassFile.FieldType.int) (blkI B_M_law 4) 43 5 = true := by decide +kernel
set_option maxRecDepth 100000 in
theorem kb_M_law_5 : ckS "PuntYardModel" false false 7 prog_14_method_34_code mtb B_M_law (Option.some Jvm.ClassFile.FieldType.int) (blkI B_M_law 5) 57 6 = true := by decide +kernel
set_option maxRecDepth 100000 in
theorem kb_M_law_6 : ckS "PuntYardModel" false false 7 prog_14_method_34_code mtb B_M_law (Option.some Jvm.ClassFile.FieldType.int) (blkI B_M_law 6) 96 7 = true := by decide +kernel
set_option maxRecDepth 100000 in
theorem kc_M_law_7_1 : ckS "PuntYardModel" false false 7 prog_14_method_34_code mtb B_M_law (Option.some Jvm.ClassFile.FieldType.int) ((blkI B_M_law 7).drop 50) 204 8 = true := by decide +kernel
set_option maxRecDepth 100000 in
theorem kl_M_law_7_0 : ckL "PuntYardModel" false false 7 prog_14_method_34_code mtb B_M_law (((blkI B_M_law 7).drop 0).take 50) 114 = true := by decide +kernel
set_option maxRecDepth 100000 in
theorem kp_M_law_7_0 : 114 + plen (((blkI B_M_law 7).drop 0).take 50) = 204 := by decide +kernel
theorem kc_M_law_7_0 : ckS "PuntYardModel" false false 7 prog_14_method_34_code mtb B_M_law (Option.some Jvm.ClassFile.FieldType.int) ((blkI B_M_law 7).drop 0) 114 8 = true := ckS_cut 50 kl_M_law_7_0 kp_M_law_7_0 (by rw [List.drop_drop]; exact kc_M_law_7_1)
theorem kb_M_law_7 : ckS "PuntYardModel" false false 7 prog_14_method_34_code mtb B_M_law (Option.some Jvm.ClassFile.FieldType.int) (blkI B_M_law 7) 114 8 = true := kc_M_law_7_0

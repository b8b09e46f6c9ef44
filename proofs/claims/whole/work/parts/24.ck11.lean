/-! instructions, on (printed by wip/whole/emitmt.py) -/
set_option maxRecDepth 100000 in
set_option maxHeartbeats 4000000 in
theorem k_M_free : ckM e_M_free = true := by decide +kernel
set_option maxRecDepth 100000 in
set_option maxHeartbeats 4000000 in
theorem k_M_tells : ckM e_M_tells = true := by decide +kernel
set_option maxRecDepth 100000 in
theorem kb_M_out_0 : ckS "PuntYardModel" false false 5 prog_14_method_60_code mtb B_M_out (Option.some Jvm.ClassFile.FieldType.int) (blkI B_M_out 0) 0 1 = true := by decide +kernel
set_option maxRecDepth 100000 in
theorem kb_M_out_1 : ckS "PuntYardModel" false false 5 prog_14_method_60_code mtb B_M_out (Option.some Jvm.ClassFile.FieldType.int) (blkI B_M_out 1) 71 2 = true := by decide +kernel
set_option maxRecDepth 100000 in
theorem kb_M_out_2 : ckS "PuntYardModel" false false 5 prog_14_method_60_code mtb B_M_out (Option.some Jvm.ClassFile.FieldType.int) (blkI B_M_out 2) 73 3 = true := by decide +kernel
set_option maxRecDepth 100000 in
theorem k_M_out : ckM e_M_out = true := by
  have h : ∀ b ∈ B_M_out, ckS "PuntYardModel" false false 5 prog_14_method_60_code mtb B_M_out (Option.some Jvm.ClassFile.FieldType.int) b.2.1 b.1 b.2.2 = true := List.forall_mem_cons.mpr ⟨kb_M_out_0, List.forall_mem_cons.mpr ⟨kb_M_out_1, List.forall_mem_cons.mpr ⟨kb_M_out_2, fun _ h => absurd h List.not_mem_nil⟩⟩⟩
  unfold ckM
  rw [Bool.and_eq_true, Bool.and_eq_true]
  exact ⟨by decide +kernel, rfl, List.all_eq_true.mpr h⟩
set_option maxRecDepth 100000 in
set_option maxHeartbeats 4000000 in
theorem k_M_mayBe : ckM e_M_mayBe = true := by decide +kernel
set_option maxRecDepth 100000 in
set_option maxHeartbeats 4000000 in
theorem k_M_back : ckM e_M_back = true := by decide +kernel
set_option maxRecDepth 100000 in
set_option maxHeartbeats 4000000 in
theorem k_M_mend : ckM e_M_mend = true := by decide +kernel
set_option maxRecDepth 100000 in
set_option maxHeartbeats 4000000 in
theorem k_M_swamp : ckM e_M_swamp = true := by decide +kernel
set_option maxRecDepth 100000 in
set_option maxHeartbeats 4000000 in
theorem k_M_cushions : ckM e_M_cushions = true := by decide +kernel
set_option maxRecDepth 100000 in
set_option maxHeartbeats 4000000 in
theorem k_M_hire : ckM e_M_hire = true := by decide +kernel
set_option maxRecDepth 100000 in
set_option maxHeartbeats 4000000 in
theorem k_M_known : ckM e_M_known = true := by decide +kernel
set_option maxRecDepth 100000 in
set_option maxHeartbeats 4000000 in
theorem k_M_lawBy : ckM e_M_lawBy = true := by decide +kernel
set_option maxRecDepth 100000 in
set_option maxHeartbeats 4000000 in
theorem k_M_kindBy : ckM e_M_kindBy = true := by decide +kernel
set_option maxRecDepth 100000 in
set_option maxHeartbeats 4000000 in
theorem k_M_minutes : ckM e_M_minutes = true := by decide +kernel
set_option maxRecDepth 100000 in
theorem kb_M_freeOf_0 : ckS "PuntYardModel" false false 5 prog_14_method_71_code mtb B_M_freeOf (Option.some Jvm.ClassFile.FieldType.int) (blkI B_M_freeOf 0) 0 1 = true := by decide +kernel
set_option maxRecDepth 100000 in
theorem kb_M_freeOf_1 : ckS "PuntYardModel" false false 5 prog_14_method_71_code mtb B_M_freeOf (Option.some Jvm.ClassFile.FieldType.int) (blkI B_M_freeOf 1) 41 2 = true := by decide +kernel
set_option maxRecDepth 100000 in
theorem kb_M_freeOf_2 : ckS "PuntYardModel" false false 5 prog_14_method_71_code mtb B_M_freeOf (Option.some Jvm.ClassFile.FieldType.int) (blkI B_M_freeOf 2) 113 3 = true := by decide +kernel
set_option maxRecDepth 100000 in
theorem kb_M_freeOf_3 : ckS "PuntYardModel" false false 5 prog_14_method_71_code mtb B_M_freeOf (Option.some Jvm.ClassFile.FieldType.int) (blkI B_M_freeOf 3) 151 4 = true := by decide +kernel
set_option maxRecDepth 100000 in
theorem kb_M_freeOf_4 : ckS "PuntYardModel" false false 5 prog_14_method_71_code mtb B_M_freeOf (Option.some Jvm.ClassFile.FieldType.int) (blkI B_M_freeOf 4) 160 5 = true := by decide +kernel
set_option maxRecDepth 100000 in
theorem kb_M_freeOf_5 : ckS "PuntYardModel" false false 5 prog_14_method_71_code mtb B_M_freeOf (Option.some Jvm.ClassFile.FieldType.int) (blkI B_M_freeOf 5) 166 6 = true := by decide +kernel
set_option maxRecDepth 100000 in
theorem k_M_freeOf : ckM e_M_freeOf = true := by
  have h : ∀ b ∈ B_M_freeOf, ckS "PuntYardModel" false false 5 prog_14_method_71_code mtb B_M_freeOf (Option.some Jvm.ClassFile.FieldType.int) b.2.1 b.1 b.2.2 = true := List.forall_mem_cons.mpr ⟨kb_M_freeOf_0, List.forall_mem_cons.mpr ⟨kb_M_freeOf_1, List.forall_mem_cons.mpr ⟨kb_M_freeOf_2, List.forall_mem_cons.mpr ⟨kb_M_freeOf_3, List.forall_mem_cons.mpr ⟨kb_M_freeOf_4, List.forall_mem_cons.mpr ⟨kb_M_freeOf_5, fun _ h => absurd h List.not_mem_nil⟩⟩⟩⟩⟩⟩
  unfold ckM
  rw [Bool.and_eq_true, Bool.and_eq_true]
  exact ⟨by decide +kernel, rfl, List.all_eq_true.mpr h⟩
set_option maxRecDepth 100000 in
set_option maxHeartbeats 4000000 in
theorem k_M_priceOf : ckM e_M_priceOf = true := by decide +kernel
set_option maxRecDepth 100000 in
set_option maxHeartbeats 4000000 in
theorem k_M_lateOf : ckM e_M_lateOf = true := by decide +kernel
set_option maxRecDepth 100000 in
set_option maxHeartbeats 4000000 in
theorem k_M_wetOf : ckM e_M_wetOf = true := by decide +kernel
set_option maxRecDepth 100000 in
set_option maxHeartbeats 4000000 in
theorem k_M_harmOf : ckM e_M_harmOf = true := by decide +kernel
set_option maxRecDepth 100000 in
set_option maxHeartbeats 4000000 in
theorem k_M_cushionsOf : ckM e_M_cushionsOf = true := by decide +kernel
set_option maxRecDepth 100000 in
set_option maxHeartbeats 4000000 in
theorem k_M_owedOf : ckM e_M_owedOf = true := by decide +kernel
set_option maxRecDepth 100000 in
set_option maxHeartbeats 4000000 in
theorem k_M_bill : ckM e_M_bill = true := by decide +kernel
set_option maxRecDepth 100000 in
set_option maxHeartbeats 4000000 in
theorem k_M_outs : ckM e_M_outs = true := by decide +kernel

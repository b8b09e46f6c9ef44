/-! instructions, on (printed by wip/whole/emitmt.py) -/
set_option maxRecDepth 100000 in
theorem kb_M_served_9 : ckS "PuntYardModel" false false 15 prog_14_method_96_code mtb B_M_served (Option.some Jvm.ClassFile.FieldType.long) (blkI B_M_served 9) 91 10 = true := by decide +kernel
set_option maxRecDepth 100000 in
theorem kb_M_served_10 : ckS "PuntYardModel" false false 15 prog_14_method_96_code mtb B_M_served (Option.some Jvm.ClassFile.FieldType.long) (blkI B_M_served 10) 124 11 = true := by decide +kernel
set_option maxRecDepth 100000 in
theorem kb_M_served_11 : ckS "PuntYardModel" false false 15 prog_14_method_96_code mtb B_M_served (Option.some Jvm.ClassFile.FieldType.long) (blkI B_M_served 11) 125 12 = true := by decide +kernel
set_option maxRecDepth 100000 in
theorem kb_M_served_12 : ckS "PuntYardModel" false false 15 prog_14_method_96_code mtb B_M_served (Option.some Jvm.ClassFile.FieldType.long) (blkI B_M_served 12) 136 13 = true := by decide +kernel
set_option maxRecDepth 100000 in
theorem kb_M_served_13 : ckS "PuntYardModel" false false 15 prog_14_method_96_code mtb B_M_served (Option.some Jvm.ClassFile.FieldType.long) (blkI B_M_served 13) 137 14 = true := by decide +kernel
set_option maxRecDepth 100000 in
theorem kb_M_served_14 : ckS "PuntYardModel" false false 15 prog_14_method_96_code mtb B_M_served (Option.some Jvm.ClassFile.FieldType.long) (blkI B_M_served 14) 143 15 = true := by decide +kernel
set_option maxRecDepth 100000 in
theorem kb_M_served_15 : ckS "PuntYardModel" false false 15 prog_14_method_96_code mtb B_M_served (Option.some Jvm.ClassFile.FieldType.long) (blkI B_M_served 15) 232 16 = true := by decide +kernel
set_option maxRecDepth 100000 in
theorem kb_M_served_16 : ckS "PuntYardModel" false false 15 prog_14_method_96_code mtb B_M_served (Option.some Jvm.ClassFile.FieldType.long) (blkI B_M_served 16) 238 17 = true := by decide +kernel
set_option maxRecDepth 100000 in
theorem kb_M_served_17 : ckS "PuntYardModel" false false 15 prog_14_method_96_code mtb B_M_served (Option.some Jvm.ClassFile.FieldType.long) (blkI B_M_served 17) 244 18 = true := by decide +kernel
set_option maxRecDepth 100000 in
theorem kb_M_served_18 : ckS "PuntYardModel" false false 15 prog_14_method_96_code mtb B_M_served (Option.some Jvm.ClassFile.FieldType.long) (blkI B_M_served 18) 247 19 = true := by decide +kernel
set_option maxRecDepth 100000 in
theorem kb_M_served_19 : ckS "PuntYardModel" false false 15 prog_14_method_96_code mtb B_M_served (Option.some Jvm.ClassFile.FieldType.long) (blkI B_M_served 19) 274 20 = true := by decide +kernel
set_option maxRecDepth 100000 in
theorem kb_M_served_20 : ckS "PuntYardModel" false false 15 prog_14_method_96_code mtb B_M_served (Option.some Jvm.ClassFile.FieldType.long) (blkI B_M_served 20) 280 21 = true := by decide +kernel
set_option maxRecDepth 100000 in
theorem k_M_served : ckM e_M_served = true := by
  have h : ∀ b ∈ B_M_served, ckS "PuntYardModel" false false 15 prog_14_method_96_code mtb B_M_served (Option.some Jvm.ClassFile.FieldType.long) b.2.1 b.1 b.2.2 = true := List.forall_mem_cons.mpr ⟨kb_M_served_0, List.forall_mem_cons.mpr ⟨kb_M_served_1, List.forall_mem_cons.mpr ⟨kb_M_served_2, List.forall_mem_cons.mpr ⟨kb_M_served_3, List.forall_mem_cons.mpr ⟨kb_M_served_4, List.forall_mem_cons.mpr ⟨kb_M_served_5, List.forall_mem_cons.mpr ⟨kb_M_served_6, List.forall_mem_cons.mpr ⟨kb_M_served_7, List.forall_mem_cons.mpr ⟨kb_M_served_8, List.forall_mem_cons.mpr ⟨kb_M_served_9, List.forall_mem_cons.mpr ⟨kb_M_served_10, List.forall_mem_cons.mpr ⟨kb_M_served_11, List.forall_mem_cons.mpr ⟨kb_M_served_12, List.forall_mem_cons.mpr ⟨kb_M_served_13, List.forall_mem_cons.mpr ⟨kb_M_served_14, List.forall_mem_cons.mpr ⟨kb_M_served_15, List.forall_mem_cons.mpr ⟨kb_M_served_16, List.forall_mem_cons.mpr ⟨kb_M_served_17, List.forall_mem_cons.mpr ⟨kb_M_served_18, List.forall_mem_cons.mpr ⟨kb_M_served_19, List.forall_mem_cons.mpr ⟨kb_M_served_20, fun _ h => absurd h List.not_mem_nil⟩⟩⟩⟩⟩⟩⟩⟩⟩⟩⟩⟩⟩⟩⟩⟩⟩⟩⟩⟩⟩
  unfold ckM
  rw [Bool.and_eq_true, Bool.and_eq_true]
  exact ⟨by decide +kernel, rfl, List.all_eq_true.mpr h⟩
set_option maxRecDepth 100000 in
set_option maxHeartbeats 4000000 in
theorem k_M_wantedNow : ckM e_M_wantedNow = true := by decide +kernel
set_option maxRecDepth 100000 in
set_option maxHeartbeats 4000000 in
theorem k_M_divisor : ckM e_M_divisor = true := by decide +kernel
set_option maxRecDepth 100000 in
set_option maxHeartbeats 4000000 in
theorem k_M_keep : ckM e_M_keep = true := by decide +kernel
set_option maxRecDepth 100000 in
set_option maxHeartbeats 4000000 in
theorem k_M_least : ckM e_M_least = true := by decide +kernel
set_option maxRecDepth 100000 in
set_option maxHeartbeats 4000000 in
theorem k_M_mean : ckM e_M_mean = true := by decide +kernel
set_option maxRecDepth 100000 in
set_option maxHeartbeats 4000000 in
theorem k_M_protect : ckM e_M_protect = true := by decide +kernel
set_option maxRecDepth 100000 in
set_option maxHeartbeats 4000000 in
theorem k_M_roll : ckM e_M_roll = true := by decide +kernel
set_option maxRecDepth 100000 in
set_option maxHeartbeats 4000000 in
theorem k_M_orders : ckM e_M_orders = true := by decide +kernel
set_option maxRecDepth 100000 in
set_option maxHeartbeats 4000000 in
theorem k_M_waits : ckM e_M_waits = true := by decide +kernel
set_option maxRecDepth 100000 in
set_option maxHeartbeats 4000000 in
theorem k_M_rolled : ckM e_M_rolled = true := by decide +kernel
set_option maxRecDepth 100000 in
set_option maxHeartbeats 4000000 in
theorem k_M_guide : ckM e_M_guide = true := by decide +kernel
set_option maxRecDepth 100000 in
set_option maxHeartbeats 4000000 in
theorem k_M_party : ckM e_M_party = true := by decide +kernel
set_option maxRecDepth 100000 in
set_option maxHeartbeats 4000000 in
theorem k_M_maySing : ckM e_M_maySing = true := by decide +kernel
set_option maxRecDepth 100000 in
set_option maxHeartbeats 4000000 in
theorem k_M_leftBy : ckM e_M_leftBy = true := by decide +kernel
set_option maxRecDepth 100000 in
set_option maxHeartbeats 4000000 in
theorem k_M_lookLeft : ckM e_M_lookLeft = true := by decide +kernel
set_option maxRecDepth 100000 in
set_option maxHeartbeats 4000000 in
theorem k_M_guides : ckM e_M_guides = true := by decide +kernel
set_option maxRecDepth 100000 in
set_option maxHeartbeats 4000000 in
theorem k_M_guided : ckM e_M_guided = true := by decide +kernel

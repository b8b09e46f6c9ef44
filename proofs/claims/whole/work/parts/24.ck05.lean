/-! instructions, on (printed by wip/whole/emitmt.py) -/
set_option maxRecDepth 100000 in
set_option maxHeartbeats 4000000 in
theorem k_P_rule : ckM e_P_rule = true := by decide +kernel
set_option maxRecDepth 100000 in
set_option maxHeartbeats 4000000 in
theorem k_P_water : ckM e_P_water = true := by decide +kernel
set_option maxRecDepth 100000 in
set_option maxHeartbeats 4000000 in
theorem k_P_rain : ckM e_P_rain = true := by decide +kernel
set_option maxRecDepth 100000 in
set_option maxHeartbeats 4000000 in
theorem k_P_boat : ckM e_P_boat = true := by decide +kernel
set_option maxRecDepth 100000 in
set_option maxHeartbeats 4000000 in
theorem k_P_free : ckM e_P_free = true := by decide +kernel
set_option maxRecDepth 100000 in
set_option maxHeartbeats 4000000 in
theorem k_P_out : ckM e_P_out = true := by decide +kernel
set_option maxRecDepth 100000 in
set_option maxHeartbeats 4000000 in
theorem k_P_back : ckM e_P_back = true := by decide +kernel
set_option maxRecDepth 100000 in
set_option maxHeartbeats 4000000 in
theorem k_P_mend : ckM e_P_mend = true := by decide +kernel
set_option maxRecDepth 100000 in
set_option maxHeartbeats 4000000 in
theorem k_P_swamp : ckM e_P_swamp = true := by decide +kernel
set_option maxRecDepth 100000 in
set_option maxHeartbeats 4000000 in
theorem k_P_cushions : ckM e_P_cushions = true := by decide +kernel
set_option maxRecDepth 100000 in
set_option maxHeartbeats 4000000 in
theorem k_P_weed : ckM e_P_weed = true := by decide +kernel
set_option maxRecDepth 100000 in
set_option maxHeartbeats 4000000 in
theorem k_P_cut : ckM e_P_cut = true := by decide +kernel
set_option maxRecDepth 100000 in
set_option maxHeartbeats 4000000 in
theorem k_P_hire : ckM e_P_hire = true := by decide +kernel
set_option maxRecDepth 100000 in
set_option maxHeartbeats 4000000 in
theorem k_P_known : ckM e_P_known = true := by decide +kernel
set_option maxRecDepth 100000 in
set_option maxHeartbeats 4000000 in
theorem k_P_bill : ckM e_P_bill = true := by decide +kernel
set_option maxRecDepth 100000 in
set_option maxHeartbeats 4000000 in
theorem k_P_outs : ckM e_P_outs = true := by decide +kernel
set_option maxRecDepth 100000 in
set_option maxHeartbeats 4000000 in
theorem k_P_takings : ckM e_P_takings = true := by decide +kernel
set_option maxRecDepth 100000 in
set_option maxHeartbeats 4000000 in
theorem k_P_differ : ckM e_P_differ = true := by decide +kernel
set_option maxRecDepth 100000 in
set_option maxHeartbeats 4000000 in
theorem k_P_cost : ckM e_P_cost = true := by decide +kernel
set_option maxRecDepth 100000 in
theorem kb_P_worst_0 : ckS "PuntYard" false false 8 prog_1_method_24_code mtb B_P_worst (Option.some Jvm.ClassFile.FieldType.int) (blkI B_P_worst 0) 0 1 = true := by decide +kernel
set_option maxRecDepth 100000 in
theorem kb_P_worst_1 : ckS "PuntYard" false false 8 prog_1_method_24_code mtb B_P_worst (Option.some Jvm.ClassFile.FieldType.int) (blkI B_P_worst 1) 24 2 = true := by decide +kernel
set_option maxRecDepth 100000 in
theorem kb_P_worst_2 : ckS "PuntYard" false false 8 prog_1_method_24_code mtb B_P_worst (Option.some Jvm.ClassFile.FieldType.int) (blkI B_P_worst 2) 26 3 = true := by decide +kernel
set_option maxRecDepth 100000 in
theorem kb_P_worst_3 : ckS "PuntYard" false false 8 prog_1_method_24_code mtb B_P_worst (Option.some Jvm.ClassFile.FieldType.int) (blkI B_P_worst 3) 70 4 = true := by decide +kernel
set_option maxRecDepth 100000 in
theorem kb_P_worst_4 : ckS "PuntYard" false false 8 prog_1_method_24_code mtb B_P_worst (Option.some Jvm.ClassFile.FieldType.int) (blkI B_P_worst 4) 140 5 = true := by decide +kernel
set_option maxRecDepth 100000 in
theorem kb_P_worst_5 : ckS "PuntYard" false false 8 prog_1_method_24_code mtb B_P_worst (Option.some Jvm.ClassFile.FieldType.int) (blkI B_P_worst 5) 146 6 = true := by decide +kernel
set_option maxRecDepth 100000 in
theorem kb_P_worst_6 : ckS "PuntYard" false false 8 prog_1_method_24_code mtb B_P_worst (Option.some Jvm.ClassFile.FieldType.int) (blkI B_P_worst 6) 152 7 = true := by decide +kernel
set_option maxRecDepth 100000 in
theorem kb_P_worst_7 : ckS "PuntYard" false false 8 prog_1_method_24_code mtb B_P_worst (Option.some Jvm.ClassFile.FieldType.int) (blkI B_P_worst 7) 181 8 = true := by decide +kernel
set_option maxRecDepth 100000 in
theorem kb_P_worst_8 : ckS "PuntYard" false false 8 prog_1_method_24_code mtb B_P_worst (Option.some Jvm.ClassFile.FieldType.int) (blkI B_P_worst 8) 187 9 = true := by decide +kernel
set_option maxRecDepth 100000 in
theorem kb_P_worst_9 : ckS "PuntYard" false false 8 prog_1_method_24_code mtb B_P_worst (Option.some Jvm.ClassFile.FieldType.int) (blkI B_P_worst 9) 196 10 = true := by decide +kernel
set_option maxRecDepth 100000 in
theorem kb_P_worst_10 : ckS "PuntYard" false false 8 prog_1_method_24_code mtb B_P_worst (Option.some Jvm.ClassFile.FieldType.int) (blkI B_P_worst 10) 206 11 = true := by decide +kernel
set_option maxRecDepth 100000 in
theorem k_P_worst : ckM e_P_worst = true := by
  have h : ∀ b ∈ B_P_worst, ckS "PuntYard" false false 8 prog_1_method_24_code mtb B_P_worst (Option.some Jvm.ClassFile.FieldType.int) b.2.1 b.1 b.2.2 = true := List.forall_mem_cons.mpr ⟨kb_P_worst_0, List.forall_mem_cons.mpr ⟨kb_P_worst_1, List.forall_mem_cons.mpr ⟨kb_P_worst_2, List.forall_mem_cons.mpr ⟨kb_P_worst_3, List.forall_mem_cons.mpr ⟨kb_P_worst_4, List.forall_mem_cons.mpr ⟨kb_P_worst_5, List.forall_mem_cons.mpr ⟨kb_P_worst_6, List.forall_mem_cons.mpr ⟨kb_P_worst_7, List.forall_mem_cons.mpr ⟨kb_P_worst_8, List.forall_mem_cons.mpr ⟨kb_P_worst_9, List.forall_mem_cons.mpr ⟨kb_P_worst_10, fun _ h => absurd h List.not_mem_nil⟩⟩⟩⟩⟩⟩⟩⟩⟩⟩⟩
  unfold ckM
  rw [Bool.and_eq_true, Bool.and_eq_true]
  exact ⟨by decide +kernel, rfl, List.all_eq_true.mpr h⟩
set_option maxRecDepth 100000 in
set_option maxHeartbeats 4000000 in
theorem k_P_together : ckM e_P_together = true := by decide +kernel
set_option maxRecDepth 100000 in
set_option maxHeartbeats 4000000 in
theorem k_P_worn : ckM e_P_worn = true := by decide +kernel
set_option maxRecDepth 100000 in
set_option maxHeartbeats 4000000 in
theorem k_P_old : ckM e_P_old = true := by decide +kernel
set_option maxRecDepth 100000 in
set_option maxHeartbeats 4000000 in
theorem k_P_doubt : ckM e_P_doubt = true := by decide +kernel
set_option maxRecDepth 100000 in
set_option maxHeartbeats 4000000 in
theorem k_P_queue : ckM e_P_queue = true := by decide +kernel
set_option maxRecDepth 100000 in
set_option maxHeartbeats 4000000 in
theorem k_P_chance : ckM e_P_chance = true := by decide +kernel

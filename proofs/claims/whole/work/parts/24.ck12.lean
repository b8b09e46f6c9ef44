/-! instructions, on (printed by wip/whole/emitmt.py) -/
set_option maxRecDepth 100000 in
set_option maxHeartbeats 4000000 in
theorem k_M_isOn : ckM e_M_isOn = true := by decide +kernel
set_option maxRecDepth 100000 in
set_option maxHeartbeats 4000000 in
theorem k_M_takings : ckM e_M_takings = true := by decide +kernel
set_option maxRecDepth 100000 in
set_option maxHeartbeats 4000000 in
theorem k_M_keeps : ckM e_M_keeps = true := by decide +kernel
set_option maxRecDepth 100000 in
theorem kb_M_differ_0 : ckS "PuntYardModel" false false 7 prog_14_method_83_code mtb B_M_differ (Option.some Jvm.ClassFile.FieldType.int) (blkI B_M_differ 0) 0 1 = true := by decide +kernel
set_option maxRecDepth 100000 in
theorem kb_M_differ_1 : ckS "PuntYardModel" false false 7 prog_14_method_83_code mtb B_M_differ (Option.some Jvm.ClassFile.FieldType.int) (blkI B_M_differ 1) 21 2 = true := by decide +kernel
set_option maxRecDepth 100000 in
theorem kb_M_differ_2 : ckS "PuntYardModel" false false 7 prog_14_method_83_code mtb B_M_differ (Option.some Jvm.ClassFile.FieldType.int) (blkI B_M_differ 2) 23 3 = true := by decide +kernel
set_option maxRecDepth 100000 in
theorem kb_M_differ_3 : ckS "PuntYardModel" false false 7 prog_14_method_83_code mtb B_M_differ (Option.some Jvm.ClassFile.FieldType.int) (blkI B_M_differ 3) 43 4 = true := by decide +kernel
set_option maxRecDepth 100000 in
theorem kb_M_differ_4 : ckS "PuntYardModel" false false 7 prog_14_method_83_code mtb B_M_differ (Option.some Jvm.ClassFile.FieldType.int) (blkI B_M_differ 4) 69 5 = true := by decide +kernel
set_option maxRecDepth 100000 in
theorem kb_M_differ_5 : ckS "PuntYardModel" false false 7 prog_14_method_83_code mtb B_M_differ (Option.some Jvm.ClassFile.FieldType.int) (blkI B_M_differ 5) 70 6 = true := by decide +kernel
set_option maxRecDepth 100000 in
theorem kb_M_differ_6 : ckS "PuntYardModel" false false 7 prog_14_method_83_code mtb B_M_differ (Option.some Jvm.ClassFile.FieldType.int) (blkI B_M_differ 6) 167 7 = true := by decide +kernel
set_option maxRecDepth 100000 in
theorem kb_M_differ_7 : ckS "PuntYardModel" false false 7 prog_14_method_83_code mtb B_M_differ (Option.some Jvm.ClassFile.FieldType.int) (blkI B_M_differ 7) 168 8 = true := by decide +kernel
set_option maxRecDepth 100000 in
theorem kb_M_differ_8 : ckS "PuntYardModel" false false 7 prog_14_method_83_code mtb B_M_differ (Option.some Jvm.ClassFile.FieldType.int) (blkI B_M_differ 8) 178 9 = true := by decide +kernel
set_option maxRecDepth 100000 in
theorem kb_M_differ_9 : ckS "PuntYardModel" false false 7 prog_14_method_83_code mtb B_M_differ (Option.some Jvm.ClassFile.FieldType.int) (blkI B_M_differ 9) 187 10 = true := by decide +kernel
set_option maxRecDepth 100000 in
theorem kb_M_differ_10 : ckS "PuntYardModel" false false 7 prog_14_method_83_code mtb B_M_differ (Option.some Jvm.ClassFile.FieldType.int) (blkI B_M_differ 10) 190 11 = true := by decide +kernel
set_option maxRecDepth 100000 in
theorem kb_M_differ_11 : ckS "PuntYardModel" false false 7 prog_14_method_83_code mtb B_M_differ (Option.some Jvm.ClassFile.FieldType.int) (blkI B_M_differ 11) 196 12 = true := by decide +kernel
set_option maxRecDepth 100000 in
theorem kb_M_differ_12 : ckS "PuntYardModel" false false 7 prog_14_method_83_code mtb B_M_differ (Option.some Jvm.ClassFile.FieldType.int) (blkI B_M_differ 12) 206 13 = true := by decide +kernel
set_option maxRecDepth 100000 in
theorem kb_M_differ_13 : ckS "PuntYardModel" false false 7 prog_14_method_83_code mtb B_M_differ (Option.some Jvm.ClassFile.FieldType.int) (blkI B_M_differ 13) 207 14 = true := by decide +kernel
set_option maxRecDepth 100000 in
theorem k_M_differ : ckM e_M_differ = true := by
  have h : ∀ b ∈ B_M_differ, ckS "PuntYardModel" false false 7 prog_14_method_83_code mtb B_M_differ (Option.some Jvm.ClassFile.FieldType.int) b.2.1 b.1 b.2.2 = true := List.forall_mem_cons.mpr ⟨kb_M_differ_0, List.forall_mem_cons.mpr ⟨kb_M_differ_1, List.forall_mem_cons.mpr ⟨kb_M_differ_2, List.forall_mem_cons.mpr ⟨kb_M_differ_3, List.forall_mem_cons.mpr ⟨kb_M_differ_4, List.forall_mem_cons.mpr ⟨kb_M_differ_5, List.forall_mem_cons.mpr ⟨kb_M_differ_6, List.forall_mem_cons.mpr ⟨kb_M_differ_7, List.forall_mem_cons.mpr ⟨kb_M_differ_8, List.forall_mem_cons.mpr ⟨kb_M_differ_9, List.forall_mem_cons.mpr ⟨kb_M_differ_10, List.forall_mem_cons.mpr ⟨kb_M_differ_11, List.forall_mem_cons.mpr ⟨kb_M_differ_12, List.forall_mem_cons.mpr ⟨kb_M_differ_13, fun _ h => absurd h List.not_mem_nil⟩⟩⟩⟩⟩⟩⟩⟩⟩⟩⟩⟩⟩⟩
  unfold ckM
  rw [Bool.and_eq_true, Bool.and_eq_true]
  exact ⟨by decide +kernel, rfl, List.all_eq_true.mpr h⟩
set_option maxRecDepth 100000 in
set_option maxHeartbeats 4000000 in
theorem k_M_cost : ckM e_M_cost = true := by decide +kernel
set_option maxRecDepth 100000 in
theorem kb_M_worst_0 : ckS "PuntYardModel" false false 9 prog_14_method_85_code mtb B_M_worst (Option.some Jvm.ClassFile.FieldType.int) (blkI B_M_worst 0) 0 1 = true := by decide +kernel
set_option maxRecDepth 100000 in
theorem kb_M_worst_1 : ckS "PuntYardModel" false false 9 prog_14_method_85_code mtb B_M_worst (Option.some Jvm.ClassFile.FieldType.int) (blkI B_M_worst 1) 24 2 = true := by decide +kernel
set_option maxRecDepth 100000 in
theorem kb_M_worst_2 : ckS "PuntYardModel" false false 9 prog_14_method_85_code mtb B_M_worst (Option.some Jvm.ClassFile.FieldType.int) (blkI B_M_worst 2) 26 3 = true := by decide +kernel
set_option maxRecDepth 100000 in
theorem kb_M_worst_3 : ckS "PuntYardModel" false false 9 prog_14_method_85_code mtb B_M_worst (Option.some Jvm.ClassFile.FieldType.int) (blkI B_M_worst 3) 34 4 = true := by decide +kernel
set_option maxRecDepth 100000 in
theorem kb_M_worst_4 : ckS "PuntYardModel" false false 9 prog_14_method_85_code mtb B_M_worst (Option.some Jvm.ClassFile.FieldType.int) (blkI B_M_worst 4) 74 5 = true := by decide +kernel
set_option maxRecDepth 100000 in
theorem kb_M_worst_5 : ckS "PuntYardModel" false false 9 prog_14_method_85_code mtb B_M_worst (Option.some Jvm.ClassFile.FieldType.int) (blkI B_M_worst 5) 75 6 = true := by decide +kernel
set_option maxRecDepth 100000 in
theorem kb_M_worst_6 : ckS "PuntYardModel" false false 9 prog_14_method_85_code mtb B_M_worst (Option.some Jvm.ClassFile.FieldType.int) (blkI B_M_worst 6) 82 7 = true := by decide +kernel
set_option maxRecDepth 100000 in
theorem kb_M_worst_7 : ckS "PuntYardModel" false false 9 prog_14_method_85_code mtb B_M_worst (Option.some Jvm.ClassFile.FieldType.int) (blkI B_M_worst 7) 91 8 = true := by decide +kernel
set_option maxRecDepth 100000 in
theorem kb_M_worst_8 : ckS "PuntYardModel" false false 9 prog_14_method_85_code mtb B_M_worst (Option.some Jvm.ClassFile.FieldType.int) (blkI B_M_worst 8) 105 9 = true := by decide +kernel
set_option maxRecDepth 100000 in
theorem kb_M_worst_9 : ckS "PuntYardModel" false false 9 prog_14_method_85_code mtb B_M_worst (Option.some Jvm.ClassFile.FieldType.int) (blkI B_M_worst 9) 144 10 = true := by decide +kernel
set_option maxRecDepth 100000 in
theorem kb_M_worst_10 : ckS "PuntYardModel" false false 9 prog_14_method_85_code mtb B_M_worst (Option.some Jvm.ClassFile.FieldType.int) (blkI B_M_worst 10) 145 11 = true := by decide +kernel
set_option maxRecDepth 100000 in
theorem kb_M_worst_11 : ckS "PuntYardModel" false false 9 prog_14_method_85_code mtb B_M_worst (Option.some Jvm.ClassFile.FieldType.int) (blkI B_M_worst 11) 154 12 = true := by decide +kernel
set_option maxRecDepth 100000 in
theorem kb_M_worst_12 : ckS "PuntYardModel" false false 9 prog_14_method_85_code mtb B_M_worst (Option.some Jvm.ClassFile.FieldType.int) (blkI B_M_worst 12) 164 13 = true := by decide +kernel
set_option maxRecDepth 100000 in
theorem kb_M_worst_13 : ckS "PuntYardModel" false false 9 prog_14_method_85_code mtb B_M_worst (Option.some Jvm.ClassFile.FieldType.int) (blkI B_M_worst 13) 172 14 = true := by decide +kernel
set_option maxRecDepth 100000 in
theorem kb_M_worst_14 : ckS "PuntYardModel" false false 9 prog_14_method_85_code mtb B_M_worst (Option.some Jvm.ClassFile.FieldType.int) (blkI B_M_worst 14) 178 15 = true := by decide +kernel
set_option maxRecDepth 100000 in
theorem kb_M_worst_15 : ckS "PuntYardModel" false false 9 prog_14_method_85_code mtb B_M_worst (Option.some Jvm.ClassFile.FieldType.int) (blkI B_M_worst 15) 187 16 = true := by decide +kernel
set_option maxRecDepth 100000 in
theorem kb_M_worst_16 : ckS "PuntYardModel" false false 9 prog_14_method_85_code mtb B_M_worst (Option.some Jvm.ClassFile.FieldType.int) (blkI B_M_worst 16) 189 17 = true := by decide +kernel
set_option maxRecDepth 100000 in
theorem k_M_worst : ckM e_M_worst = true := by
  have h : ∀ b ∈ B_M_worst, ckS "PuntYardModel" false false 9 prog_14_method_85_code mtb B_M_worst (Option.some Jvm.ClassFile.FieldType.int) b.2.1 b.1 b.2.2 = true := List.forall_mem_cons.mpr ⟨kb_M_worst_0, List.forall_mem_cons.mpr ⟨kb_M_worst_1, List.forall_mem_cons.mpr ⟨kb_M_worst_2, List.forall_mem_cons.mpr ⟨kb_M_worst_3, List.forall_mem_cons.mpr ⟨kb_M_worst_4, List.forall_mem_cons.mpr ⟨kb_M_worst_5, List.forall_mem_cons.mpr ⟨kb_M_worst_6, List.forall_mem_cons.mpr ⟨kb_M_worst_7, List.forall_mem_cons.mpr ⟨kb_M_worst_8, List.forall_mem_cons.mpr ⟨kb_M_worst_9, List.forall_mem_cons.mpr ⟨kb_M_worst_10, List.forall_mem_cons.mpr ⟨kb_M_worst_11, List.forall_mem_cons.mpr ⟨kb_M_worst_12, List.forall_mem_cons.mpr ⟨kb_M_worst_13, List.forall_mem_cons.mpr ⟨kb_M_worst_14, List.forall_mem_cons.mpr ⟨kb_M_worst_15, List.forall_mem_cons.mpr ⟨kb_M_worst_16, fun _ h => absurd h List.not_mem_nil⟩⟩⟩⟩⟩⟩⟩⟩⟩⟩⟩⟩⟩⟩⟩⟩⟩
  unfold ckM
  rw [Bool.and_eq_true, Bool.and_eq_true]
  exact ⟨by decide +kernel, rfl, List.all_eq_true.mpr h⟩
set_option maxRecDepth 100000 in
set_option maxHeartbeats 4000000 in
theorem k_M_hasOut : ckM e_M_hasOut = true := by decide +kernel
set_option maxRecDepth 100000 in
set_option maxHeartbeats 4000000 in
theorem k_M_together : ckM e_M_together = true := by decide +kernel
set_option maxRecDepth 100000 in
set_option maxHeartbeats 4000000 in
theorem k_M_wornNow : ckM e_M_wornNow = true := by decide +kernel
set_option maxRecDepth 100000 in
set_option maxHeartbeats 4000000 in
theorem k_M_worn : ckM e_M_worn = true := by decide +kernel
set_option maxRecDepth 100000 in
set_option maxHeartbeats 4000000 in
theorem k_M_old : ckM e_M_old = true := by decide +kernel
set_option maxRecDepth 100000 in
set_option maxHeartbeats 4000000 in
theorem k_M_doubt : ckM e_M_doubt = true := by decide +kernel
set_option maxRecDepth 100000 in
set_option maxHeartbeats 4000000 in
theorem k_M_comes : ckM e_M_comes = true := by decide +kernel
set_option maxRecDepth 100000 in
theorem kb_M_queue_0 : ckS "PuntYardModel" false false 11 prog_14_method_93_code mtb B_M_queue (Option.some Jvm.ClassFile.FieldType.int) (blkI B_M_queue 0) 0 1 = true := by decide +kernel
set_option maxRecDepth 100000 in
theorem kb_M_queue_1 : ckS "PuntYardModel" false false 11 prog_14_method_93_code mtb B_M_queue (Option.some Jvm.ClassFile.FieldType.int) (blkI B_M_queue 1) 29 2 = true := by decide +kernel
set_option maxRecDepth 100000 in
theorem kb_M_queue_2 : ckS "PuntYardModel" false false 11 prog_14_method_93_code mtb B_M_queue (Option.some Jvm.ClassFile.FieldType.int) (blkI B_M_queue 2) 31 3 = true := by decide +kernel
set_option maxRecDepth 100000 in
theorem kb_M_queue_3 : ckS "PuntYardModel" false false 11 prog_14_method_93_code mtb B_M_queue (Option.some Jvm.ClassFile.FieldType.int) (blkI B_M_queue 3) 52 4 = true := by decide +kernel
set_option maxRecDepth 100000 in
theorem kb_M_queue_4 : ckS "PuntYardModel" false false 11 prog_14_method_93_code mtb B_M_queue (Option.some Jvm.ClassFile.FieldType.int) (blkI B_M_queue 4) 56 5 = true := by decide +kernel
set_option maxRecDepth 100000 in
theorem kb_M_queue_5 : ckS "PuntYardModel" false false 11 prog_14_method_93_code mtb B_M_queue (Option.some Jvm.ClassFile.FieldType.int) (blkI B_M_queue 5) 61 6 = true := by decide +kernel
set_option maxRecDepth 100000 in
theorem kb_M_queue_6 : ckS "PuntYardModel" false false 11 prog_14_method_93_code mtb B_M_queue (Option.some Jvm.ClassFile.FieldType.int) (blkI B_M_queue 6) 84 7 = true := by decide +kernel
set_option maxRecDepth 100000 in
theorem kb_M_queue_7 : ckS "PuntYardModel" false false 11 prog_14_method_93_code mtb B_M_queue (Option.some Jvm.ClassFile.FieldType.int) (blkI B_M_queue 7) 101 8 = true := by decide +kernel
set_option maxRecDepth 100000 in
theorem kb_M_queue_8 : ckS "PuntYardModel" false false 11 prog_14_method_93_code mtb B_M_queue (Option.some Jvm.ClassFile.FieldType.int) (blkI B_M_queue 8) 124 9 = true := by decide +kernel
set_option maxRecDepth 100000 in
theorem kb_M_queue_9 : ckS "PuntYardModel" false false 11 prog_14_method_93_code mtb B_M_queue (Option.some Jvm.ClassFile.FieldType.int) (blkI B_M_queue 9) 158 10 = true := by decide +kernel
set_option maxRecDepth 100000 in
theorem kb_M_queue_10 : ckS "PuntYardModel" false false 11 prog_14_method_93_code mtb B_M_queue (Option.some Jvm.ClassFile.FieldType.int) (blkI B_M_queue 10) 162 11 = true := by decide +kernel
set_option maxRecDepth 100000 in
theorem kb_M_queue_11 : ckS "PuntYardModel" false false 11 prog_14_method_93_code mtb B_M_queue (Option.some Jvm.ClassFile.FieldType.int) (blkI B_M_queue 11) 163 12 = true := by decide +kernel
set_option maxRecDepth 100000 in
theorem kb_M_queue_12 : ckS "PuntYardModel" false false 11 prog_14_method_93_code mtb B_M_queue (Option.some Jvm.ClassFile.FieldType.int) (blkI B_M_queue 12) 169 13 = true := by decide +kernel
set_option maxRecDepth 100000 in
theorem kb_M_queue_13 : ckS "PuntYardModel" false false 11 prog_14_method_93_code mtb B_M_queue (Option.some Jvm.ClassFile.FieldType.int) (blkI B_M_queue 13) 175 14 = true := by decide +kernel
set_option maxRecDepth 100000 in
theorem kb_M_queue_14 : ckS "PuntYardModel" false false 11 prog_14_method_93_code mtb B_M_queue (Option.some Jvm.ClassFile.FieldType.int) (blkI B_M_queue 14) 186 15 = true := by decide +kernel
set_option maxRecDepth 100000 in
theorem kb_M_queue_15 : ckS "PuntYardModel" false false 11 prog_14_method_93_code mtb B_M_queue (Option.some Jvm.ClassFile.FieldType.int) (blkI B_M_queue 15) 192 16 = true := by decide +kernel
set_option maxRecDepth 100000 in
theorem k_M_queue : ckM e_M_queue = true := by
  have h : ∀ b ∈ B_M_queue, ckS "PuntYardModel" false false 11 prog_14_method_93_code mtb B_M_queue (Option.some Jvm.ClassFile.FieldType.int) b.2.1 b.1 b.2.2 = true := List.forall_mem_cons.mpr ⟨kb_M_queue_0, List.forall_mem_cons.mpr ⟨kb_M_queue_1, List.forall_mem_cons.mpr ⟨kb_M_queue_2, List.forall_mem_cons.mpr ⟨kb_M_queue_3, List.forall_mem_cons.mpr ⟨kb_M_queue_4, List.forall_mem_cons.mpr ⟨kb_M_queue_5, List.forall_mem_cons.mpr ⟨kb_M_queue_6, List.forall_mem_cons.mpr ⟨kb_M_queue_7, List.forall_mem_cons.mpr ⟨kb_M_queue_8, List.forall_mem_cons.mpr ⟨kb_M_queue_9, List.forall_mem_cons.mpr ⟨kb_M_queue_10, List.forall_mem_cons.mpr ⟨kb_M_queue_11, List.forall_mem_cons.mpr ⟨kb_M_queue_12, List.forall_mem_cons.mpr ⟨kb_M_queue_13, List.forall_mem_cons.mpr ⟨kb_M_queue_14, List.forall_mem_cons.mpr ⟨kb_M_queue_15, fun _ h => absurd h List.not_mem_nil⟩⟩⟩⟩⟩⟩⟩⟩⟩⟩⟩⟩⟩⟩⟩⟩
  unfold ckM
  rw [Bool.and_eq_true, Bool.and_eq_true]
  exact ⟨by decide +kernel, rfl, List.all_eq_true.mpr h⟩
set_option maxRecDepth 100000 in
set_option maxHeartbeats 4000000 in
theorem k_M_chance : ckM e_M_chance = true := by decide +kernel
set_option maxRecDepth 100000 in
set_option maxHeartbeats 4000000 in
theorem k_M_areWhole : ckM e_M_areWhole = true := by decide +kernel
set_option maxRecDepth 100000 in
theorem kb_M_served_0 : ckS "PuntYardModel" false false 15 prog_14_method_96_code mtb B_M_served (Option.some Jvm.ClassFile.FieldType.long) (blkI B_M_served 0) 0 1 = true := by decide +kernel
set_option maxRecDepth 100000 in
theorem kb_M_served_1 : ckS "PuntYardModel" false false 15 prog_14_method_96_code mtb B_M_served (Option.some Jvm.ClassFile.FieldType.long) (blkI B_M_served 1) 2 2 = true := by decide +kernel
set_option maxRecDepth 100000 in
theorem kb_M_served_2 : ckS "PuntYardModel" false false 15 prog_14_method_96_code mtb B_M_served (Option.some Jvm.ClassFile.FieldType.long) (blkI B_M_served 2) 21 3 = true := by decide +kernel
set_option maxRecDepth 100000 in
theorem kb_M_served_3 : ckS "PuntYardModel" false false 15 prog_14_method_96_code mtb B_M_served (Option.some Jvm.ClassFile.FieldType.long) (blkI B_M_served 3) 22 4 = true := by decide +kernel
set_option maxRecDepth 100000 in
theorem kb_M_served_4 : ckS "PuntYardModel" false false 15 prog_14_method_96_code mtb B_M_served (Option.some Jvm.ClassFile.FieldType.long) (blkI B_M_served 4) 29 5 = true := by decide +kernel
set_option maxRecDepth 100000 in
theorem kb_M_served_5 : ckS "PuntYardModel" false false 15 prog_14_method_96_code mtb B_M_served (Option.some Jvm.ClassFile.FieldType.long) (blkI B_M_served 5) 39 6 = true := by decide +kernel
set_option maxRecDepth 100000 in
theorem kb_M_served_6 : ckS "PuntYardModel" false false 15 prog_14_method_96_code mtb B_M_served (Option.some Jvm.ClassFile.FieldType.long) (blkI B_M_served 6) 57 7 = true := by decide +kernel
set_option maxRecDepth 100000 in
theorem kb_M_served_7 : ckS "PuntYardModel" false false 15 prog_14_method_96_code mtb B_M_served (Option.some Jvm.ClassFile.FieldType.long) (blkI B_M_served 7) 78 8 = true := by decide +kernel
set_option maxRecDepth 100000 in
theorem kb_M_served_8 : ckS "PuntYardModel" false false 15 prog_14_method_96_code mtb B_M_served (Option.some Jvm.ClassFile.FieldType.long) (blkI B_M_served 8) 81 9 = true := by decide +kernel

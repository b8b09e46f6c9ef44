/-! instructions, on (printed by wip/whole/emitmt.py) -/
set_option maxRecDepth 100000 in
set_option maxHeartbeats 4000000 in
theorem k_Reader_take : ckM e_Reader_take = true := by decide +kernel
set_option maxRecDepth 100000 in
set_option maxHeartbeats 4000000 in
theorem k_Reader_takeNumber : ckM e_Reader_takeNumber = true := by decide +kernel
set_option maxRecDepth 100000 in
set_option maxHeartbeats 4000000 in
theorem k_Reader_readRule : ckM e_Reader_readRule = true := by decide +kernel
set_option maxRecDepth 100000 in
set_option maxHeartbeats 4000000 in
theorem k_Reader_readPrice : ckM e_Reader_readPrice = true := by decide +kernel
set_option maxRecDepth 100000 in
set_option maxHeartbeats 4000000 in
theorem k_Reader_readBusy : ckM e_Reader_readBusy = true := by decide +kernel
set_option maxRecDepth 100000 in
set_option maxHeartbeats 4000000 in
theorem k_Reader_readDeposit : ckM e_Reader_readDeposit = true := by decide +kernel
set_option maxRecDepth 100000 in
set_option maxHeartbeats 4000000 in
theorem k_Reader_readLate : ckM e_Reader_readLate = true := by decide +kernel
set_option maxRecDepth 100000 in
set_option maxHeartbeats 4000000 in
theorem k_Reader_readRight : ckM e_Reader_readRight = true := by decide +kernel
set_option maxRecDepth 100000 in
set_option maxHeartbeats 4000000 in
theorem k_Reader_readHarm : ckM e_Reader_readHarm = true := by decide +kernel
set_option maxRecDepth 100000 in
set_option maxHeartbeats 4000000 in
theorem k_Reader_readShut : ckM e_Reader_readShut = true := by decide +kernel
set_option maxRecDepth 100000 in
set_option maxHeartbeats 4000000 in
theorem k_Reader_readAny : ckM e_Reader_readAny = true := by decide +kernel
set_option maxRecDepth 100000 in
set_option maxHeartbeats 4000000 in
theorem k_Reader_readAll : ckM e_Reader_readAll = true := by decide +kernel
set_option maxRecDepth 100000 in
theorem kb_Reader_readOne_0 : ckS "PuntYard$Reader" false false 7 prog_8_method_27_code mtb B_Reader_readOne (Option.none : Option Jvm.ClassFile.FieldType) (blkI B_Reader_readOne 0) 0 1 = true := by decide +kernel
set_option maxRecDepth 100000 in
theorem kb_Reader_readOne_1 : ckS "PuntYard$Reader" false false 7 prog_8_method_27_code mtb B_Reader_readOne (Option.none : Option Jvm.ClassFile.FieldType) (blkI B_Reader_readOne 1) 2 2 = true := by decide +kernel
set_option maxRecDepth 100000 in
theorem kb_Reader_readOne_2 : ckS "PuntYard$Reader" false false 7 prog_8_method_27_code mtb B_Reader_readOne (Option.none : Option Jvm.ClassFile.FieldType) (blkI B_Reader_readOne 2) 42 3 = true := by decide +kernel
set_option maxRecDepth 100000 in
theorem kb_Reader_readOne_3 : ckS "PuntYard$Reader" false false 7 prog_8_method_27_code mtb B_Reader_readOne (Option.none : Option Jvm.ClassFile.FieldType) (blkI B_Reader_readOne 3) 93 4 = true := by decide +kernel
set_option maxRecDepth 100000 in
theorem kb_Reader_readOne_4 : ckS "PuntYard$Reader" false false 7 prog_8_method_27_code mtb B_Reader_readOne (Option.none : Option Jvm.ClassFile.FieldType) (blkI B_Reader_readOne 4) 122 5 = true := by decide +kernel
set_option maxRecDepth 100000 in
theorem kb_Reader_readOne_5 : ckS "PuntYard$Reader" false false 7 prog_8_method_27_code mtb B_Reader_readOne (Option.none : Option Jvm.ClassFile.FieldType) (blkI B_Reader_readOne 5) 124 6 = true := by decide +kernel
set_option maxRecDepth 100000 in
theorem kb_Reader_readOne_6 : ckS "PuntYard$Reader" false false 7 prog_8_method_27_code mtb B_Reader_readOne (Option.none : Option Jvm.ClassFile.FieldType) (blkI B_Reader_readOne 6) 152 7 = true := by decide +kernel
set_option maxRecDepth 100000 in
theorem kb_Reader_readOne_7 : ckS "PuntYard$Reader" false false 7 prog_8_method_27_code mtb B_Reader_readOne (Option.none : Option Jvm.ClassFile.FieldType) (blkI B_Reader_readOne 7) 154 8 = true := by decide +kernel
set_option maxRecDepth 100000 in
theorem kb_Reader_readOne_8 : ckS "PuntYard$Reader" false false 7 prog_8_method_27_code mtb B_Reader_readOne (Option.none : Option Jvm.ClassFile.FieldType) (blkI B_Reader_readOne 8) 182 9 = true := by decide +kernel
set_option maxRecDepth 100000 in
theorem kb_Reader_readOne_9 : ckS "PuntYard$Reader" false false 7 prog_8_method_27_code mtb B_Reader_readOne (Option.none : Option Jvm.ClassFile.FieldType) (blkI B_Reader_readOne 9) 184 10 = true := by decide +kernel
set_option maxRecDepth 100000 in
theorem kb_Reader_readOne_10 : ckS "PuntYard$Reader" false false 7 prog_8_method_27_code mtb B_Reader_readOne (Option.none : Option Jvm.ClassFile.FieldType) (blkI B_Reader_readOne 10) 207 11 = true := by decide +kernel
set_option maxRecDepth 100000 in
theorem kb_Reader_readOne_11 : ckS "PuntYard$Reader" false false 7 prog_8_method_27_code mtb B_Reader_readOne (Option.none : Option Jvm.ClassFile.FieldType) (blkI B_Reader_readOne 11) 221 12 = true := by decide +kernel
set_option maxRecDepth 100000 in
theorem k_Reader_readOne : ckM e_Reader_readOne = true := by
  have h : ∀ b ∈ B_Reader_readOne, ckS "PuntYard$Reader" false false 7 prog_8_method_27_code mtb B_Reader_readOne (Option.none : Option Jvm.ClassFile.FieldType) b.2.1 b.1 b.2.2 = true := List.forall_mem_cons.mpr ⟨kb_Reader_readOne_0, List.forall_mem_cons.mpr ⟨kb_Reader_readOne_1, List.forall_mem_cons.mpr ⟨kb_Reader_readOne_2, List.forall_mem_cons.mpr ⟨kb_Reader_readOne_3, List.forall_mem_cons.mpr ⟨kb_Reader_readOne_4, List.forall_mem_cons.mpr ⟨kb_Reader_readOne_5, List.forall_mem_cons.mpr ⟨kb_Reader_readOne_6, List.forall_mem_cons.mpr ⟨kb_Reader_readOne_7, List.forall_mem_cons.mpr ⟨kb_Reader_readOne_8, List.forall_mem_cons.mpr ⟨kb_Reader_readOne_9, List.forall_mem_cons.mpr ⟨kb_Reader_readOne_10, List.forall_mem_cons.mpr ⟨kb_Reader_readOne_11, fun _ h => absurd h List.not_mem_nil⟩⟩⟩⟩⟩⟩⟩⟩⟩⟩⟩⟩
  unfold ckM
  rw [Bool.and_eq_true, Bool.and_eq_true]
  exact ⟨by decide +kernel, rfl, List.all_eq_true.mpr h⟩
set_option maxRecDepth 100000 in
set_option maxHeartbeats 4000000 in
theorem k_River_init : ckM e_River_init = true := by decide +kernel
set_option maxRecDepth 100000 in
theorem kc_River_take_0_2 : ckS "PuntYard$River" false false 2 prog_9_method_2_code mtb B_River_take (Option.none : Option Jvm.ClassFile.FieldType) ((blkI B_River_take 0).drop 100) 188 1 = true := by decide +kernel
set_option maxRecDepth 100000 in
theorem kl_River_take_0_1 : ckL "PuntYard$River" false false 2 prog_9_method_2_code mtb B_River_take (((blkI B_River_take 0).drop 50).take 50) 96 = true := by decide +kernel
set_option maxRecDepth 100000 in
theorem kp_River_take_0_1 : 96 + plen (((blkI B_River_take 0).drop 50).take 50) = 188 := by decide +kernel
theorem kc_River_take_0_1 : ckS "PuntYard$River" false false 2 prog_9_method_2_code mtb B_River_take (Option.none : Option Jvm.ClassFile.FieldType) ((blkI B_River_take 0).drop 50) 96 1 = true := ckS_cut 50 kl_River_take_0_1 kp_River_take_0_1 (by rw [List.drop_drop]; exact kc_River_take_0_2)
set_option maxRecDepth 100000 in
theorem kl_River_take_0_0 : ckL "PuntYard$River" false false 2 prog_9_method_2_code mtb B_River_take (((blkI B_River_take 0).drop 0).take 50) 0 = true := by decide +kernel
set_option maxRecDepth 100000 in
theorem kp_River_take_0_0 : 0 + plen (((blkI B_River_take 0).drop 0).take 50) = 96 := by decide +kernel
theorem kc_River_take_0_0 : ckS "PuntYard$River" false false 2 prog_9_method_2_code mtb B_River_take (Option.none : Option Jvm.ClassFile.FieldType) ((blkI B_River_take 0).drop 0) 0 1 = true := ckS_cut 50 kl_River_take_0_0 kp_River_take_0_0 (by rw [List.drop_drop]; exact kc_River_take_0_1)
theorem kb_River_take_0 : ckS "PuntYard$River" false false 2 prog_9_method_2_code mtb B_River_take (Option.none : Option Jvm.ClassFile.FieldType) (blkI B_River_take 0) 0 1 = true := kc_River_take_0_0
set_option maxRecDepth 100000 in
theorem k_River_take : ckM e_River_take = true := by
  have h : ∀ b ∈ B_River_take, ckS "PuntYard$River" false false 2 prog_9_method_2_code mtb B_River_take (Option.none : Option Jvm.ClassFile.FieldType) b.2.1 b.1 b.2.2 = true := List.forall_mem_cons.mpr ⟨kb_River_take_0, fun _ h => absurd h List.not_mem_nil⟩
  unfold ckM
  rw [Bool.and_eq_true, Bool.and_eq_true]
  exact ⟨by decide +kernel, rfl, List.all_eq_true.mpr h⟩
set_option maxRecDepth 100000 in
set_option maxHeartbeats 4000000 in
theorem k_River_addSpell : ckM e_River_addSpell = true := by decide +kernel
set_option maxRecDepth 100000 in
set_option maxHeartbeats 4000000 in
theorem k_River_addNest : ckM e_River_addNest = true := by decide +kernel
set_option maxRecDepth 100000 in
set_option maxHeartbeats 4000000 in
theorem k_River_addRegatta : ckM e_River_addRegatta = true := by decide +kernel
set_option maxRecDepth 100000 in
set_option maxHeartbeats 4000000 in
theorem k_River_rains : ckM e_River_rains = true := by decide +kernel
set_option maxRecDepth 100000 in
set_option maxHeartbeats 4000000 in
theorem k_River_countWet : ckM e_River_countWet = true := by decide +kernel
set_option maxRecDepth 100000 in
set_option maxHeartbeats 4000000 in
theorem k_River_weedOf : ckM e_River_weedOf = true := by decide +kernel
set_option maxRecDepth 100000 in
set_option maxHeartbeats 4000000 in
theorem k_River_nestedReaches : ckM e_River_nestedReaches = true := by decide +kernel
set_option maxRecDepth 100000 in
set_option maxHeartbeats 4000000 in
theorem k_River_racedReaches : ckM e_River_racedReaches = true := by decide +kernel

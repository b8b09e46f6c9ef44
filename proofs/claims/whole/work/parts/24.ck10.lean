/-! instructions, on (printed by wip/whole/emitmt.py) -/
set_option maxRecDepth 100000 in
theorem kb_M_law_8 : ckS "PuntYardModel" false false 7 prog_14_method_34_code mtb B_M_law (Option.some Jvm.ClassFile.FieldType.int) (blkI B_M_law 8) 242 9 = true := by decide +kernel
set_option maxRecDepth 100000 in
theorem kb_M_law_9 : ckS "PuntYardModel" false false 7 prog_14_method_34_code mtb B_M_law (Option.some Jvm.ClassFile.FieldType.int) (blkI B_M_law 9) 247 10 = true := by decide +kernel
set_option maxRecDepth 100000 in
theorem kb_M_law_10 : ckS "PuntYardModel" false false 7 prog_14_method_34_code mtb B_M_law (Option.some Jvm.ClassFile.FieldType.int) (blkI B_M_law 10) 310 11 = true := by decide +kernel
set_option maxRecDepth 100000 in
theorem k_M_law : ckM e_M_law = true := by
  have h : ∀ b ∈ B_M_law, ckS "PuntYardModel" false false 7 prog_14_method_34_code mtb B_M_law (Option.some Jvm.ClassFile.FieldType.int) b.2.1 b.1 b.2.2 = true := List.forall_mem_cons.mpr ⟨kb_M_law_0, List.forall_mem_cons.mpr ⟨kb_M_law_1, List.forall_mem_cons.mpr ⟨kb_M_law_2, List.forall_mem_cons.mpr ⟨kb_M_law_3, List.forall_mem_cons.mpr ⟨kb_M_law_4, List.forall_mem_cons.mpr ⟨kb_M_law_5, List.forall_mem_cons.mpr ⟨kb_M_law_6, List.forall_mem_cons.mpr ⟨kb_M_law_7, List.forall_mem_cons.mpr ⟨kb_M_law_8, List.forall_mem_cons.mpr ⟨kb_M_law_9, List.forall_mem_cons.mpr ⟨kb_M_law_10, fun _ h => absurd h List.not_mem_nil⟩⟩⟩⟩⟩⟩⟩⟩⟩⟩⟩
  unfold ckM
  rw [Bool.and_eq_true, Bool.and_eq_true]
  exact ⟨by decide +kernel, rfl, List.all_eq_true.mpr h⟩
set_option maxRecDepth 100000 in
set_option maxHeartbeats 4000000 in
theorem k_M_fault : ckM e_M_fault = true := by decide +kernel
set_option maxRecDepth 100000 in
set_option maxHeartbeats 4000000 in
theorem k_M_lawOf : ckM e_M_lawOf = true := by decide +kernel
set_option maxRecDepth 100000 in
set_option maxHeartbeats 4000000 in
theorem k_M_said : ckM e_M_said = true := by decide +kernel
set_option maxRecDepth 100000 in
theorem kb_M_rule_1_0 : ckS "PuntYardModel" false false 4 prog_14_method_38_code mtb B_M_rule_1 (Option.some Jvm.ClassFile.FieldType.int) (blkI B_M_rule_1 0) 0 1 = true := by decide +kernel
set_option maxRecDepth 100000 in
theorem kb_M_rule_1_1 : ckS "PuntYardModel" false false 4 prog_14_method_38_code mtb B_M_rule_1 (Option.some Jvm.ClassFile.FieldType.int) (blkI B_M_rule_1 1) 9 2 = true := by decide +kernel
set_option maxRecDepth 100000 in
theorem kb_M_rule_1_2 : ckS "PuntYardModel" false false 4 prog_14_method_38_code mtb B_M_rule_1 (Option.some Jvm.ClassFile.FieldType.int) (blkI B_M_rule_1 2) 21 3 = true := by decide +kernel
set_option maxRecDepth 100000 in
theorem kb_M_rule_1_3 : ckS "PuntYardModel" false false 4 prog_14_method_38_code mtb B_M_rule_1 (Option.some Jvm.ClassFile.FieldType.int) (blkI B_M_rule_1 3) 42 4 = true := by decide +kernel
set_option maxRecDepth 100000 in
theorem kb_M_rule_1_4 : ckS "PuntYardModel" false false 4 prog_14_method_38_code mtb B_M_rule_1 (Option.some Jvm.ClassFile.FieldType.int) (blkI B_M_rule_1 4) 65 5 = true := by decide +kernel
set_option maxRecDepth 100000 in
theorem kb_M_rule_1_5 : ckS "PuntYardModel" false false 4 prog_14_method_38_code mtb B_M_rule_1 (Option.some Jvm.ClassFile.FieldType.int) (blkI B_M_rule_1 5) 89 6 = true := by decide +kernel
set_option maxRecDepth 100000 in
theorem kb_M_rule_1_6 : ckS "PuntYardModel" false false 4 prog_14_method_38_code mtb B_M_rule_1 (Option.some Jvm.ClassFile.FieldType.int) (blkI B_M_rule_1 6) 113 7 = true := by decide +kernel
set_option maxRecDepth 100000 in
theorem kb_M_rule_1_7 : ckS "PuntYardModel" false false 4 prog_14_method_38_code mtb B_M_rule_1 (Option.some Jvm.ClassFile.FieldType.int) (blkI B_M_rule_1 7) 158 8 = true := by decide +kernel
set_option maxRecDepth 100000 in
theorem kb_M_rule_1_8 : ckS "PuntYardModel" false false 4 prog_14_method_38_code mtb B_M_rule_1 (Option.some Jvm.ClassFile.FieldType.int) (blkI B_M_rule_1 8) 159 9 = true := by decide +kernel
set_option maxRecDepth 100000 in
theorem k_M_rule_1 : ckM e_M_rule_1 = true := by
  have h : ∀ b ∈ B_M_rule_1, ckS "PuntYardModel" false false 4 prog_14_method_38_code mtb B_M_rule_1 (Option.some Jvm.ClassFile.FieldType.int) b.2.1 b.1 b.2.2 = true := List.forall_mem_cons.mpr ⟨kb_M_rule_1_0, List.forall_mem_cons.mpr ⟨kb_M_rule_1_1, List.forall_mem_cons.mpr ⟨kb_M_rule_1_2, List.forall_mem_cons.mpr ⟨kb_M_rule_1_3, List.forall_mem_cons.mpr ⟨kb_M_rule_1_4, List.forall_mem_cons.mpr ⟨kb_M_rule_1_5, List.forall_mem_cons.mpr ⟨kb_M_rule_1_6, List.forall_mem_cons.mpr ⟨kb_M_rule_1_7, List.forall_mem_cons.mpr ⟨kb_M_rule_1_8, fun _ h => absurd h List.not_mem_nil⟩⟩⟩⟩⟩⟩⟩⟩⟩
  unfold ckM
  rw [Bool.and_eq_true, Bool.and_eq_true]
  exact ⟨by decide +kernel, rfl, List.all_eq_true.mpr h⟩
set_option maxRecDepth 100000 in
set_option maxHeartbeats 4000000 in
theorem k_M_water : ckM e_M_water = true := by decide +kernel
set_option maxRecDepth 100000 in
set_option maxHeartbeats 4000000 in
theorem k_M_rain : ckM e_M_rain = true := by decide +kernel
set_option maxRecDepth 100000 in
set_option maxHeartbeats 4000000 in
theorem k_M_rains : ckM e_M_rains = true := by decide +kernel
set_option maxRecDepth 100000 in
set_option maxHeartbeats 4000000 in
theorem k_M_weed : ckM e_M_weed = true := by decide +kernel
set_option maxRecDepth 100000 in
set_option maxHeartbeats 4000000 in
theorem k_M_cut : ckM e_M_cut = true := by decide +kernel
set_option maxRecDepth 100000 in
set_option maxHeartbeats 4000000 in
theorem k_M_weedOn : ckM e_M_weedOn = true := by decide +kernel
set_option maxRecDepth 100000 in
set_option maxHeartbeats 4000000 in
theorem k_M_boat : ckM e_M_boat = true := by decide +kernel
set_option maxRecDepth 100000 in
set_option maxHeartbeats 4000000 in
theorem k_M_isBoat : ckM e_M_isBoat = true := by decide +kernel
set_option maxRecDepth 100000 in
set_option maxHeartbeats 4000000 in
theorem k_M_isHire : ckM e_M_isHire = true := by decide +kernel
set_option maxRecDepth 100000 in
set_option maxHeartbeats 4000000 in
theorem k_M_isTelling : ckM e_M_isTelling = true := by decide +kernel
set_option maxRecDepth 100000 in
theorem kb_M_knows_0 : ckS "PuntYardModel" false false 4 prog_14_method_49_code mtb B_M_knows (Option.none : Option Jvm.ClassFile.FieldType) (blkI B_M_knows 0) 0 1 = true := by decide +kernel
set_option maxRecDepth 100000 in
theorem kb_M_knows_1 : ckS "PuntYardModel" false false 4 prog_14_method_49_code mtb B_M_knows (Option.none : Option Jvm.ClassFile.FieldType) (blkI B_M_knows 1) 7 2 = true := by decide +kernel
set_option maxRecDepth 100000 in
theorem kb_M_knows_2 : ckS "PuntYardModel" false false 4 prog_14_method_49_code mtb B_M_knows (Option.none : Option Jvm.ClassFile.FieldType) (blkI B_M_knows 2) 49 3 = true := by decide +kernel
set_option maxRecDepth 100000 in
theorem kb_M_knows_3 : ckS "PuntYardModel" false false 4 prog_14_method_49_code mtb B_M_knows (Option.none : Option Jvm.ClassFile.FieldType) (blkI B_M_knows 3) 51 4 = true := by decide +kernel
set_option maxRecDepth 100000 in
theorem kb_M_knows_4 : ckS "PuntYardModel" false false 4 prog_14_method_49_code mtb B_M_knows (Option.none : Option Jvm.ClassFile.FieldType) (blkI B_M_knows 4) 85 5 = true := by decide +kernel
set_option maxRecDepth 100000 in
theorem kb_M_knows_5 : ckS "PuntYardModel" false false 4 prog_14_method_49_code mtb B_M_knows (Option.none : Option Jvm.ClassFile.FieldType) (blkI B_M_knows 5) 107 6 = true := by decide +kernel
set_option maxRecDepth 100000 in
theorem kb_M_knows_6 : ckS "PuntYardModel" false false 4 prog_14_method_49_code mtb B_M_knows (Option.none : Option Jvm.ClassFile.FieldType) (blkI B_M_knows 6) 141 7 = true := by decide +kernel
set_option maxRecDepth 100000 in
theorem kb_M_knows_7 : ckS "PuntYardModel" false false 4 prog_14_method_49_code mtb B_M_knows (Option.none : Option Jvm.ClassFile.FieldType) (blkI B_M_knows 7) 147 8 = true := by decide +kernel
set_option maxRecDepth 100000 in
theorem k_M_knows : ckM e_M_knows = true := by
  have h : ∀ b ∈ B_M_knows, ckS "PuntYardModel" false false 4 prog_14_method_49_code mtb B_M_knows (Option.none : Option Jvm.ClassFile.FieldType) b.2.1 b.1 b.2.2 = true := List.forall_mem_cons.mpr ⟨kb_M_knows_0, List.forall_mem_cons.mpr ⟨kb_M_knows_1, List.forall_mem_cons.mpr ⟨kb_M_knows_2, List.forall_mem_cons.mpr ⟨kb_M_knows_3, List.forall_mem_cons.mpr ⟨kb_M_knows_4, List.forall_mem_cons.mpr ⟨kb_M_knows_5, List.forall_mem_cons.mpr ⟨kb_M_knows_6, List.forall_mem_cons.mpr ⟨kb_M_knows_7, fun _ h => absurd h List.not_mem_nil⟩⟩⟩⟩⟩⟩⟩⟩
  unfold ckM
  rw [Bool.and_eq_true, Bool.and_eq_true]
  exact ⟨by decide +kernel, rfl, List.all_eq_true.mpr h⟩
set_option maxRecDepth 100000 in
set_option maxHeartbeats 4000000 in
theorem k_M_isKnown : ckM e_M_isKnown = true := by decide +kernel
set_option maxRecDepth 100000 in
set_option maxHeartbeats 4000000 in
theorem k_M_isBack : ckM e_M_isBack = true := by decide +kernel
set_option maxRecDepth 100000 in
set_option maxHeartbeats 4000000 in
theorem k_M_isOut : ckM e_M_isOut = true := by decide +kernel
set_option maxRecDepth 100000 in
set_option maxHeartbeats 4000000 in
theorem k_M_outSet : ckM e_M_outSet = true := by decide +kernel
set_option maxRecDepth 100000 in
set_option maxHeartbeats 4000000 in
theorem k_M_asks : ckM e_M_asks = true := by decide +kernel
set_option maxRecDepth 100000 in
theorem kb_M_isTrue_0 : ckS "PuntYardModel" false false 5 prog_14_method_55_code mtb B_M_isTrue (Option.some Jvm.ClassFile.FieldType.boolean) (blkI B_M_isTrue 0) 0 1 = true := by decide +kernel
set_option maxRecDepth 100000 in
theorem kb_M_isTrue_1 : ckS "PuntYardModel" false false 5 prog_14_method_55_code mtb B_M_isTrue (Option.some Jvm.ClassFile.FieldType.boolean) (blkI B_M_isTrue 1) 9 2 = true := by decide +kernel
set_option maxRecDepth 100000 in
theorem kb_M_isTrue_2 : ckS "PuntYardModel" false false 5 prog_14_method_55_code mtb B_M_isTrue (Option.some Jvm.ClassFile.FieldType.boolean) (blkI B_M_isTrue 2) 71 3 = true := by decide +kernel
set_option maxRecDepth 100000 in
theorem kb_M_isTrue_3 : ckS "PuntYardModel" false false 5 prog_14_method_55_code mtb B_M_isTrue (Option.some Jvm.ClassFile.FieldType.boolean) (blkI B_M_isTrue 3) 75 4 = true := by decide +kernel
set_option maxRecDepth 100000 in
theorem kb_M_isTrue_4 : ckS "PuntYardModel" false false 5 prog_14_method_55_code mtb B_M_isTrue (Option.some Jvm.ClassFile.FieldType.boolean) (blkI B_M_isTrue 4) 100 5 = true := by decide +kernel
set_option maxRecDepth 100000 in
theorem kb_M_isTrue_5 : ckS "PuntYardModel" false false 5 prog_14_method_55_code mtb B_M_isTrue (Option.some Jvm.ClassFile.FieldType.boolean) (blkI B_M_isTrue 5) 104 6 = true := by decide +kernel
set_option maxRecDepth 100000 in
theorem kb_M_isTrue_6 : ckS "PuntYardModel" false false 5 prog_14_method_55_code mtb B_M_isTrue (Option.some Jvm.ClassFile.FieldType.boolean) (blkI B_M_isTrue 6) 119 7 = true := by decide +kernel
set_option maxRecDepth 100000 in
theorem kb_M_isTrue_7 : ckS "PuntYardModel" false false 5 prog_14_method_55_code mtb B_M_isTrue (Option.some Jvm.ClassFile.FieldType.boolean) (blkI B_M_isTrue 7) 120 8 = true := by decide +kernel
set_option maxRecDepth 100000 in
theorem kb_M_isTrue_8 : ckS "PuntYardModel" false false 5 prog_14_method_55_code mtb B_M_isTrue (Option.some Jvm.ClassFile.FieldType.boolean) (blkI B_M_isTrue 8) 127 9 = true := by decide +kernel
set_option maxRecDepth 100000 in
theorem kb_M_isTrue_9 : ckS "PuntYardModel" false false 5 prog_14_method_55_code mtb B_M_isTrue (Option.some Jvm.ClassFile.FieldType.boolean) (blkI B_M_isTrue 9) 159 10 = true := by decide +kernel
set_option maxRecDepth 100000 in
theorem kb_M_isTrue_10 : ckS "PuntYardModel" false false 5 prog_14_method_55_code mtb B_M_isTrue (Option.some Jvm.ClassFile.FieldType.boolean) (blkI B_M_isTrue 10) 160 11 = true := by decide +kernel
set_option maxRecDepth 100000 in
theorem kb_M_isTrue_11 : ckS "PuntYardModel" false false 5 prog_14_method_55_code mtb B_M_isTrue (Option.some Jvm.ClassFile.FieldType.boolean) (blkI B_M_isTrue 11) 164 12 = true := by decide +kernel
set_option maxRecDepth 100000 in
theorem kb_M_isTrue_12 : ckS "PuntYardModel" false false 5 prog_14_method_55_code mtb B_M_isTrue (Option.some Jvm.ClassFile.FieldType.boolean) (blkI B_M_isTrue 12) 204 13 = true := by decide +kernel
set_option maxRecDepth 100000 in
theorem kb_M_isTrue_13 : ckS "PuntYardModel" false false 5 prog_14_method_55_code mtb B_M_isTrue (Option.some Jvm.ClassFile.FieldType.boolean) (blkI B_M_isTrue 13) 208 14 = true := by decide +kernel
set_option maxRecDepth 100000 in
theorem kb_M_isTrue_14 : ckS "PuntYardModel" false false 5 prog_14_method_55_code mtb B_M_isTrue (Option.some Jvm.ClassFile.FieldType.boolean) (blkI B_M_isTrue 14) 212 15 = true := by decide +kernel
set_option maxRecDepth 100000 in
theorem kb_M_isTrue_15 : ckS "PuntYardModel" false false 5 prog_14_method_55_code mtb B_M_isTrue (Option.some Jvm.ClassFile.FieldType.boolean) (blkI B_M_isTrue 15) 236 16 = true := by decide +kernel
set_option maxRecDepth 100000 in
theorem kb_M_isTrue_16 : ckS "PuntYardModel" false false 5 prog_14_method_55_code mtb B_M_isTrue (Option.some Jvm.ClassFile.FieldType.boolean) (blkI B_M_isTrue 16) 237 17 = true := by decide +kernel
set_option maxRecDepth 100000 in
theorem kb_M_isTrue_17 : ckS "PuntYardModel" false false 5 prog_14_method_55_code mtb B_M_isTrue (Option.some Jvm.ClassFile.FieldType.boolean) (blkI B_M_isTrue 17) 238 18 = true := by decide +kernel
set_option maxRecDepth 100000 in
theorem kb_M_isTrue_18 : ckS "PuntYardModel" false false 5 prog_14_method_55_code mtb B_M_isTrue (Option.some Jvm.ClassFile.FieldType.boolean) (blkI B_M_isTrue 18) 244 19 = true := by decide +kernel
set_option maxRecDepth 100000 in
theorem kb_M_isTrue_19 : ckS "PuntYardModel" false false 5 prog_14_method_55_code mtb B_M_isTrue (Option.some Jvm.ClassFile.FieldType.boolean) (blkI B_M_isTrue 19) 268 20 = true := by decide +kernel
set_option maxRecDepth 100000 in
theorem kb_M_isTrue_20 : ckS "PuntYardModel" false false 5 prog_14_method_55_code mtb B_M_isTrue (Option.some Jvm.ClassFile.FieldType.boolean) (blkI B_M_isTrue 20) 272 21 = true := by decide +kernel
set_option maxRecDepth 100000 in
theorem kb_M_isTrue_21 : ckS "PuntYardModel" false false 5 prog_14_method_55_code mtb B_M_isTrue (Option.some Jvm.ClassFile.FieldType.boolean) (blkI B_M_isTrue 21) 273 22 = true := by decide +kernel
set_option maxRecDepth 100000 in
theorem k_M_isTrue : ckM e_M_isTrue = true := by
  have h : ∀ b ∈ B_M_isTrue, ckS "PuntYardModel" false false 5 prog_14_method_55_code mtb B_M_isTrue (Option.some Jvm.ClassFile.FieldType.boolean) b.2.1 b.1 b.2.2 = true := List.forall_mem_cons.mpr ⟨kb_M_isTrue_0, List.forall_mem_cons.mpr ⟨kb_M_isTrue_1, List.forall_mem_cons.mpr ⟨kb_M_isTrue_2, List.forall_mem_cons.mpr ⟨kb_M_isTrue_3, List.forall_mem_cons.mpr ⟨kb_M_isTrue_4, List.forall_mem_cons.mpr ⟨kb_M_isTrue_5, List.forall_mem_cons.mpr ⟨kb_M_isTrue_6, List.forall_mem_cons.mpr ⟨kb_M_isTrue_7, List.forall_mem_cons.mpr ⟨kb_M_isTrue_8, List.forall_mem_cons.mpr ⟨kb_M_isTrue_9, List.forall_mem_cons.mpr ⟨kb_M_isTrue_10, List.forall_mem_cons.mpr ⟨kb_M_isTrue_11, List.forall_mem_cons.mpr ⟨kb_M_isTrue_12, List.forall_mem_cons.mpr ⟨kb_M_isTrue_13, List.forall_mem_cons.mpr ⟨kb_M_isTrue_14, List.forall_mem_cons.mpr ⟨kb_M_isTrue_15, List.forall_mem_cons.mpr ⟨kb_M_isTrue_16, List.forall_mem_cons.mpr ⟨kb_M_isTrue_17, List.forall_mem_cons.mpr ⟨kb_M_isTrue_18, List.forall_mem_cons.mpr ⟨kb_M_isTrue_19, List.forall_mem_cons.mpr ⟨kb_M_isTrue_20, List.forall_mem_cons.mpr ⟨kb_M_isTrue_21, fun _ h => absurd h List.not_mem_nil⟩⟩⟩⟩⟩⟩⟩⟩⟩⟩⟩⟩⟩⟩⟩⟩⟩⟩⟩⟩⟩⟩
  unfold ckM
  rw [Bool.and_eq_true, Bool.and_eq_true]
  exact ⟨by decide +kernel, rfl, List.all_eq_true.mpr h⟩
set_option maxRecDepth 100000 in
set_option maxHeartbeats 4000000 in
theorem k_M_isShut : ckM e_M_isShut = true := by decide +kernel
set_option maxRecDepth 100000 in
set_option maxHeartbeats 4000000 in
theorem k_M_mayGo : ckM e_M_mayGo = true := by decide +kernel

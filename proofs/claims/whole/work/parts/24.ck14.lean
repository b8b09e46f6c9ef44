/-! instructions, on (printed by wip/whole/emitmt.py) -/
set_option maxRecDepth 100000 in
set_option maxHeartbeats 4000000 in
theorem k_M_pay : ckM e_M_pay = true := by decide +kernel
set_option maxRecDepth 100000 in
set_option maxHeartbeats 4000000 in
theorem k_M_earned : ckM e_M_earned = true := by decide +kernel
set_option maxRecDepth 100000 in
set_option maxHeartbeats 4000000 in
theorem k_M_pass : ckM e_M_pass = true := by decide +kernel
set_option maxRecDepth 100000 in
set_option maxHeartbeats 4000000 in
theorem k_M_pole : ckM e_M_pole = true := by decide +kernel
set_option maxRecDepth 100000 in
set_option maxHeartbeats 4000000 in
theorem k_M_dries : ckM e_M_dries = true := by decide +kernel
set_option maxRecDepth 100000 in
set_option maxHeartbeats 4000000 in
theorem k_M_paint : ckM e_M_paint = true := by decide +kernel
set_option maxRecDepth 100000 in
set_option maxHeartbeats 4000000 in
theorem k_M_sorts : ckM e_M_sorts = true := by decide +kernel
set_option maxRecDepth 100000 in
set_option maxHeartbeats 4000000 in
theorem k_M_lost : ckM e_M_lost = true := by decide +kernel
set_option maxRecDepth 100000 in
set_option maxHeartbeats 4000000 in
theorem k_M_byBoats : ckM e_M_byBoats = true := by decide +kernel
set_option maxRecDepth 100000 in
set_option maxHeartbeats 4000000 in
theorem k_M_painted : ckM e_M_painted = true := by decide +kernel
set_option maxRecDepth 100000 in
set_option maxHeartbeats 4000000 in
theorem k_M_fail : ckM e_M_fail = true := by decide +kernel
set_option maxRecDepth 100000 in
theorem kb_M_renew_0 : ckS "PuntYardModel" false false 9 prog_14_method_125_code mtb B_M_renew (Option.some Jvm.ClassFile.FieldType.int) (blkI B_M_renew 0) 0 1 = true := by decide +kernel
set_option maxRecDepth 100000 in
theorem kb_M_renew_1 : ckS "PuntYardModel" false false 9 prog_14_method_125_code mtb B_M_renew (Option.some Jvm.ClassFile.FieldType.int) (blkI B_M_renew 1) 19 2 = true := by decide +kernel
set_option maxRecDepth 100000 in
theorem kb_M_renew_2 : ckS "PuntYardModel" false false 9 prog_14_method_125_code mtb B_M_renew (Option.some Jvm.ClassFile.FieldType.int) (blkI B_M_renew 2) 21 3 = true := by decide +kernel
set_option maxRecDepth 100000 in
theorem kb_M_renew_3 : ckS "PuntYardModel" false false 9 prog_14_method_125_code mtb B_M_renew (Option.some Jvm.ClassFile.FieldType.int) (blkI B_M_renew 3) 33 4 = true := by decide +kernel
set_option maxRecDepth 100000 in
theorem kb_M_renew_4 : ckS "PuntYardModel" false false 9 prog_14_method_125_code mtb B_M_renew (Option.some Jvm.ClassFile.FieldType.int) (blkI B_M_renew 4) 53 5 = true := by decide +kernel
set_option maxRecDepth 100000 in
theorem kb_M_renew_5 : ckS "PuntYardModel" false false 9 prog_14_method_125_code mtb B_M_renew (Option.some Jvm.ClassFile.FieldType.int) (blkI B_M_renew 5) 75 6 = true := by decide +kernel
set_option maxRecDepth 100000 in
theorem kb_M_renew_6 : ckS "PuntYardModel" false false 9 prog_14_method_125_code mtb B_M_renew (Option.some Jvm.ClassFile.FieldType.int) (blkI B_M_renew 6) 122 7 = true := by decide +kernel
set_option maxRecDepth 100000 in
theorem kb_M_renew_7 : ckS "PuntYardModel" false false 9 prog_14_method_125_code mtb B_M_renew (Option.some Jvm.ClassFile.FieldType.int) (blkI B_M_renew 7) 128 8 = true := by decide +kernel
set_option maxRecDepth 100000 in
theorem kb_M_renew_8 : ckS "PuntYardModel" false false 9 prog_14_method_125_code mtb B_M_renew (Option.some Jvm.ClassFile.FieldType.int) (blkI B_M_renew 8) 144 9 = true := by decide +kernel
set_option maxRecDepth 100000 in
theorem kb_M_renew_9 : ckS "PuntYardModel" false false 9 prog_14_method_125_code mtb B_M_renew (Option.some Jvm.ClassFile.FieldType.int) (blkI B_M_renew 9) 151 10 = true := by decide +kernel
set_option maxRecDepth 100000 in
theorem kb_M_renew_10 : ckS "PuntYardModel" false false 9 prog_14_method_125_code mtb B_M_renew (Option.some Jvm.ClassFile.FieldType.int) (blkI B_M_renew 10) 157 11 = true := by decide +kernel
set_option maxRecDepth 100000 in
theorem kb_M_renew_11 : ckS "PuntYardModel" false false 9 prog_14_method_125_code mtb B_M_renew (Option.some Jvm.ClassFile.FieldType.int) (blkI B_M_renew 11) 166 12 = true := by decide +kernel
set_option maxRecDepth 100000 in
theorem kb_M_renew_12 : ckS "PuntYardModel" false false 9 prog_14_method_125_code mtb B_M_renew (Option.some Jvm.ClassFile.FieldType.int) (blkI B_M_renew 12) 171 13 = true := by decide +kernel
set_option maxRecDepth 100000 in
theorem k_M_renew : ckM e_M_renew = true := by
  have h : ∀ b ∈ B_M_renew, ckS "PuntYardModel" false false 9 prog_14_method_125_code mtb B_M_renew (Option.some Jvm.ClassFile.FieldType.int) b.2.1 b.1 b.2.2 = true := List.forall_mem_cons.mpr ⟨kb_M_renew_0, List.forall_mem_cons.mpr ⟨kb_M_renew_1, List.forall_mem_cons.mpr ⟨kb_M_renew_2, List.forall_mem_cons.mpr ⟨kb_M_renew_3, List.forall_mem_cons.mpr ⟨kb_M_renew_4, List.forall_mem_cons.mpr ⟨kb_M_renew_5, List.forall_mem_cons.mpr ⟨kb_M_renew_6, List.forall_mem_cons.mpr ⟨kb_M_renew_7, List.forall_mem_cons.mpr ⟨kb_M_renew_8, List.forall_mem_cons.mpr ⟨kb_M_renew_9, List.forall_mem_cons.mpr ⟨kb_M_renew_10, List.forall_mem_cons.mpr ⟨kb_M_renew_11, List.forall_mem_cons.mpr ⟨kb_M_renew_12, fun _ h => absurd h List.not_mem_nil⟩⟩⟩⟩⟩⟩⟩⟩⟩⟩⟩⟩⟩
  unfold ckM
  rw [Bool.and_eq_true, Bool.and_eq_true]
  exact ⟨by decide +kernel, rfl, List.all_eq_true.mpr h⟩
set_option maxRecDepth 100000 in
set_option maxHeartbeats 4000000 in
theorem k_M_loyal : ckM e_M_loyal = true := by decide +kernel
set_option maxRecDepth 100000 in
set_option maxHeartbeats 4000000 in
theorem k_M_stays : ckM e_M_stays = true := by decide +kernel
set_option maxRecDepth 100000 in
set_option maxHeartbeats 4000000 in
theorem k_M_tout : ckM e_M_tout = true := by decide +kernel
set_option maxRecDepth 100000 in
set_option maxHeartbeats 4000000 in
theorem k_M_nest : ckM e_M_nest = true := by decide +kernel
set_option maxRecDepth 100000 in
set_option maxHeartbeats 4000000 in
theorem k_M_regatta : ckM e_M_regatta = true := by decide +kernel
set_option maxRecDepth 100000 in
theorem kb_M_barred_0 : ckS "PuntYardModel" false false 8 prog_14_method_131_code mtb B_M_barred (Option.some Jvm.ClassFile.FieldType.int) (blkI B_M_barred 0) 0 1 = true := by decide +kernel
set_option maxRecDepth 100000 in
theorem kb_M_barred_1 : ckS "PuntYardModel" false false 8 prog_14_method_131_code mtb B_M_barred (Option.some Jvm.ClassFile.FieldType.int) (blkI B_M_barred 1) 26 2 = true := by decide +kernel
set_option maxRecDepth 100000 in
theorem kb_M_barred_2 : ckS "PuntYardModel" false false 8 prog_14_method_131_code mtb B_M_barred (Option.some Jvm.ClassFile.FieldType.int) (blkI B_M_barred 2) 28 3 = true := by decide +kernel
set_option maxRecDepth 100000 in
theorem kb_M_barred_3 : ckS "PuntYardModel" false false 8 prog_14_method_131_code mtb B_M_barred (Option.some Jvm.ClassFile.FieldType.int) (blkI B_M_barred 3) 72 4 = true := by decide +kernel
set_option maxRecDepth 100000 in
theorem kb_M_barred_4 : ckS "PuntYardModel" false false 8 prog_14_method_131_code mtb B_M_barred (Option.some Jvm.ClassFile.FieldType.int) (blkI B_M_barred 4) 84 5 = true := by decide +kernel
set_option maxRecDepth 100000 in
theorem kb_M_barred_5 : ckS "PuntYardModel" false false 8 prog_14_method_131_code mtb B_M_barred (Option.some Jvm.ClassFile.FieldType.int) (blkI B_M_barred 5) 92 6 = true := by decide +kernel
set_option maxRecDepth 100000 in
theorem kb_M_barred_6 : ckS "PuntYardModel" false false 8 prog_14_method_131_code mtb B_M_barred (Option.some Jvm.ClassFile.FieldType.int) (blkI B_M_barred 6) 136 7 = true := by decide +kernel
set_option maxRecDepth 100000 in
theorem kb_M_barred_7 : ckS "PuntYardModel" false false 8 prog_14_method_131_code mtb B_M_barred (Option.some Jvm.ClassFile.FieldType.int) (blkI B_M_barred 7) 142 8 = true := by decide +kernel
set_option maxRecDepth 100000 in
theorem kb_M_barred_8 : ckS "PuntYardModel" false false 8 prog_14_method_131_code mtb B_M_barred (Option.some Jvm.ClassFile.FieldType.int) (blkI B_M_barred 8) 145 9 = true := by decide +kernel

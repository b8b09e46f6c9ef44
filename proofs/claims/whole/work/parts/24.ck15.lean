/-! instructions, on (printed by wip/whole/emitmt.py) -/
set_option maxRecDepth 100000 in
theorem kb_M_barred_9 : ckS "PuntYardModel" false false 8 prog_14_method_131_code mtb B_M_barred (Option.some Jvm.ClassFile.FieldType.int) (blkI B_M_barred 9) 204 10 = true := by decide +kernel
set_option maxRecDepth 100000 in
theorem kb_M_barred_10 : ckS "PuntYardModel" false false 8 prog_14_method_131_code mtb B_M_barred (Option.some Jvm.ClassFile.FieldType.int) (blkI B_M_barred 10) 210 11 = true := by decide +kernel
set_option maxRecDepth 100000 in
theorem k_M_barred : ckM e_M_barred = true := by
  have h : ∀ b ∈ B_M_barred, ckS "PuntYardModel" false false 8 prog_14_method_131_code mtb B_M_barred (Option.some Jvm.ClassFile.FieldType.int) b.2.1 b.1 b.2.2 = true := List.forall_mem_cons.mpr ⟨kb_M_barred_0, List.forall_mem_cons.mpr ⟨kb_M_barred_1, List.forall_mem_cons.mpr ⟨kb_M_barred_2, List.forall_mem_cons.mpr ⟨kb_M_barred_3, List.forall_mem_cons.mpr ⟨kb_M_barred_4, List.forall_mem_cons.mpr ⟨kb_M_barred_5, List.forall_mem_cons.mpr ⟨kb_M_barred_6, List.forall_mem_cons.mpr ⟨kb_M_barred_7, List.forall_mem_cons.mpr ⟨kb_M_barred_8, List.forall_mem_cons.mpr ⟨kb_M_barred_9, List.forall_mem_cons.mpr ⟨kb_M_barred_10, fun _ h => absurd h List.not_mem_nil⟩⟩⟩⟩⟩⟩⟩⟩⟩⟩⟩
  unfold ckM
  rw [Bool.and_eq_true, Bool.and_eq_true]
  exact ⟨by decide +kernel, rfl, List.all_eq_true.mpr h⟩
set_option maxRecDepth 100000 in
set_option maxHeartbeats 4000000 in
theorem k_M_lays : ckM e_M_lays = true := by decide +kernel
set_option maxRecDepth 100000 in
set_option maxHeartbeats 4000000 in
theorem k_M_fetches : ckM e_M_fetches = true := by decide +kernel
set_option maxRecDepth 100000 in
theorem kb_M_image_0 : ckS "PuntYardModel" false false 1 prog_14_method_134_code mtb B_M_image (Option.some Jvm.ClassFile.FieldType.int) (blkI B_M_image 0) 0 1 = true := by decide +kernel
set_option maxRecDepth 100000 in
theorem kc_M_image_1_5 : ckS "PuntYardModel" false false 1 prog_14_method_134_code mtb B_M_image (Option.some Jvm.ClassFile.FieldType.int) ((blkI B_M_image 1).drop 250) 494 2 = true := by decide +kernel
set_option maxRecDepth 100000 in
theorem kl_M_image_1_4 : ckL "PuntYardModel" false false 1 prog_14_method_134_code mtb B_M_image (((blkI B_M_image 1).drop 200).take 50) 394 = true := by decide +kernel
set_option maxRecDepth 100000 in
theorem kp_M_image_1_4 : 394 + plen (((blkI B_M_image 1).drop 200).take 50) = 494 := by decide +kernel
theorem kc_M_image_1_4 : ckS "PuntYardModel" false false 1 prog_14_method_134_code mtb B_M_image (Option.some Jvm.ClassFile.FieldType.int) ((blkI B_M_image 1).drop 200) 394 2 = true := ckS_cut 50 kl_M_image_1_4 kp_M_image_1_4 (by rw [List.drop_drop]; exact kc_M_image_1_5)
set_option maxRecDepth 100000 in
theorem kl_M_image_1_3 : ckL "PuntYardModel" false false 1 prog_14_method_134_code mtb B_M_image (((blkI B_M_image 1).drop 150).take 50) 290 = true := by decide +kernel
set_option maxRecDepth 100000 in
theorem kp_M_image_1_3 : 290 + plen (((blkI B_M_image 1).drop 150).take 50) = 394 := by decide +kernel
theorem kc_M_image_1_3 : ckS "PuntYardModel" false false 1 prog_14_method_134_code mtb B_M_image (Option.some Jvm.ClassFile.FieldType.int) ((blkI B_M_image 1).drop 150) 290 2 = true := ckS_cut 50 kl_M_image_1_3 kp_M_image_1_3 (by rw [List.drop_drop]; exact kc_M_image_1_4)
set_option maxRecDepth 100000 in
theorem kl_M_image_1_2 : ckL "PuntYardModel" false false 1 prog_14_method_134_code mtb B_M_image (((blkI B_M_image 1).drop 100).take 50) 190 = true := by decide +kernel
set_option maxRecDepth 100000 in
theorem kp_M_image_1_2 : 190 + plen (((blkI B_M_image 1).drop 100).take 50) = 290 := by decide +kernel
theorem kc_M_image_1_2 : ckS "PuntYardModel" false false 1 prog_14_method_134_code mtb B_M_image (Option.some Jvm.ClassFile.FieldType.int) ((blkI B_M_image 1).drop 100) 190 2 = true := ckS_cut 50 kl_M_image_1_2 kp_M_image_1_2 (by rw [List.drop_drop]; exact kc_M_image_1_3)
set_option maxRecDepth 100000 in
theorem kl_M_image_1_1 : ckL "PuntYardModel" false false 1 prog_14_method_134_code mtb B_M_image (((blkI B_M_image 1).drop 50).take 50) 97 = true := by decide +kernel
set_option maxRecDepth 100000 in
theorem kp_M_image_1_1 : 97 + plen (((blkI B_M_image 1).drop 50).take 50) = 190 := by decide +kernel
theorem kc_M_image_1_1 : ckS "PuntYardModel" false false 1 prog_14_method_134_code mtb B_M_image (Option.some Jvm.ClassFile.FieldType.int) ((blkI B_M_image 1).drop 50) 97 2 = true := ckS_cut 50 kl_M_image_1_1 kp_M_image_1_1 (by rw [List.drop_drop]; exact kc_M_image_1_2)
set_option maxRecDepth 100000 in
theorem kl_M_image_1_0 : ckL "PuntYardModel" false false 1 prog_14_method_134_code mtb B_M_image (((blkI B_M_image 1).drop 0).take 50) 10 = true := by decide +kernel
set_option maxRecDepth 100000 in
theorem kp_M_image_1_0 : 10 + plen (((blkI B_M_image 1).drop 0).take 50) = 97 := by decide +kernel
theorem kc_M_image_1_0 : ckS "PuntYardModel" false false 1 prog_14_method_134_code mtb B_M_image (Option.some Jvm.ClassFile.FieldType.int) ((blkI B_M_image 1).drop 0) 10 2 = true := ckS_cut 50 kl_M_image_1_0 kp_M_image_1_0 (by rw [List.drop_drop]; exact kc_M_image_1_1)
theorem kb_M_image_1 : ckS "PuntYardModel" false false 1 prog_14_method_134_code mtb B_M_image (Option.some Jvm.ClassFile.FieldType.int) (blkI B_M_image 1) 10 2 = true := kc_M_image_1_0
set_option maxRecDepth 100000 in
theorem k_M_image : ckM e_M_image = true := by
  have h : ∀ b ∈ B_M_image, ckS "PuntYardModel" false false 1 prog_14_method_134_code mtb B_M_image (Option.some Jvm.ClassFile.FieldType.int) b.2.1 b.1 b.2.2 = true := List.forall_mem_cons.mpr ⟨kb_M_image_0, List.forall_mem_cons.mpr ⟨kb_M_image_1, fun _ h => absurd h List.not_mem_nil⟩⟩
  unfold ckM
  rw [Bool.and_eq_true, Bool.and_eq_true]
  exact ⟨by decide +kernel, rfl, List.all_eq_true.mpr h⟩
set_option maxRecDepth 100000 in
theorem kb_M_restore_0 : ckS "PuntYardModel" false false 2 prog_14_method_135_code mtb B_M_restore (Option.some Jvm.ClassFile.FieldType.boolean) (blkI B_M_restore 0) 0 1 = true := by decide +kernel
set_option maxRecDepth 100000 in
theorem kc_M_restore_1_5 : ckS "PuntYardModel" false false 2 prog_14_method_135_code mtb B_M_restore (Option.some Jvm.ClassFile.FieldType.boolean) ((blkI B_M_restore 1).drop 250) 498 2 = true := by decide +kernel
set_option maxRecDepth 100000 in
theorem kl_M_restore_1_4 : ckL "PuntYardModel" false false 2 prog_14_method_135_code mtb B_M_restore (((blkI B_M_restore 1).drop 200).take 50) 398 = true := by decide +kernel
set_option maxRecDepth 100000 in
theorem kp_M_restore_1_4 : 398 + plen (((blkI B_M_restore 1).drop 200).take 50) = 498 := by decide +kernel
theorem kc_M_restore_1_4 : ckS "PuntYardModel" false false 2 prog_14_method_135_code mtb B_M_restore (Option.some Jvm.ClassFile.FieldType.boolean) ((blkI B_M_restore 1).drop 200) 398 2 = true := ckS_cut 50 kl_M_restore_1_4 kp_M_restore_1_4 (by rw [List.drop_drop]; exact kc_M_restore_1_5)
set_option maxRecDepth 100000 in
theorem kl_M_restore_1_3 : ckL "PuntYardModel" false false 2 prog_14_method_135_code mtb B_M_restore (((blkI B_M_restore 1).drop 150).take 50) 294 = true := by decide +kernel
set_option maxRecDepth 100000 in
theorem kp_M_restore_1_3 : 294 + plen (((blkI B_M_restore 1).drop 150).take 50) = 398 := by decide +kernel
theorem kc_M_restore_1_3 : ckS "PuntYardModel" false false 2 prog_14_method_135_code mtb B_M_restore (Option.some Jvm.ClassFile.FieldType.boolean) ((blkI B_M_restore 1).drop 150) 294 2 = true := ckS_cut 50 kl_M_restore_1_3 kp_M_restore_1_3 (by rw [List.drop_drop]; exact kc_M_restore_1_4)
set_option maxRecDepth 100000 in
theorem kl_M_restore_1_2 : ckL "PuntYardModel" false false 2 prog_14_method_135_code mtb B_M_restore (((blkI B_M_restore 1).drop 100).take 50) 194 = true := by decide +kernel
set_option maxRecDepth 100000 in
theorem kp_M_restore_1_2 : 194 + plen (((blkI B_M_restore 1).drop 100).take 50) = 294 := by decide +kernel
theorem kc_M_restore_1_2 : ckS "PuntYardModel" false false 2 prog_14_method_135_code mtb B_M_restore (Option.some Jvm.ClassFile.FieldType.boolean) ((blkI B_M_restore 1).drop 100) 194 2 = true := ckS_cut 50 kl_M_restore_1_2 kp_M_restore_1_2 (by rw [List.drop_drop]; exact kc_M_restore_1_3)
set_option maxRecDepth 100000 in
theorem kl_M_restore_1_1 : ckL "PuntYardModel" false false 2 prog_14_method_135_code mtb B_M_restore (((blkI B_M_restore 1).drop 50).take 50) 102 = true := by decide +kernel
set_option maxRecDepth 100000 in
theorem kp_M_restore_1_1 : 102 + plen (((blkI B_M_restore 1).drop 50).take 50) = 194 := by decide +kernel
theorem kc_M_restore_1_1 : ckS "PuntYardModel" false false 2 prog_14_method_135_code mtb B_M_restore (Option.some Jvm.ClassFile.FieldType.boolean) ((blkI B_M_restore 1).drop 50) 102 2 = true := ckS_cut 50 kl_M_restore_1_1 kp_M_restore_1_1 (by rw [List.drop_drop]; exact kc_M_restore_1_2)
set_option maxRecDepth 100000 in
theorem kl_M_restore_1_0 : ckL "PuntYardModel" false false 2 prog_14_method_135_code mtb B_M_restore (((blkI B_M_restore 1).drop 0).take 50) 16 = true := by decide +kernel
set_option maxRecDepth 100000 in
theorem kp_M_restore_1_0 : 16 + plen (((blkI B_M_restore 1).drop 0).take 50) = 102 := by decide +kernel
theorem kc_M_restore_1_0 : ckS "PuntYardModel" false false 2 prog_14_method_135_code mtb B_M_restore (Option.some Jvm.ClassFile.FieldType.boolean) ((blkI B_M_restore 1).drop 0) 16 2 = true := ckS_cut 50 kl_M_restore_1_0 kp_M_restore_1_0 (by rw [List.drop_drop]; exact kc_M_restore_1_1)
theorem kb_M_restore_1 : ckS "PuntYardModel" false false 2 prog_14_method_135_code mtb B_M_restore (Option.some Jvm.ClassFile.FieldType.boolean) (blkI B_M_restore 1) 16 2 = true := kc_M_restore_1_0
set_option maxRecDepth 100000 in
theorem k_M_restore : ckM e_M_restore = true := by
  have h : ∀ b ∈ B_M_restore, ckS "PuntYardModel" false false 2 prog_14_method_135_code mtb B_M_restore (Option.some Jvm.ClassFile.FieldType.boolean) b.2.1 b.1 b.2.2 = true := List.forall_mem_cons.mpr ⟨kb_M_restore_0, List.forall_mem_cons.mpr ⟨kb_M_restore_1, fun _ h => absurd h List.not_mem_nil⟩⟩
  unfold ckM
  rw [Bool.and_eq_true, Bool.and_eq_true]
  exact ⟨by decide +kernel, rfl, List.all_eq_true.mpr h⟩
set_option maxRecDepth 100000 in
set_option maxHeartbeats 4000000 in
theorem k_M_count : ckM e_M_count = true := by decide +kernel
set_option maxRecDepth 100000 in
set_option maxHeartbeats 4000000 in
theorem k_Integer_compare : ckM e_Integer_compare = true := by decide +kernel
set_option maxRecDepth 100000 in
set_option maxHeartbeats 4000000 in
theorem k_Integer_bitCount : ckM e_Integer_bitCount = true := by decide +kernel
set_option maxRecDepth 100000 in
set_option maxHeartbeats 4000000 in
theorem k_Math_abs : ckM e_Math_abs = true := by decide +kernel
set_option maxRecDepth 100000 in
set_option maxHeartbeats 4000000 in
theorem k_Math_max : ckM e_Math_max = true := by decide +kernel
set_option maxRecDepth 100000 in
set_option maxHeartbeats 4000000 in
theorem k_Math_min : ckM e_Math_min = true := by decide +kernel
set_option maxRecDepth 100000 in
set_option maxHeartbeats 4000000 in
theorem k_Arrays_fill_0 : ckM e_Arrays_fill_0 = true := by decide +kernel
set_option maxRecDepth 100000 in
set_option maxHeartbeats 4000000 in
theorem k_Arrays_fill_1 : ckM e_Arrays_fill_1 = true := by decide +kernel

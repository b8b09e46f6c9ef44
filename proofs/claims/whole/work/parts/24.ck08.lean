/-! instructions, on (printed by wip/whole/emitmt.py) -/
set_option maxRecDepth 100000 in
theorem kb_M_init_23 : ckS "PuntYardModel" true false 1 prog_14_method_1_code mtb B_M_init (Option.none : Option Jvm.ClassFile.FieldType) (blkI B_M_init 23) 791 24 = true := by decide +kernel
set_option maxRecDepth 100000 in
theorem kb_M_init_24 : ckS "PuntYardModel" true false 1 prog_14_method_1_code mtb B_M_init (Option.none : Option Jvm.ClassFile.FieldType) (blkI B_M_init 24) 799 25 = true := by decide +kernel
set_option maxRecDepth 100000 in
theorem kb_M_init_25 : ckS "PuntYardModel" true false 1 prog_14_method_1_code mtb B_M_init (Option.none : Option Jvm.ClassFile.FieldType) (blkI B_M_init 25) 807 26 = true := by decide +kernel
set_option maxRecDepth 100000 in
theorem kb_M_init_26 : ckS "PuntYardModel" true false 1 prog_14_method_1_code mtb B_M_init (Option.none : Option Jvm.ClassFile.FieldType) (blkI B_M_init 26) 815 27 = true := by decide +kernel
set_option maxRecDepth 100000 in
theorem kb_M_init_27 : ckS "PuntYardModel" true false 1 prog_14_method_1_code mtb B_M_init (Option.none : Option Jvm.ClassFile.FieldType) (blkI B_M_init 27) 823 28 = true := by decide +kernel
set_option maxRecDepth 100000 in
theorem kb_M_init_28 : ckS "PuntYardModel" true false 1 prog_14_method_1_code mtb B_M_init (Option.none : Option Jvm.ClassFile.FieldType) (blkI B_M_init 28) 831 29 = true := by decide +kernel
set_option maxRecDepth 100000 in
theorem kb_M_init_29 : ckS "PuntYardModel" true false 1 prog_14_method_1_code mtb B_M_init (Option.none : Option Jvm.ClassFile.FieldType) (blkI B_M_init 29) 839 30 = true := by decide +kernel
set_option maxRecDepth 100000 in
theorem kb_M_init_30 : ckS "PuntYardModel" true false 1 prog_14_method_1_code mtb B_M_init (Option.none : Option Jvm.ClassFile.FieldType) (blkI B_M_init 30) 847 31 = true := by decide +kernel
set_option maxRecDepth 100000 in
theorem kb_M_init_31 : ckS "PuntYardModel" true false 1 prog_14_method_1_code mtb B_M_init (Option.none : Option Jvm.ClassFile.FieldType) (blkI B_M_init 31) 856 32 = true := by decide +kernel
set_option maxRecDepth 100000 in
theorem kb_M_init_32 : ckS "PuntYardModel" true false 1 prog_14_method_1_code mtb B_M_init (Option.none : Option Jvm.ClassFile.FieldType) (blkI B_M_init 32) 865 33 = true := by decide +kernel
set_option maxRecDepth 100000 in
theorem kb_M_init_33 : ckS "PuntYardModel" true false 1 prog_14_method_1_code mtb B_M_init (Option.none : Option Jvm.ClassFile.FieldType) (blkI B_M_init 33) 874 34 = true := by decide +kernel
set_option maxRecDepth 100000 in
theorem kb_M_init_34 : ckS "PuntYardModel" true false 1 prog_14_method_1_code mtb B_M_init (Option.none : Option Jvm.ClassFile.FieldType) (blkI B_M_init 34) 883 35 = true := by decide +kernel
set_option maxRecDepth 100000 in
theorem kb_M_init_35 : ckS "PuntYardModel" true false 1 prog_14_method_1_code mtb B_M_init (Option.none : Option Jvm.ClassFile.FieldType) (blkI B_M_init 35) 891 36 = true := by decide +kernel
set_option maxRecDepth 100000 in
theorem kb_M_init_36 : ckS "PuntYardModel" true false 1 prog_14_method_1_code mtb B_M_init (Option.none : Option Jvm.ClassFile.FieldType) (blkI B_M_init 36) 899 37 = true := by decide +kernel
set_option maxRecDepth 100000 in
theorem kb_M_init_37 : ckS "PuntYardModel" true false 1 prog_14_method_1_code mtb B_M_init (Option.none : Option Jvm.ClassFile.FieldType) (blkI B_M_init 37) 907 38 = true := by decide +kernel
set_option maxRecDepth 100000 in
theorem kb_M_init_38 : ckS "PuntYardModel" true false 1 prog_14_method_1_code mtb B_M_init (Option.none : Option Jvm.ClassFile.FieldType) (blkI B_M_init 38) 915 39 = true := by decide +kernel
set_option maxRecDepth 100000 in
theorem kb_M_init_39 : ckS "PuntYardModel" true false 1 prog_14_method_1_code mtb B_M_init (Option.none : Option Jvm.ClassFile.FieldType) (blkI B_M_init 39) 924 40 = true := by decide +kernel
set_option maxRecDepth 100000 in
theorem kb_M_init_40 : ckS "PuntYardModel" true false 1 prog_14_method_1_code mtb B_M_init (Option.none : Option Jvm.ClassFile.FieldType) (blkI B_M_init 40) 932 41 = true := by decide +kernel
set_option maxRecDepth 100000 in
theorem kb_M_init_41 : ckS "PuntYardModel" true false 1 prog_14_method_1_code mtb B_M_init (Option.none : Option Jvm.ClassFile.FieldType) (blkI B_M_init 41) 940 42 = true := by decide +kernel
set_option maxRecDepth 100000 in
theorem kb_M_init_42 : ckS "PuntYardModel" true false 1 prog_14_method_1_code mtb B_M_init (Option.none : Option Jvm.ClassFile.FieldType) (blkI B_M_init 42) 948 43 = true := by decide +kernel
set_option maxRecDepth 100000 in
theorem kb_M_init_43 : ckS "PuntYardModel" true false 1 prog_14_method_1_code mtb B_M_init (Option.none : Option Jvm.ClassFile.FieldType) (blkI B_M_init 43) 956 44 = true := by decide +kernel
set_option maxRecDepth 100000 in
theorem kb_M_init_44 : ckS "PuntYardModel" true false 1 prog_14_method_1_code mtb B_M_init (Option.none : Option Jvm.ClassFile.FieldType) (blkI B_M_init 44) 964 45 = true := by decide +kernel
set_option maxRecDepth 100000 in
theorem kb_M_init_45 : ckS "PuntYardModel" true false 1 prog_14_method_1_code mtb B_M_init (Option.none : Option Jvm.ClassFile.FieldType) (blkI B_M_init 45) 972 46 = true := by decide +kernel
set_option maxRecDepth 100000 in
theorem kb_M_init_46 : ckS "PuntYardModel" true false 1 prog_14_method_1_code mtb B_M_init (Option.none : Option Jvm.ClassFile.FieldType) (blkI B_M_init 46) 980 47 = true := by decide +kernel
set_option maxRecDepth 100000 in
theorem kb_M_init_47 : ckS "PuntYardModel" true false 1 prog_14_method_1_code mtb B_M_init (Option.none : Option Jvm.ClassFile.FieldType) (blkI B_M_init 47) 988 48 = true := by decide +kernel
set_option maxRecDepth 100000 in
theorem kb_M_init_48 : ckS "PuntYardModel" true false 1 prog_14_method_1_code mtb B_M_init (Option.none : Option Jvm.ClassFile.FieldType) (blkI B_M_init 48) 996 49 = true := by decide +kernel
set_option maxRecDepth 100000 in
theorem kb_M_init_49 : ckS "PuntYardModel" true false 1 prog_14_method_1_code mtb B_M_init (Option.none : Option Jvm.ClassFile.FieldType) (blkI B_M_init 49) 1004 50 = true := by decide +kernel
set_option maxRecDepth 100000 in
theorem kb_M_init_50 : ckS "PuntYardModel" true false 1 prog_14_method_1_code mtb B_M_init (Option.none : Option Jvm.ClassFile.FieldType) (blkI B_M_init 50) 1012 51 = true := by decide +kernel
set_option maxRecDepth 100000 in
theorem kb_M_init_51 : ckS "PuntYardModel" true false 1 prog_14_method_1_code mtb B_M_init (Option.none : Option Jvm.ClassFile.FieldType) (blkI B_M_init 51) 1020 52 = true := by decide +kernel
set_option maxRecDepth 100000 in
theorem kb_M_init_52 : ckS "PuntYardModel" true false 1 prog_14_method_1_code mtb B_M_init (Option.none : Option Jvm.ClassFile.FieldType) (blkI B_M_init 52) 1029 53 = true := by decide +kernel
set_option maxRecDepth 100000 in
theorem kb_M_init_53 : ckS "PuntYardModel" true false 1 prog_14_method_1_code mtb B_M_init (Option.none : Option Jvm.ClassFile.FieldType) (blkI B_M_init 53) 1037 54 = true := by decide +kernel
set_option maxRecDepth 100000 in
theorem kb_M_init_54 : ckS "PuntYardModel" true false 1 prog_14_method_1_code mtb B_M_init (Option.none : Option Jvm.ClassFile.FieldType) (blkI B_M_init 54) 1045 55 = true := by decide +kernel
set_option maxRecDepth 100000 in
theorem kb_M_init_55 : ckS "PuntYardModel" true false 1 prog_14_method_1_code mtb B_M_init (Option.none : Option Jvm.ClassFile.FieldType) (blkI B_M_init 55) 1053 56 = true := by decide +kernel
set_option maxRecDepth 100000 in
theorem kb_M_init_56 : ckS "PuntYardModel" true false 1 prog_14_method_1_code mtb B_M_init (Option.none : Option Jvm.ClassFile.FieldType) (blkI B_M_init 56) 1061 57 = true := by decide +kernel
set_option maxRecDepth 100000 in
theorem kb_M_init_57 : ckS "PuntYardModel" true false 1 prog_14_method_1_code mtb B_M_init (Option.none : Option Jvm.ClassFile.FieldType) (blkI B_M_init 57) 1069 58 = true := by decide +kernel
set_option maxRecDepth 100000 in
theorem kb_M_init_58 : ckS "PuntYardModel" true false 1 prog_14_method_1_code mtb B_M_init (Option.none : Option Jvm.ClassFile.FieldType) (blkI B_M_init 58) 1077 59 = true := by decide +kernel
set_option maxRecDepth 100000 in
theorem kb_M_init_59 : ckS "PuntYardModel" true false 1 prog_14_method_1_code mtb B_M_init (Option.none : Option Jvm.ClassFile.FieldType) (blkI B_M_init 59) 1085 60 = true := by decide +kernel
set_option maxRecDepth 100000 in
theorem kb_M_init_60 : ckS "PuntYardModel" true false 1 prog_14_method_1_code mtb B_M_init (Option.none : Option Jvm.ClassFile.FieldType) (blkI B_M_init 60) 1093 61 = true := by decide +kernel
set_option maxRecDepth 100000 in
theorem kb_M_init_61 : ckS "PuntYardModel" true false 1 prog_14_method_1_code mtb B_M_init (Option.none : Option Jvm.ClassFile.FieldType) (blkI B_M_init 61) 1101 62 = true := by decide +kernel
set_option maxRecDepth 100000 in
theorem kb_M_init_62 : ckS "PuntYardModel" true false 1 prog_14_method_1_code mtb B_M_init (Option.none : Option Jvm.ClassFile.FieldType) (blkI B_M_init 62) 1109 63 = true := by decide +kernel
set_option maxRecDepth 100000 in
theorem kb_M_init_63 : ckS "PuntYardModel" true false 1 prog_14_method_1_code mtb B_M_init (Option.none : Option Jvm.ClassFile.FieldType) (blkI B_M_init 63) 1117 64 = true := by decide +kernel
set_option maxRecDepth 100000 in
theorem kb_M_init_64 : ckS "PuntYardModel" true false 1 prog_14_method_1_code mtb B_M_init (Option.none : Option Jvm.ClassFile.FieldType) (blkI B_M_init 64) 1125 65 = true := by decide +kernel
set_option maxRecDepth 100000 in
theorem kb_M_init_65 : ckS "PuntYardModel" true false 1 prog_14_method_1_code mtb B_M_init (Option.none : Option Jvm.ClassFile.FieldType) (blkI B_M_init 65) 1133 66 = true := by decide +kernel
set_option maxRecDepth 100000 in
theorem kb_M_init_66 : ckS "PuntYardModel" true false 1 prog_14_method_1_code mtb B_M_init (Option.none : Option Jvm.ClassFile.FieldType) (blkI B_M_init 66) 1141 67 = true := by decide +kernel
set_option maxRecDepth 100000 in
theorem kb_M_init_67 : ckS "PuntYardModel" true false 1 prog_14_method_1_code mtb B_M_init (Option.none : Option Jvm.ClassFile.FieldType) (blkI B_M_init 67) 1149 68 = true := by decide +kernel
set_option maxRecDepth 100000 in
theorem kb_M_init_68 : ckS "PuntYardModel" true false 1 prog_14_method_1_code mtb B_M_init (Option.none : Option Jvm.ClassFile.FieldType) (blkI B_M_init 68) 1158 69 = true := by decide +kernel
set_option maxRecDepth 100000 in
theorem kb_M_init_69 : ckS "PuntYardModel" true false 1 prog_14_method_1_code mtb B_M_init (Option.none : Option Jvm.ClassFile.FieldType) (blkI B_M_init 69) 1166 70 = true := by decide +kernel
set_option maxRecDepth 100000 in
theorem k_M_init : ckM e_M_init = true := by
  have h : ∀ b ∈ B_M_init, ckS "PuntYardModel" true false 1 prog_14_method_1_code mtb B_M_init (Option.none : Option Jvm.ClassFile.FieldType) b.2.1 b.1 b.2.2 = true := List.forall_mem_cons.mpr ⟨kb_M_init_0, List.forall_mem_cons.mpr ⟨kb_M_init_1, List.forall_mem_cons.mpr ⟨kb_M_init_2, List.forall_mem_cons.mpr ⟨kb_M_init_3, List.forall_mem_cons.mpr ⟨kb_M_init_4, List.forall_mem_cons.mpr ⟨kb_M_init_5, List.forall_mem_cons.mpr ⟨kb_M_init_6, List.forall_mem_cons.mpr ⟨kb_M_init_7, List.forall_mem_cons.mpr ⟨kb_M_init_8, List.forall_mem_cons.mpr ⟨kb_M_init_9, List.forall_mem_cons.mpr ⟨kb_M_init_10, List.forall_mem_cons.mpr ⟨kb_M_init_11, List.forall_mem_cons.mpr ⟨kb_M_init_12, List.forall_mem_cons.mpr ⟨kb_M_init_13, List.forall_mem_cons.mpr ⟨kb_M_init_14, List.forall_mem_cons.mpr ⟨kb_M_init_15, List.forall_mem_cons.mpr ⟨kb_M_init_16, List.forall_mem_cons.mpr ⟨kb_M_init_17, List.forall_mem_cons.mpr ⟨kb_M_init_18, List.forall_mem_cons.mpr ⟨kb_M_init_19, List.forall_mem_cons.mpr ⟨kb_M_init_20, List.forall_mem_cons.mpr ⟨kb_M_init_21, List.forall_mem_cons.mpr ⟨kb_M_init_22, List.forall_mem_cons.mpr ⟨kb_M_init_23, List.forall_mem_cons.mpr ⟨kb_M_init_24, List.forall_mem_cons.mpr ⟨kb_M_init_25, List.forall_mem_cons.mpr ⟨kb_M_init_26, List.forall_mem_cons.mpr ⟨kb_M_init_27, List.forall_mem_cons.mpr ⟨kb_M_init_28, List.forall_mem_cons.mpr ⟨kb_M_init_29, List.forall_mem_cons.mpr ⟨kb_M_init_30, List.forall_mem_cons.mpr ⟨kb_M_init_31, List.forall_mem_cons.mpr ⟨kb_M_init_32, List.forall_mem_cons.mpr ⟨kb_M_init_33, List.forall_mem_cons.mpr ⟨kb_M_init_34, List.forall_mem_cons.mpr ⟨kb_M_init_35, List.forall_mem_cons.mpr ⟨kb_M_init_36, List.forall_mem_cons.mpr ⟨kb_M_init_37, List.forall_mem_cons.mpr ⟨kb_M_init_38, List.forall_mem_cons.mpr ⟨kb_M_init_39, List.forall_mem_cons.mpr ⟨kb_M_init_40, List.forall_mem_cons.mpr ⟨kb_M_init_41, List.forall_mem_cons.mpr ⟨kb_M_init_42, List.forall_mem_cons.mpr ⟨kb_M_init_43, List.forall_mem_cons.mpr ⟨kb_M_init_44, List.forall_mem_cons.mpr ⟨kb_M_init_45, List.forall_mem_cons.mpr ⟨kb_M_init_46, List.forall_mem_cons.mpr ⟨kb_M_init_47, List.forall_mem_cons.mpr ⟨kb_M_init_48, List.forall_mem_cons.mpr ⟨kb_M_init_49, List.forall_mem_cons.mpr ⟨kb_M_init_50, List.forall_mem_cons.mpr ⟨kb_M_init_51, List.forall_mem_cons.mpr ⟨kb_M_init_52, List.forall_mem_cons.mpr ⟨kb_M_init_53, List.forall_mem_cons.mpr ⟨kb_M_init_54, List.forall_mem_cons.mpr ⟨kb_M_init_55, List.forall_mem_cons.mpr ⟨kb_M_init_56, List.forall_mem_cons.mpr ⟨kb_M_init_57, List.forall_mem_cons.mpr ⟨kb_M_init_58, List.forall_mem_cons.mpr ⟨kb_M_init_59, List.forall_mem_cons.mpr ⟨kb_M_init_60, List.forall_mem_cons.mpr ⟨kb_M_init_61, List.forall_mem_cons.mpr ⟨kb_M_init_62, List.forall_mem_cons.mpr ⟨kb_M_init_63, List.forall_mem_cons.mpr ⟨kb_M_init_64, List.forall_mem_cons.mpr ⟨kb_M_init_65, List.forall_mem_cons.mpr ⟨kb_M_init_66, List.forall_mem_cons.mpr ⟨kb_M_init_67, List.forall_mem_cons.mpr ⟨kb_M_init_68, List.forall_mem_cons.mpr ⟨kb_M_init_69, fun _ h => absurd h List.not_mem_nil⟩⟩⟩⟩⟩⟩⟩⟩⟩⟩⟩⟩⟩⟩⟩⟩⟩⟩⟩⟩⟩⟩⟩⟩⟩⟩⟩⟩⟩⟩⟩⟩⟩⟩⟩⟩⟩⟩⟩⟩⟩⟩⟩⟩⟩⟩⟩⟩⟩⟩⟩⟩⟩⟩⟩⟩⟩⟩⟩⟩⟩⟩⟩⟩⟩⟩⟩⟩⟩⟩
  unfold ckM
  rw [Bool.and_eq_true, Bool.and_eq_true]
  exact ⟨by decide +kernel, rfl, List.all_eq_true.mpr h⟩
set_option maxRecDepth 100000 in
set_option maxHeartbeats 4000000 in
theorem k_M_isIn : ckM e_M_isIn = true := by decide +kernel
set_option maxRecDepth 100000 in
set_option maxHeartbeats 4000000 in
theorem k_M_one : ckM e_M_one = true := by decide +kernel
set_option maxRecDepth 100000 in
set_option maxHeartbeats 4000000 in
theorem k_M_has : ckM e_M_has = true := by decide +kernel
set_option maxRecDepth 100000 in
set_option maxHeartbeats 4000000 in
theorem k_M_bits : ckM e_M_bits = true := by decide +kernel
set_option maxRecDepth 100000 in
set_option maxHeartbeats 4000000 in
theorem k_M_isDay : ckM e_M_isDay = true := by decide +kernel
set_option maxRecDepth 100000 in
set_option maxHeartbeats 4000000 in
theorem k_M_isMoment : ckM e_M_isMoment = true := by decide +kernel
set_option maxRecDepth 100000 in
set_option maxHeartbeats 4000000 in
theorem k_M_isKind : ckM e_M_isKind = true := by decide +kernel
set_option maxRecDepth 100000 in
set_option maxHeartbeats 4000000 in
theorem k_M_begun : ckM e_M_begun = true := by decide +kernel
set_option maxRecDepth 100000 in
set_option maxHeartbeats 4000000 in
theorem k_M_feed : ckM e_M_feed = true := by decide +kernel
set_option maxRecDepth 100000 in
set_option maxHeartbeats 4000000 in
theorem k_M_four : ckM e_M_four = true := by decide +kernel
set_option maxRecDepth 100000 in
set_option maxHeartbeats 4000000 in
theorem k_M_blanks : ckM e_M_blanks = true := by decide +kernel
set_option maxRecDepth 100000 in
set_option maxHeartbeats 4000000 in
theorem k_M_word : ckM e_M_word = true := by decide +kernel
set_option maxRecDepth 100000 in
set_option maxHeartbeats 4000000 in
theorem k_M_takes : ckM e_M_takes = true := by decide +kernel

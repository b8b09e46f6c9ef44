/-! instructions, on (printed by wip/whole/emitmt.py) -/
set_option maxRecDepth 100000 in
set_option maxHeartbeats 4000000 in
theorem k_P_isBoat : ckM e_P_isBoat = true := by decide +kernel
set_option maxRecDepth 100000 in
set_option maxHeartbeats 4000000 in
theorem k_P_isHire : ckM e_P_isHire = true := by decide +kernel
set_option maxRecDepth 100000 in
set_option maxHeartbeats 4000000 in
theorem k_P_isTelling : ckM e_P_isTelling = true := by decide +kernel
set_option maxRecDepth 100000 in
set_option maxHeartbeats 4000000 in
theorem k_P_lawNumber : ckM e_P_lawNumber = true := by decide +kernel
set_option maxRecDepth 100000 in
set_option maxHeartbeats 4000000 in
theorem k_P_lawOf : ckM e_P_lawOf = true := by decide +kernel
set_option maxRecDepth 100000 in
set_option maxHeartbeats 4000000 in
theorem k_P_canGo : ckM e_P_canGo = true := by decide +kernel
set_option maxRecDepth 100000 in
set_option maxHeartbeats 4000000 in
theorem k_P_canEnd : ckM e_P_canEnd = true := by decide +kernel
set_option maxRecDepth 100000 in
set_option maxHeartbeats 4000000 in
theorem k_P_ask : ckM e_P_ask = true := by decide +kernel
set_option maxRecDepth 100000 in
set_option maxHeartbeats 4000000 in
theorem k_P_seesHire : ckM e_P_seesHire = true := by decide +kernel
set_option maxRecDepth 100000 in
set_option maxHeartbeats 4000000 in
theorem k_P_isBackOn : ckM e_P_isBackOn = true := by decide +kernel
set_option maxRecDepth 100000 in
set_option maxHeartbeats 4000000 in
theorem k_P_drawBill : ckM e_P_drawBill = true := by decide +kernel
set_option maxRecDepth 100000 in
set_option maxHeartbeats 4000000 in
theorem k_P_boatsAheadOf : ckM e_P_boatsAheadOf = true := by decide +kernel
set_option maxRecDepth 100000 in
set_option maxHeartbeats 4000000 in
theorem k_P_insertWait : ckM e_P_insertWait = true := by decide +kernel
set_option maxRecDepth 100000 in
theorem kb_M_init_0 : ckS "PuntYardModel" true false 1 prog_14_method_1_code mtb B_M_init (Option.none : Option Jvm.ClassFile.FieldType) (blkI B_M_init 0) 0 1 = true := by decide +kernel
set_option maxRecDepth 100000 in
theorem kb_M_init_1 : ckS "PuntYardModel" true false 1 prog_14_method_1_code mtb B_M_init (Option.none : Option Jvm.ClassFile.FieldType) (blkI B_M_init 1) 9 2 = true := by decide +kernel
set_option maxRecDepth 100000 in
theorem kb_M_init_2 : ckS "PuntYardModel" true false 1 prog_14_method_1_code mtb B_M_init (Option.none : Option Jvm.ClassFile.FieldType) (blkI B_M_init 2) 18 3 = true := by decide +kernel
set_option maxRecDepth 100000 in
theorem kb_M_init_3 : ckS "PuntYardModel" true false 1 prog_14_method_1_code mtb B_M_init (Option.none : Option Jvm.ClassFile.FieldType) (blkI B_M_init 3) 26 4 = true := by decide +kernel
set_option maxRecDepth 100000 in
theorem kb_M_init_4 : ckS "PuntYardModel" true false 1 prog_14_method_1_code mtb B_M_init (Option.none : Option Jvm.ClassFile.FieldType) (blkI B_M_init 4) 34 5 = true := by decide +kernel
set_option maxRecDepth 100000 in
theorem kb_M_init_5 : ckS "PuntYardModel" true false 1 prog_14_method_1_code mtb B_M_init (Option.none : Option Jvm.ClassFile.FieldType) (blkI B_M_init 5) 43 6 = true := by decide +kernel
set_option maxRecDepth 100000 in
theorem kb_M_init_6 : ckS "PuntYardModel" true false 1 prog_14_method_1_code mtb B_M_init (Option.none : Option Jvm.ClassFile.FieldType) (blkI B_M_init 6) 52 7 = true := by decide +kernel
set_option maxRecDepth 100000 in
theorem kb_M_init_7 : ckS "PuntYardModel" true false 1 prog_14_method_1_code mtb B_M_init (Option.none : Option Jvm.ClassFile.FieldType) (blkI B_M_init 7) 61 8 = true := by decide +kernel
set_option maxRecDepth 100000 in
theorem kb_M_init_8 : ckS "PuntYardModel" true false 1 prog_14_method_1_code mtb B_M_init (Option.none : Option Jvm.ClassFile.FieldType) (blkI B_M_init 8) 70 9 = true := by decide +kernel
set_option maxRecDepth 100000 in
theorem kb_M_init_9 : ckS "PuntYardModel" true false 1 prog_14_method_1_code mtb B_M_init (Option.none : Option Jvm.ClassFile.FieldType) (blkI B_M_init 9) 79 10 = true := by decide +kernel
set_option maxRecDepth 100000 in
theorem kb_M_init_10 : ckS "PuntYardModel" true false 1 prog_14_method_1_code mtb B_M_init (Option.none : Option Jvm.ClassFile.FieldType) (blkI B_M_init 10) 88 11 = true := by decide +kernel
set_option maxRecDepth 100000 in
theorem kb_M_init_11 : ckS "PuntYardModel" true false 1 prog_14_method_1_code mtb B_M_init (Option.none : Option Jvm.ClassFile.FieldType) (blkI B_M_init 11) 97 12 = true := by decide +kernel
set_option maxRecDepth 100000 in
theorem kb_M_init_12 : ckS "PuntYardModel" true false 1 prog_14_method_1_code mtb B_M_init (Option.none : Option Jvm.ClassFile.FieldType) (blkI B_M_init 12) 106 13 = true := by decide +kernel
set_option maxRecDepth 100000 in
theorem kb_M_init_13 : ckS "PuntYardModel" true false 1 prog_14_method_1_code mtb B_M_init (Option.none : Option Jvm.ClassFile.FieldType) (blkI B_M_init 13) 115 14 = true := by decide +kernel
set_option maxRecDepth 100000 in
theorem kb_M_init_14 : ckS "PuntYardModel" true false 1 prog_14_method_1_code mtb B_M_init (Option.none : Option Jvm.ClassFile.FieldType) (blkI B_M_init 14) 123 15 = true := by decide +kernel
set_option maxRecDepth 100000 in
theorem kb_M_init_15 : ckS "PuntYardModel" true false 1 prog_14_method_1_code mtb B_M_init (Option.none : Option Jvm.ClassFile.FieldType) (blkI B_M_init 15) 131 16 = true := by decide +kernel
set_option maxRecDepth 100000 in
theorem kb_M_init_16 : ckS "PuntYardModel" true false 1 prog_14_method_1_code mtb B_M_init (Option.none : Option Jvm.ClassFile.FieldType) (blkI B_M_init 16) 140 17 = true := by decide +kernel
set_option maxRecDepth 100000 in
theorem kc_M_init_17_8 : ckS "PuntYardModel" true false 1 prog_14_method_1_code mtb B_M_init (Option.none : Option Jvm.ClassFile.FieldType) ((blkI B_M_init 17).drop 400) 743 18 = true := by decide +kernel
set_option maxRecDepth 100000 in
theorem kl_M_init_17_7 : ckL "PuntYardModel" true false 1 prog_14_method_1_code mtb B_M_init (((blkI B_M_init 17).drop 350).take 50) 669 = true := by decide +kernel
set_option maxRecDepth 100000 in
theorem kp_M_init_17_7 : 669 + plen (((blkI B_M_init 17).drop 350).take 50) = 743 := by decide +kernel
theorem kc_M_init_17_7 : ckS "PuntYardModel" true false 1 prog_14_method_1_code mtb B_M_init (Option.none : Option Jvm.ClassFile.FieldType) ((blkI B_M_init 17).drop 350) 669 18 = true := ckS_cut 50 kl_M_init_17_7 kp_M_init_17_7 (by rw [List.drop_drop]; exact kc_M_init_17_8)
set_option maxRecDepth 100000 in
theorem kl_M_init_17_6 : ckL "PuntYardModel" true false 1 prog_14_method_1_code mtb B_M_init (((blkI B_M_init 17).drop 300).take 50) 593 = true := by decide +kernel
set_option maxRecDepth 100000 in
theorem kp_M_init_17_6 : 593 + plen (((blkI B_M_init 17).drop 300).take 50) = 669 := by decide +kernel
theorem kc_M_init_17_6 : ckS "PuntYardModel" true false 1 prog_14_method_1_code mtb B_M_init (Option.none : Option Jvm.ClassFile.FieldType) ((blkI B_M_init 17).drop 300) 593 18 = true := ckS_cut 50 kl_M_init_17_6 kp_M_init_17_6 (by rw [List.drop_drop]; exact kc_M_init_17_7)
set_option maxRecDepth 100000 in
theorem kl_M_init_17_5 : ckL "PuntYardModel" true false 1 prog_14_method_1_code mtb B_M_init (((blkI B_M_init 17).drop 250).take 50) 519 = true := by decide +kernel
set_option maxRecDepth 100000 in
theorem kp_M_init_17_5 : 519 + plen (((blkI B_M_init 17).drop 250).take 50) = 593 := by decide +kernel
theorem kc_M_init_17_5 : ckS "PuntYardModel" true false 1 prog_14_method_1_code mtb B_M_init (Option.none : Option Jvm.ClassFile.FieldType) ((blkI B_M_init 17).drop 250) 519 18 = true := ckS_cut 50 kl_M_init_17_5 kp_M_init_17_5 (by rw [List.drop_drop]; exact kc_M_init_17_6)
set_option maxRecDepth 100000 in
theorem kl_M_init_17_4 : ckL "PuntYardModel" true false 1 prog_14_method_1_code mtb B_M_init (((blkI B_M_init 17).drop 200).take 50) 443 = true := by decide +kernel
set_option maxRecDepth 100000 in
theorem kp_M_init_17_4 : 443 + plen (((blkI B_M_init 17).drop 200).take 50) = 519 := by decide +kernel
theorem kc_M_init_17_4 : ckS "PuntYardModel" true false 1 prog_14_method_1_code mtb B_M_init (Option.none : Option Jvm.ClassFile.FieldType) ((blkI B_M_init 17).drop 200) 443 18 = true := ckS_cut 50 kl_M_init_17_4 kp_M_init_17_4 (by rw [List.drop_drop]; exact kc_M_init_17_5)
set_option maxRecDepth 100000 in
theorem kl_M_init_17_3 : ckL "PuntYardModel" true false 1 prog_14_method_1_code mtb B_M_init (((blkI B_M_init 17).drop 150).take 50) 369 = true := by decide +kernel
set_option maxRecDepth 100000 in
theorem kp_M_init_17_3 : 369 + plen (((blkI B_M_init 17).drop 150).take 50) = 443 := by decide +kernel
theorem kc_M_init_17_3 : ckS "PuntYardModel" true false 1 prog_14_method_1_code mtb B_M_init (Option.none : Option Jvm.ClassFile.FieldType) ((blkI B_M_init 17).drop 150) 369 18 = true := ckS_cut 50 kl_M_init_17_3 kp_M_init_17_3 (by rw [List.drop_drop]; exact kc_M_init_17_4)
set_option maxRecDepth 100000 in
theorem kl_M_init_17_2 : ckL "PuntYardModel" true false 1 prog_14_method_1_code mtb B_M_init (((blkI B_M_init 17).drop 100).take 50) 293 = true := by decide +kernel
set_option maxRecDepth 100000 in
theorem kp_M_init_17_2 : 293 + plen (((blkI B_M_init 17).drop 100).take 50) = 369 := by decide +kernel
theorem kc_M_init_17_2 : ckS "PuntYardModel" true false 1 prog_14_method_1_code mtb B_M_init (Option.none : Option Jvm.ClassFile.FieldType) ((blkI B_M_init 17).drop 100) 293 18 = true := ckS_cut 50 kl_M_init_17_2 kp_M_init_17_2 (by rw [List.drop_drop]; exact kc_M_init_17_3)
set_option maxRecDepth 100000 in
theorem kl_M_init_17_1 : ckL "PuntYardModel" true false 1 prog_14_method_1_code mtb B_M_init (((blkI B_M_init 17).drop 50).take 50) 219 = true := by decide +kernel
set_option maxRecDepth 100000 in
theorem kp_M_init_17_1 : 219 + plen (((blkI B_M_init 17).drop 50).take 50) = 293 := by decide +kernel
theorem kc_M_init_17_1 : ckS "PuntYardModel" true false 1 prog_14_method_1_code mtb B_M_init (Option.none : Option Jvm.ClassFile.FieldType) ((blkI B_M_init 17).drop 50) 219 18 = true := ckS_cut 50 kl_M_init_17_1 kp_M_init_17_1 (by rw [List.drop_drop]; exact kc_M_init_17_2)
set_option maxRecDepth 100000 in
theorem kl_M_init_17_0 : ckL "PuntYardModel" true false 1 prog_14_method_1_code mtb B_M_init (((blkI B_M_init 17).drop 0).take 50) 149 = true := by decide +kernel
set_option maxRecDepth 100000 in
theorem kp_M_init_17_0 : 149 + plen (((blkI B_M_init 17).drop 0).take 50) = 219 := by decide +kernel
theorem kc_M_init_17_0 : ckS "PuntYardModel" true false 1 prog_14_method_1_code mtb B_M_init (Option.none : Option Jvm.ClassFile.FieldType) ((blkI B_M_init 17).drop 0) 149 18 = true := ckS_cut 50 kl_M_init_17_0 kp_M_init_17_0 (by rw [List.drop_drop]; exact kc_M_init_17_1)
theorem kb_M_init_17 : ckS "PuntYardModel" true false 1 prog_14_method_1_code mtb B_M_init (Option.none : Option Jvm.ClassFile.FieldType) (blkI B_M_init 17) 149 18 = true := kc_M_init_17_0
set_option maxRecDepth 100000 in
theorem kb_M_init_18 : ckS "PuntYardModel" true false 1 prog_14_method_1_code mtb B_M_init (Option.none : Option Jvm.ClassFile.FieldType) (blkI B_M_init 18) 751 19 = true := by decide +kernel
set_option maxRecDepth 100000 in
theorem kb_M_init_19 : ckS "PuntYardModel" true false 1 prog_14_method_1_code mtb B_M_init (Option.none : Option Jvm.ClassFile.FieldType) (blkI B_M_init 19) 759 20 = true := by decide +kernel
set_option maxRecDepth 100000 in
theorem kb_M_init_20 : ckS "PuntYardModel" true false 1 prog_14_method_1_code mtb B_M_init (Option.none : Option Jvm.ClassFile.FieldType) (blkI B_M_init 20) 767 21 = true := by decide +kernel
set_option maxRecDepth 100000 in
theorem kb_M_init_21 : ckS "PuntYardModel" true false 1 prog_14_method_1_code mtb B_M_init (Option.none : Option Jvm.ClassFile.FieldType) (blkI B_M_init 21) 775 22 = true := by decide +kernel
set_option maxRecDepth 100000 in
theorem kb_M_init_22 : ckS "PuntYardModel" true false 1 prog_14_method_1_code mtb B_M_init (Option.none : Option Jvm.ClassFile.FieldType) (blkI B_M_init 22) 783 23 = true := by decide +kernel

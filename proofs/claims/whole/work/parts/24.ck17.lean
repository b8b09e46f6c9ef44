/-! instructions, on (printed by wip/whole/emitmt.py) -/
set_option maxRecDepth 100000 in
theorem kb_Law0_law_17 : ckS "PuntYardLaw" false true 4 code mtb B_Law0_law (some .boolean) (blkI B_Law0_law 17) 775 18 = true := by decide +kernel
set_option maxRecDepth 100000 in
theorem kb_Law0_law_18 : ckS "PuntYardLaw" false true 4 code mtb B_Law0_law (some .boolean) (blkI B_Law0_law 18) 808 19 = true := by decide +kernel
set_option maxRecDepth 100000 in
theorem kb_Law0_law_19 : ckS "PuntYardLaw" false true 4 code mtb B_Law0_law (some .boolean) (blkI B_Law0_law 19) 841 20 = true := by decide +kernel
set_option maxRecDepth 100000 in
theorem kb_Law0_law_20 : ckS "PuntYardLaw" false true 4 code mtb B_Law0_law (some .boolean) (blkI B_Law0_law 20) 884 21 = true := by decide +kernel
set_option maxRecDepth 100000 in
theorem kb_Law0_law_21 : ckS "PuntYardLaw" false true 4 code mtb B_Law0_law (some .boolean) (blkI B_Law0_law 21) 917 22 = true := by decide +kernel
set_option maxRecDepth 100000 in
theorem kb_Law0_law_22 : ckS "PuntYardLaw" false true 4 code mtb B_Law0_law (some .boolean) (blkI B_Law0_law 22) 950 23 = true := by decide +kernel
set_option maxRecDepth 100000 in
theorem kb_Law0_law_23 : ckS "PuntYardLaw" false true 4 code mtb B_Law0_law (some .boolean) (blkI B_Law0_law 23) 993 24 = true := by decide +kernel
set_option maxRecDepth 100000 in
theorem kb_Law0_law_24 : ckS "PuntYardLaw" false true 4 code mtb B_Law0_law (some .boolean) (blkI B_Law0_law 24) 1026 25 = true := by decide +kernel
set_option maxRecDepth 100000 in
theorem kb_Law0_law_25 : ckS "PuntYardLaw" false true 4 code mtb B_Law0_law (some .boolean) (blkI B_Law0_law 25) 1069 26 = true := by decide +kernel

/-! instructions, on (printed by wip/whole/emitmt.py) -/
set_option maxRecDepth 100000 in
theorem kb_Law0_law_32 : ckS "PuntYardLaw" false true 4 code mtb B_Law0_law (some .boolean) (blkI B_Law0_law 32) 1381 33 = true := by decide +kernel
set_option maxRecDepth 100000 in
theorem kb_Law0_law_33 : ckS "PuntYardLaw" false true 4 code mtb B_Law0_law (some .boolean) (blkI B_Law0_law 33) 1414 34 = true := by decide +kernel
set_option maxRecDepth 100000 in
theorem kb_Law0_law_34 : ckS "PuntYardLaw" false true 4 code mtb B_Law0_law (some .boolean) (blkI B_Law0_law 34) 1467 35 = true := by decide +kernel
set_option maxRecDepth 100000 in
theorem kb_Law0_law_35 : ckS "PuntYardLaw" false true 4 code mtb B_Law0_law (some .boolean) (blkI B_Law0_law 35) 1500 36 = true := by decide +kernel
set_option maxRecDepth 100000 in
theorem kb_Law0_law_36 : ckS "PuntYardLaw" false true 4 code mtb B_Law0_law (some .boolean) (blkI B_Law0_law 36) 1523 37 = true := by decide +kernel
set_option maxRecDepth 100000 in
theorem kb_Law0_law_37 : ckS "PuntYardLaw" false true 4 code mtb B_Law0_law (some .boolean) (blkI B_Law0_law 37) 1546 38 = true := by decide +kernel
set_option maxRecDepth 100000 in
theorem kb_Law0_law_38 : ckS "PuntYardLaw" false true 4 code mtb B_Law0_law (some .boolean) (blkI B_Law0_law 38) 1579 39 = true := by decide +kernel

/-! instructions, on (printed by wip/whole/emitmt.py) -/
set_option maxRecDepth 100000 in
theorem kb_Law0_law_26 : ckS "PuntYardLaw" false true 4 code mtb B_Law0_law (some .boolean) (blkI B_Law0_law 26) 1132 27 = true := by decide +kernel
set_option maxRecDepth 100000 in
theorem kb_Law0_law_27 : ckS "PuntYardLaw" false true 4 code mtb B_Law0_law (some .boolean) (blkI B_Law0_law 27) 1175 28 = true := by decide +kernel
set_option maxRecDepth 100000 in
theorem kb_Law0_law_28 : ckS "PuntYardLaw" false true 4 code mtb B_Law0_law (some .boolean) (blkI B_Law0_law 28) 1208 29 = true := by decide +kernel
set_option maxRecDepth 100000 in
theorem kb_Law0_law_29 : ckS "PuntYardLaw" false true 4 code mtb B_Law0_law (some .boolean) (blkI B_Law0_law 29) 1241 30 = true := by decide +kernel
set_option maxRecDepth 100000 in
theorem kb_Law0_law_30 : ckS "PuntYardLaw" false true 4 code mtb B_Law0_law (some .boolean) (blkI B_Law0_law 30) 1294 31 = true := by decide +kernel
set_option maxRecDepth 100000 in
theorem kb_Law0_law_31 : ckS "PuntYardLaw" false true 4 code mtb B_Law0_law (some .boolean) (blkI B_Law0_law 31) 1337 32 = true := by decide +kernel

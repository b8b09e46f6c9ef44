/-! instructions, on (printed by wip/whole/emitmt.py) -/
set_option maxRecDepth 100000 in
theorem kb_Law0_law_49 : ckS "PuntYardLaw" false true 4 code mtb B_Law0_law (some .boolean) (blkI B_Law0_law 49) 1806 50 = true := by decide +kernel
set_option maxRecDepth 100000 in
theorem kb_Law0_law_50 : ckS "PuntYardLaw" false true 4 code mtb B_Law0_law (some .boolean) (blkI B_Law0_law 50) 1849 51 = true := by decide +kernel
set_option maxRecDepth 100000 in
theorem kb_Law0_law_51 : ckS "PuntYardLaw" false true 4 code mtb B_Law0_law (some .boolean) (blkI B_Law0_law 51) 1882 52 = true := by decide +kernel
set_option maxRecDepth 100000 in
theorem kb_Law0_law_52 : ckS "PuntYardLaw" false true 4 code mtb B_Law0_law (some .boolean) (blkI B_Law0_law 52) 1905 53 = true := by decide +kernel
set_option maxRecDepth 100000 in
theorem kb_Law0_law_53 : ckS "PuntYardLaw" false true 4 code mtb B_Law0_law (some .boolean) (blkI B_Law0_law 53) 1948 54 = true := by decide +kernel

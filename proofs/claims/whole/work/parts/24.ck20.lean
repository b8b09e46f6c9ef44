/-! instructions, on (printed by wip/whole/emitmt.py) -/
set_option maxRecDepth 100000 in
theorem kb_Law0_law_39 : ckS "PuntYardLaw" false true 4 code mtb B_Law0_law (some .boolean) (blkI B_Law0_law 39) 1602 40 = true := by decide +kernel
set_option maxRecDepth 100000 in
theorem kb_Law0_law_40 : ckS "PuntYardLaw" false true 4 code mtb B_Law0_law (some .boolean) (blkI B_Law0_law 40) 1625 41 = true := by decide +kernel
set_option maxRecDepth 100000 in
theorem kb_Law0_law_41 : ckS "PuntYardLaw" false true 4 code mtb B_Law0_law (some .boolean) (blkI B_Law0_law 41) 1648 42 = true := by decide +kernel
set_option maxRecDepth 100000 in
theorem kb_Law0_law_42 : ckS "PuntYardLaw" false true 4 code mtb B_Law0_law (some .boolean) (blkI B_Law0_law 42) 1671 43 = true := by decide +kernel
set_option maxRecDepth 100000 in
theorem kb_Law0_law_43 : ckS "PuntYardLaw" false true 4 code mtb B_Law0_law (some .boolean) (blkI B_Law0_law 43) 1672 44 = true := by decide +kernel
set_option maxRecDepth 100000 in
theorem kb_Law0_law_44 : ckS "PuntYardLaw" false true 4 code mtb B_Law0_law (some .boolean) (blkI B_Law0_law 44) 1698 45 = true := by decide +kernel
set_option maxRecDepth 100000 in
theorem kb_Law0_law_45 : ckS "PuntYardLaw" false true 4 code mtb B_Law0_law (some .boolean) (blkI B_Law0_law 45) 1699 46 = true := by decide +kernel
set_option maxRecDepth 100000 in
theorem kb_Law0_law_46 : ckS "PuntYardLaw" false true 4 code mtb B_Law0_law (some .boolean) (blkI B_Law0_law 46) 1707 47 = true := by decide +kernel
set_option maxRecDepth 100000 in
theorem kb_Law0_law_47 : ckS "PuntYardLaw" false true 4 code mtb B_Law0_law (some .boolean) (blkI B_Law0_law 47) 1730 48 = true := by decide +kernel
set_option maxRecDepth 100000 in
theorem kb_Law0_law_48 : ckS "PuntYardLaw" false true 4 code mtb B_Law0_law (some .boolean) (blkI B_Law0_law 48) 1773 49 = true := by decide +kernel

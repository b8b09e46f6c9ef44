/-! THE METHODS' TABLE, and what is checked of it (printed by wip/whole/emitmt.py) -/
def tblS (k : Nat) : Option Cond := match Nat.ble 1000000 k with
  | true => (k2_sels lw_privs)[k - 1000000]?
  | false => tbl k
def twS (k : Nat) (w : Cond) : Bool := decide (tblS k = some w) && goodWord w
theorem twS_in {k : Nat} {w : Cond} (h : twS k w = true) : w ∈ lwG := by
  unfold twS at h
  rw [Bool.and_eq_true, decide_eq_true_eq] at h
  obtain ⟨h, hg⟩ := h
  refine List.mem_filter.mpr ⟨?_, hg⟩
  unfold tblS at h
  cases e : Nat.ble 1000000 k with
  | true => rw [e] at h; exact List.mem_append_left _ (List.mem_of_getElem? h)
  | false => rw [e] at h; exact List.mem_append_right _ (tbl_in h)
abbrev PL : Type := Nat × Nat × Nat × Nat
def mokB (q : MT) (pl : PL) : Bool :=
  (tw pl.2.1 (.initialized q.1.1.cls) && (decide (q.1.1.cls ≠ "java/lang/invoke/MethodHandle") && (decide (q.1.1.cls ≠ "java/lang/invoke/VarHandle") && (decide ((parseMethodDescriptor q.1.1.desc).map (fun d => d.parameters.length) = some q.2) && (Nat.ble q.1.2.2.1 40 &&
  (match Nat.beq q.1.2.2.2.2.1 0 with
    | true => tw pl.2.2.1 (.static q.1.1)
    | false => tw pl.2.2.1 (.instanceMethod q.1.1) && (match Nat.beq q.1.2.2.2.2.1 1 with
      | true => twS pl.2.2.2 (.selects q.1.1.cls q.1.1 q.1.1)
      | false => decide (q.1.1.name = "<init>") && decide (q.1.2.2.2.1 = none))))))))
theorem mokB_ok {q : MT} {pl : PL} (hcode : Cond.code q.1.1 q.1.2.1 q.1.2.2.1 q.1.2.2.2.1 ∈ lwG) (h : mokB q pl = true) : meOk q.1 q.2 ∧ (q.1.2.2.2.2.1 = 0 → Cond.static q.1.1 ∈ lwG) ∧ (q.1.2.2.2.2.1 = 1 → Cond.instanceMethod q.1.1 ∈ lwG ∧ Cond.selects q.1.1.cls q.1.1 q.1.1 ∈ lwG) ∧ (q.1.2.2.2.2.1 = 2 → Cond.instanceMethod q.1.1 ∈ lwG ∧ q.1.1.name = "<init>" ∧ q.1.2.2.2.1 = none) := by
  unfold mokB at h
  rw [Bool.and_eq_true, Bool.and_eq_true, Bool.and_eq_true, Bool.and_eq_true, Bool.and_eq_true, decide_eq_true_eq, decide_eq_true_eq, decide_eq_true_eq] at h
  obtain ⟨h2, h3, h4, h5, h6, h7⟩ := h
  refine ⟨⟨hcode, tw_in h2, h3, h4, h5, Nat.le_of_ble_eq_true h6⟩, ?_⟩
  cases e : Nat.beq q.1.2.2.2.2.1 0 with
  | true =>
    rw [e] at h7
    replace e := Nat.eq_of_beq_eq_true e
    exact ⟨fun _ => tw_in h7, fun z => by omega, fun z => by omega⟩
  | false =>
    rw [e] at h7
    have n0 : q.1.2.2.2.2.1 ≠ 0 := fun z => by rw [z] at e; exact absurd e (by decide)
    rw [Bool.and_eq_true] at h7
    obtain ⟨h7, h8⟩ := h7
    cases e2 : Nat.beq q.1.2.2.2.2.1 1 with
    | true =>
      rw [e2] at h8
      replace e2 := Nat.eq_of_beq_eq_true e2
      exact ⟨fun z => absurd z n0, fun _ => ⟨tw_in h7, twS_in h8⟩, fun z => by omega⟩
    | false =>
      rw [e2] at h8
      have n1 : q.1.2.2.2.2.1 ≠ 1 := fun z => by rw [z] at e2; exact absurd e2 (by decide)
      rw [Bool.and_eq_true, decide_eq_true_eq, decide_eq_true_eq] at h8
      exact ⟨fun z => absurd z n0, fun z => absurd z n1, fun _ => ⟨tw_in h7, h8⟩⟩
def e_Bill_init : MT := ((⟨"PuntYard$Bill", "<init>", "()V"⟩, prog_2_method_1_code, 1, (Option.none : Option Jvm.ClassFile.FieldType), 2, B_Bill_init, C_Bill_init), 0)
def e_Bill_drawPrice : MT := ((⟨"PuntYard$Bill", "drawPrice", "(LPuntYard$View;ILPuntYard$Law;)V"⟩, prog_2_method_2_code, 6, (Option.none : Option Jvm.ClassFile.FieldType), 1, B_Bill_drawPrice, C_Bill_drawPrice), 3)
def e_Bill_draw : MT := ((⟨"PuntYard$Bill", "draw", "(LPuntYard$View;ILPuntYard$Law;[I)V"⟩, prog_2_method_3_code, 7, (Option.none : Option Jvm.ClassFile.FieldType), 1, B_Bill_draw, C_Bill_draw), 4)
def e_Bill_begun : MT := ((⟨"PuntYard$Bill", "begun", "(II)I"⟩, prog_2_method_4_code, 2, (Option.some Jvm.ClassFile.FieldType.int), 0, B_Bill_begun, C_Bill_begun), 2)
def e_Bill_raised : MT := ((⟨"PuntYard$Bill", "raised", "(II)I"⟩, prog_2_method_5_code, 2, (Option.some Jvm.ClassFile.FieldType.int), 0, B_Bill_raised, C_Bill_raised), 2)
def e_Bill_wetCoin : MT := ((⟨"PuntYard$Bill", "wetCoin", "(II)I"⟩, prog_2_method_6_code, 3, (Option.some Jvm.ClassFile.FieldType.int), 1, B_Bill_wetCoin, C_Bill_wetCoin), 2)
def e_Bill_addRain : MT := ((⟨"PuntYard$Bill", "addRain", "(LPuntYard$Law;[I[I)V"⟩, prog_2_method_7_code, 9, (Option.none : Option Jvm.ClassFile.FieldType), 1, B_Bill_addRain, C_Bill_addRain), 3)
def e_Bill_owed : MT := ((⟨"PuntYard$Bill", "owed", "()I"⟩, prog_2_method_8_code, 1, (Option.some Jvm.ClassFile.FieldType.int), 1, B_Bill_owed, C_Bill_owed), 0)
def e_Bill_look : MT := ((⟨"PuntYard$Bill", "look", "(I)I"⟩, prog_2_method_9_code, 2, (Option.some Jvm.ClassFile.FieldType.int), 1, B_Bill_look, C_Bill_look), 1)
def e_Book_init : MT := ((⟨"PuntYard$Book", "<init>", "()V"⟩, prog_3_method_1_code, 1, (Option.none : Option Jvm.ClassFile.FieldType), 2, B_Book_init, C_Book_init), 0)
def e_Book_take : MT := ((⟨"PuntYard$Book", "take", "(LPuntYard$Book;)V"⟩, prog_3_method_2_code, 2, (Option.none : Option Jvm.ClassFile.FieldType), 1, B_Book_take, C_Book_take), 1)
def e_Book_addBoat : MT := ((⟨"PuntYard$Book", "addBoat", "(I)I"⟩, prog_3_method_3_code, 2, (Option.some Jvm.ClassFile.FieldType.int), 1, B_Book_addBoat, C_Book_addBoat), 1)
def e_Book_hasRoom : MT := ((⟨"PuntYard$Book", "hasRoom", "()Z"⟩, prog_3_method_4_code, 1, (Option.some Jvm.ClassFile.FieldType.boolean), 1, B_Book_hasRoom, C_Book_hasRoom), 0)
def e_Book_addHire : MT := ((⟨"PuntYard$Book", "addHire", "(IIII)I"⟩, prog_3_method_5_code, 6, (Option.some Jvm.ClassFile.FieldType.int), 1, B_Book_addHire, C_Book_addHire), 4)
def e_Book_tell : MT := ((⟨"PuntYard$Book", "tell", "(III)I"⟩, prog_3_method_6_code, 4, (Option.some Jvm.ClassFile.FieldType.int), 1, B_Book_tell, C_Book_tell), 3)
def e_Book_look : MT := ((⟨"PuntYard$Book", "look", "(II)I"⟩, prog_3_method_7_code, 3, (Option.some Jvm.ClassFile.FieldType.int), 1, B_Book_look, C_Book_look), 2)
def e_Book_dayOf : MT := ((⟨"PuntYard$Book", "dayOf", "(I)I"⟩, prog_3_method_8_code, 2, (Option.some Jvm.ClassFile.FieldType.int), 1, B_Book_dayOf, C_Book_dayOf), 1)
def e_Book_kindOfHire : MT := ((⟨"PuntYard$Book", "kindOfHire", "(I)I"⟩, prog_3_method_9_code, 2, (Option.some Jvm.ClassFile.FieldType.int), 1, B_Book_kindOfHire, C_Book_kindOfHire), 1)
def e_Book_nextOut : MT := ((⟨"PuntYard$Book", "nextOut", "(I)I"⟩, prog_3_method_10_code, 3, (Option.some Jvm.ClassFile.FieldType.int), 1, B_Book_nextOut, C_Book_nextOut), 1)
def e_Book_reachesOfPole : MT := ((⟨"PuntYard$Book", "reachesOfPole", "(I)I"⟩, prog_3_method_11_code, 4, (Option.some Jvm.ClassFile.FieldType.int), 1, B_Book_reachesOfPole, C_Book_reachesOfPole), 1)
def e_Demand_init : MT := ((⟨"PuntYard$Demand", "<init>", "()V"⟩, prog_4_method_1_code, 1, (Option.none : Option Jvm.ClassFile.FieldType), 2, B_Demand_init, C_Demand_init), 0)
def e_Demand_take : MT := ((⟨"PuntYard$Demand", "take", "(LPuntYard$Demand;)V"⟩, prog_4_method_2_code, 2, (Option.none : Option Jvm.ClassFile.FieldType), 1, B_Demand_take, C_Demand_take), 1)
def e_Demand_isWhole : MT := ((⟨"PuntYard$Demand", "isWhole", "()Z"⟩, prog_4_method_3_code, 4, (Option.some Jvm.ClassFile.FieldType.boolean), 1, B_Demand_isWhole, C_Demand_isWhole), 0)
def e_Demand_wanted : MT := ((⟨"PuntYard$Demand", "wanted", "()I"⟩, prog_4_method_4_code, 3, (Option.some Jvm.ClassFile.FieldType.int), 1, B_Demand_wanted, C_Demand_wanted), 0)
def e_Demand_served : MT := ((⟨"PuntYard$Demand", "served", "(II)J"⟩, prog_4_method_5_code, 7, (Option.some Jvm.ClassFile.FieldType.long), 1, B_Demand_served, C_Demand_served), 2)
def e_Demand_serveHour : MT := ((⟨"PuntYard$Demand", "serveHour", "(IIII)I"⟩, prog_4_method_6_code, 12, (Option.some Jvm.ClassFile.FieldType.int), 1, B_Demand_serveHour, C_Demand_serveHour), 4)
def e_Demand_commonDivisor : MT := ((⟨"PuntYard$Demand", "commonDivisor", "(JJ)J"⟩, prog_4_method_7_code, 11, (Option.some Jvm.ClassFile.FieldType.long), 0, B_Demand_commonDivisor, C_Demand_commonDivisor), 2)
def e_Demand_meanCoin : MT := ((⟨"PuntYard$Demand", "meanCoin", "(IIII)I"⟩, prog_4_method_8_code, 10, (Option.some Jvm.ClassFile.FieldType.int), 1, B_Demand_meanCoin, C_Demand_meanCoin), 4)
def e_Demand_addLoyal : MT := ((⟨"PuntYard$Demand", "addLoyal", "(I)I"⟩, prog_4_method_9_code, 2, (Option.some Jvm.ClassFile.FieldType.int), 1, B_Demand_addLoyal, C_Demand_addLoyal), 1)
def e_Demand_staying : MT := ((⟨"PuntYard$Demand", "staying", "(II)I"⟩, prog_4_method_10_code, 5, (Option.some Jvm.ClassFile.FieldType.int), 1, B_Demand_staying, C_Demand_staying), 2)
def e_Demand_bestPrice : MT := ((⟨"PuntYard$Demand", "bestPrice", "(I)I"⟩, prog_4_method_11_code, 6, (Option.some Jvm.ClassFile.FieldType.int), 1, B_Demand_bestPrice, C_Demand_bestPrice), 1)
def e_Dock_init : MT := ((⟨"PuntYard$Dock", "<init>", "()V"⟩, prog_5_method_1_code, 1, (Option.none : Option Jvm.ClassFile.FieldType), 2, B_Dock_init, C_Dock_init), 0)
def e_Dock_take : MT := ((⟨"PuntYard$Dock", "take", "(LPuntYard$Dock;)V"⟩, prog_5_method_2_code, 2, (Option.none : Option Jvm.ClassFile.FieldType), 1, B_Dock_take, C_Dock_take), 1)
def e_Dock_setPaint : MT := ((⟨"PuntYard$Dock", "setPaint", "(III)Z"⟩, prog_5_method_3_code, 4, (Option.some Jvm.ClassFile.FieldType.boolean), 1, B_Dock_setPaint, C_Dock_setPaint), 3)
def e_Dock_listDry : MT := ((⟨"PuntYard$Dock", "listDry", "()V"⟩, prog_5_method_4_code, 2, (Option.none : Option Jvm.ClassFile.FieldType), 1, B_Dock_listDry, C_Dock_listDry), 0)
def e_Dock_orderDry : MT := ((⟨"PuntYard$Dock", "orderDry", "()V"⟩, prog_5_method_5_code, 3, (Option.none : Option Jvm.ClassFile.FieldType), 1, B_Dock_orderDry, C_Dock_orderDry), 0)
def e_Dock_isSooner : MT := ((⟨"PuntYard$Dock", "isSooner", "(II)Z"⟩, prog_5_method_6_code, 5, (Option.some Jvm.ClassFile.FieldType.boolean), 1, B_Dock_isSooner, C_Dock_isSooner), 2)
def e_Dock_solvePaint : MT := ((⟨"PuntYard$Dock", "solvePaint", "(I)V"⟩, prog_5_method_7_code, 5, (Option.none : Option Jvm.ClassFile.FieldType), 1, B_Dock_solvePaint, C_Dock_solvePaint), 1)
def e_Dock_coinLost : MT := ((⟨"PuntYard$Dock", "coinLost", "(I)I"⟩, prog_5_method_8_code, 7, (Option.some Jvm.ClassFile.FieldType.int), 1, B_Dock_coinLost, C_Dock_coinLost), 1)
def e_Dock_solveRenewal : MT := ((⟨"PuntYard$Dock", "solveRenewal", "(I)V"⟩, prog_5_method_9_code, 4, (Option.none : Option Jvm.ClassFile.FieldType), 1, B_Dock_solveRenewal, C_Dock_solveRenewal), 1)
def e_Dock_saving : MT := ((⟨"PuntYard$Dock", "saving", "(II)I"⟩, prog_5_method_10_code, 6, (Option.some Jvm.ClassFile.FieldType.int), 1, B_Dock_saving, C_Dock_saving), 2)
def e_Dock_bestSet : MT := ((⟨"PuntYard$Dock", "bestSet", "()I"⟩, prog_5_method_11_code, 3, (Option.some Jvm.ClassFile.FieldType.int), 1, B_Dock_bestSet, C_Dock_bestSet), 0)
def e_Guides_init : MT := ((⟨"PuntYard$Guides", "<init>", "()V"⟩, prog_6_method_1_code, 1, (Option.none : Option Jvm.ClassFile.FieldType), 2, B_Guides_init, C_Guides_init), 0)
def e_Guides_take : MT := ((⟨"PuntYard$Guides", "take", "(LPuntYard$Guides;)V"⟩, prog_6_method_2_code, 2, (Option.none : Option Jvm.ClassFile.FieldType), 1, B_Guides_take, C_Guides_take), 1)
def e_Guides_addGuide : MT := ((⟨"PuntYard$Guides", "addGuide", "(I)I"⟩, prog_6_method_3_code, 2, (Option.some Jvm.ClassFile.FieldType.int), 1, B_Guides_addGuide, C_Guides_addGuide), 1)
def e_Guides_addParty : MT := ((⟨"PuntYard$Guides", "addParty", "(II)I"⟩, prog_6_method_4_code, 3, (Option.some Jvm.ClassFile.FieldType.int), 1, B_Guides_addParty, C_Guides_addParty), 2)
def e_Guides_canGuide : MT := ((⟨"PuntYard$Guides", "canGuide", "(III)Z"⟩, prog_6_method_5_code, 4, (Option.some Jvm.ClassFile.FieldType.boolean), 1, B_Guides_canGuide, C_Guides_canGuide), 3)
def e_Guides_solve : MT := ((⟨"PuntYard$Guides", "solve", "([I)V"⟩, prog_6_method_6_code, 5, (Option.none : Option Jvm.ClassFile.FieldType), 1, B_Guides_solve, C_Guides_solve), 1)
def e_Guides_worth : MT := ((⟨"PuntYard$Guides", "worth", "([III)I"⟩, prog_6_method_7_code, 7, (Option.some Jvm.ClassFile.FieldType.int), 1, B_Guides_worth, C_Guides_worth), 3)
def e_Guides_choose : MT := ((⟨"PuntYard$Guides", "choose", "([III)I"⟩, prog_6_method_8_code, 7, (Option.some Jvm.ClassFile.FieldType.int), 1, B_Guides_choose, C_Guides_choose), 3)
def e_Guides_payOut : MT := ((⟨"PuntYard$Guides", "payOut", "(I)V"⟩, prog_6_method_9_code, 3, (Option.none : Option Jvm.ClassFile.FieldType), 1, B_Guides_payOut, C_Guides_payOut), 1)
def e_Guides_spread : MT := ((⟨"PuntYard$Guides", "spread", "()I"⟩, prog_6_method_10_code, 4, (Option.some Jvm.ClassFile.FieldType.int), 1, B_Guides_spread, C_Guides_spread), 0)
def e_Law_init : MT := ((⟨"PuntYard$Law", "<init>", "()V"⟩, prog_7_method_1_code, 1, (Option.none : Option Jvm.ClassFile.FieldType), 2, B_Law_init, C_Law_init), 0)
def e_Law_clear : MT := ((⟨"PuntYard$Law", "clear", "(I)V"⟩, prog_7_method_2_code, 2, (Option.none : Option Jvm.ClassFile.FieldType), 1, B_Law_clear, C_Law_clear), 1)
def e_Law_addRule : MT := ((⟨"PuntYard$Law", "addRule", "(IIII)V"⟩, prog_7_method_3_code, 5, (Option.none : Option Jvm.ClassFile.FieldType), 1, B_Law_addRule, C_Law_addRule), 4)
def e_Law_emit : MT := ((⟨"PuntYard$Law", "emit", "(I)V"⟩, prog_7_method_4_code, 2, (Option.none : Option Jvm.ClassFile.FieldType), 1, B_Law_emit, C_Law_emit), 1)
def e_Law_testOf : MT := ((⟨"PuntYard$Law", "testOf", "(III)I"⟩, prog_7_method_5_code, 3, (Option.some Jvm.ClassFile.FieldType.int), 0, B_Law_testOf, C_Law_testOf), 3)
def e_Law_look : MT := ((⟨"PuntYard$Law", "look", "(I)I"⟩, prog_7_method_6_code, 3, (Option.some Jvm.ClassFile.FieldType.int), 1, B_Law_look, C_Law_look), 1)
def e_Law_busyParts : MT := ((⟨"PuntYard$Law", "busyParts", "(I)I"⟩, prog_7_method_7_code, 4, (Option.some Jvm.ClassFile.FieldType.int), 1, B_Law_busyParts, C_Law_busyParts), 1)
def e_Law_harmPart : MT := ((⟨"PuntYard$Law", "harmPart", "([I)I"⟩, prog_7_method_8_code, 3, (Option.some Jvm.ClassFile.FieldType.int), 1, B_Law_harmPart, C_Law_harmPart), 1)
def e_Law_isShut : MT := ((⟨"PuntYard$Law", "isShut", "([I)Z"⟩, prog_7_method_9_code, 3, (Option.some Jvm.ClassFile.FieldType.boolean), 1, B_Law_isShut, C_Law_isShut), 1)
def e_Law_holds : MT := ((⟨"PuntYard$Law", "holds", "(II[I)Z"⟩, prog_7_method_10_code, 10, (Option.some Jvm.ClassFile.FieldType.boolean), 1, B_Law_holds, C_Law_holds), 3)
def e_Law_passes : MT := ((⟨"PuntYard$Law", "passes", "(I[I)Z"⟩, prog_7_method_11_code, 5, (Option.some Jvm.ClassFile.FieldType.boolean), 0, B_Law_passes, C_Law_passes), 2)
def e_Reader_init : MT := ((⟨"PuntYard$Reader", "<init>", "()V"⟩, prog_8_method_1_code, 1, (Option.none : Option Jvm.ClassFile.FieldType), 2, B_Reader_init, C_Reader_init), 0)
def e_Reader_hasRoom : MT := ((⟨"PuntYard$Reader", "hasRoom", "(I)Z"⟩, prog_8_method_2_code, 2, (Option.some Jvm.ClassFile.FieldType.boolean), 1, B_Reader_hasRoom, C_Reader_hasRoom), 1)
def e_Reader_append : MT := ((⟨"PuntYard$Reader", "append", "(I)V"⟩, prog_8_method_3_code, 3, (Option.none : Option Jvm.ClassFile.FieldType), 1, B_Reader_append, C_Reader_append), 1)
def e_Reader_read : MT := ((⟨"PuntYard$Reader", "read", "(ILPuntYard$Law;)I"⟩, prog_8_method_4_code, 4, (Option.some Jvm.ClassFile.FieldType.int), 1, B_Reader_read, C_Reader_read), 2)
def e_Reader_scan : MT := ((⟨"PuntYard$Reader", "scan", "(I)V"⟩, prog_8_method_5_code, 6, (Option.none : Option Jvm.ClassFile.FieldType), 1, B_Reader_scan, C_Reader_scan), 1)
def e_Reader_isBlank : MT := ((⟨"PuntYard$Reader", "isBlank", "(I)Z"⟩, prog_8_method_6_code, 1, (Option.some Jvm.ClassFile.FieldType.boolean), 0, B_Reader_isBlank, C_Reader_isBlank), 1)
def e_Reader_isLetter : MT := ((⟨"PuntYard$Reader", "isLetter", "(I)Z"⟩, prog_8_method_7_code, 1, (Option.some Jvm.ClassFile.FieldType.boolean), 0, B_Reader_isLetter, C_Reader_isLetter), 1)
def e_Reader_isDigit : MT := ((⟨"PuntYard$Reader", "isDigit", "(I)Z"⟩, prog_8_method_8_code, 1, (Option.some Jvm.ClassFile.FieldType.boolean), 0, B_Reader_isDigit, C_Reader_isDigit), 1)
def e_Reader_isComparison : MT := ((⟨"PuntYard$Reader", "isComparison", "(I)Z"⟩, prog_8_method_9_code, 1, (Option.some Jvm.ClassFile.FieldType.boolean), 0, B_Reader_isComparison, C_Reader_isComparison), 1)
def e_Reader_tokenEnd : MT := ((⟨"PuntYard$Reader", "tokenEnd", "(II)I"⟩, prog_8_method_10_code, 7, (Option.some Jvm.ClassFile.FieldType.int), 1, B_Reader_tokenEnd, C_Reader_tokenEnd), 2)
def e_Reader_tokenOf : MT := ((⟨"PuntYard$Reader", "tokenOf", "(II)I"⟩, prog_8_method_11_code, 4, (Option.some Jvm.ClassFile.FieldType.int), 1, B_Reader_tokenOf, C_Reader_tokenOf), 2)
def e_Reader_slotOf : MT := ((⟨"PuntYard$Reader", "slotOf", "(II)I"⟩, prog_8_method_12_code, 4, (Option.some Jvm.ClassFile.FieldType.int), 1, B_Reader_slotOf, C_Reader_slotOf), 2)
def e_Reader_isInSlot : MT := ((⟨"PuntYard$Reader", "isInSlot", "(III)Z"⟩, prog_8_method_13_code, 6, (Option.some Jvm.ClassFile.FieldType.boolean), 1, B_Reader_isInSlot, C_Reader_isInSlot), 3)
def e_Reader_numberOf : MT := ((⟨"PuntYard$Reader", "numberOf", "(II)I"⟩, prog_8_method_14_code, 5, (Option.some Jvm.ClassFile.FieldType.int), 1, B_Reader_numberOf, C_Reader_numberOf), 2)
def e_Reader_take : MT := ((⟨"PuntYard$Reader", "take", "(I)V"⟩, prog_8_method_15_code, 2, (Option.none : Option Jvm.ClassFile.FieldType), 1, B_Reader_take, C_Reader_take), 1)
def e_Reader_takeNumber : MT := ((⟨"PuntYard$Reader", "takeNumber", "(II)I"⟩, prog_8_method_16_code, 5, (Option.some Jvm.ClassFile.FieldType.int), 1, B_Reader_takeNumber, C_Reader_takeNumber), 2)
def e_Reader_readRule : MT := ((⟨"PuntYard$Reader", "readRule", "(LPuntYard$Law;)V"⟩, prog_8_method_17_code, 4, (Option.none : Option Jvm.ClassFile.FieldType), 1, B_Reader_readRule, C_Reader_readRule), 1)
def e_Reader_readPrice : MT := ((⟨"PuntYard$Reader", "readPrice", "(LPuntYard$Law;)V"⟩, prog_8_method_18_code, 3, (Option.none : Option Jvm.ClassFile.FieldType), 1, B_Reader_readPrice, C_Reader_readPrice), 1)
def e_Reader_readBusy : MT := ((⟨"PuntYard$Reader", "readBusy", "(LPuntYard$Law;)V"⟩, prog_8_method_19_code, 4, (Option.none : Option Jvm.ClassFile.FieldType), 1, B_Reader_readBusy, C_Reader_readBusy), 1)
def e_Reader_readDeposit : MT := ((⟨"PuntYard$Reader", "readDeposit", "(LPuntYard$Law;)V"⟩, prog_8_method_20_code, 3, (Option.none : Option Jvm.ClassFile.FieldType), 1, B_Reader_readDeposit, C_Reader_readDeposit), 1)
def e_Reader_readLate : MT := ((⟨"PuntYard$Reader", "readLate", "(LPuntYard$Law;)V"⟩, prog_8_method_21_code, 2, (Option.none : Option Jvm.ClassFile.FieldType), 1, B_Reader_readLate, C_Reader_readLate), 1)
def e_Reader_readRight : MT := ((⟨"PuntYard$Reader", "readRight", "(LPuntYard$Law;)V"⟩, prog_8_method_22_code, 4, (Option.none : Option Jvm.ClassFile.FieldType), 1, B_Reader_readRight, C_Reader_readRight), 1)
def e_Reader_readHarm : MT := ((⟨"PuntYard$Reader", "readHarm", "(LPuntYard$Law;)V"⟩, prog_8_method_23_code, 4, (Option.none : Option Jvm.ClassFile.FieldType), 1, B_Reader_readHarm, C_Reader_readHarm), 1)
def e_Reader_readShut : MT := ((⟨"PuntYard$Reader", "readShut", "(LPuntYard$Law;)V"⟩, prog_8_method_24_code, 3, (Option.none : Option Jvm.ClassFile.FieldType), 1, B_Reader_readShut, C_Reader_readShut), 1)
def e_Reader_readAny : MT := ((⟨"PuntYard$Reader", "readAny", "(LPuntYard$Law;I)V"⟩, prog_8_method_25_code, 4, (Option.none : Option Jvm.ClassFile.FieldType), 1, B_Reader_readAny, C_Reader_readAny), 2)
def e_Reader_readAll : MT := ((⟨"PuntYard$Reader", "readAll", "(LPuntYard$Law;I)V"⟩, prog_8_method_26_code, 4, (Option.none : Option Jvm.ClassFile.FieldType), 1, B_Reader_readAll, C_Reader_readAll), 2)
def e_Reader_readOne : MT := ((⟨"PuntYard$Reader", "readOne", "(LPuntYard$Law;I)V"⟩, prog_8_method_27_code, 7, (Option.none : Option Jvm.ClassFile.FieldType), 1, B_Reader_readOne, C_Reader_readOne), 2)
def e_River_init : MT := ((⟨"PuntYard$River", "<init>", "()V"⟩, prog_9_method_1_code, 1, (Option.none : Option Jvm.ClassFile.FieldType), 2, B_River_init, C_River_init), 0)
def e_River_take : MT := ((⟨"PuntYard$River", "take", "(LPuntYard$River;)V"⟩, prog_9_method_2_code, 2, (Option.none : Option Jvm.ClassFile.FieldType), 1, B_River_take, C_River_take), 1)
def e_River_addSpell : MT := ((⟨"PuntYard$River", "addSpell", "(III)I"⟩, prog_9_method_3_code, 4, (Option.some Jvm.ClassFile.FieldType.int), 1, B_River_addSpell, C_River_addSpell), 3)
def e_River_addNest : MT := ((⟨"PuntYard$River", "addNest", "(III)I"⟩, prog_9_method_4_code, 4, (Option.some Jvm.ClassFile.FieldType.int), 1, B_River_addNest, C_River_addNest), 3)
def e_River_addRegatta : MT := ((⟨"PuntYard$River", "addRegatta", "(IIII)I"⟩, prog_9_method_5_code, 5, (Option.some Jvm.ClassFile.FieldType.int), 1, B_River_addRegatta, C_River_addRegatta), 4)
def e_River_rains : MT := ((⟨"PuntYard$River", "rains", "(II)Z"⟩, prog_9_method_6_code, 4, (Option.some Jvm.ClassFile.FieldType.boolean), 1, B_River_rains, C_River_rains), 2)
def e_River_countWet : MT := ((⟨"PuntYard$River", "countWet", "(I[I)V"⟩, prog_9_method_7_code, 5, (Option.none : Option Jvm.ClassFile.FieldType), 1, B_River_countWet, C_River_countWet), 2)
def e_River_weedOf : MT := ((⟨"PuntYard$River", "weedOf", "(I)I"⟩, prog_9_method_8_code, 4, (Option.some Jvm.ClassFile.FieldType.int), 1, B_River_weedOf, C_River_weedOf), 1)
def e_River_nestedReaches : MT := ((⟨"PuntYard$River", "nestedReaches", "(I)I"⟩, prog_9_method_9_code, 4, (Option.some Jvm.ClassFile.FieldType.int), 1, B_River_nestedReaches, C_River_nestedReaches), 1)
def e_River_racedReaches : MT := ((⟨"PuntYard$River", "racedReaches", "(III)I"⟩, prog_9_method_10_code, 6, (Option.some Jvm.ClassFile.FieldType.int), 1, B_River_racedReaches, C_River_racedReaches), 3)
def e_Roller_init : MT := ((⟨"PuntYard$Roller", "<init>", "()V"⟩, prog_10_method_1_code, 1, (Option.none : Option Jvm.ClassFile.FieldType), 2, B_Roller_init, C_Roller_init), 0)
def e_Roller_take : MT := ((⟨"PuntYard$Roller", "take", "(LPuntYard$Roller;)V"⟩, prog_10_method_2_code, 2, (Option.none : Option Jvm.ClassFile.FieldType), 1, B_Roller_take, C_Roller_take), 1)
def e_Roller_add : MT := ((⟨"PuntYard$Roller", "add", "(II)I"⟩, prog_10_method_3_code, 3, (Option.some Jvm.ClassFile.FieldType.int), 1, B_Roller_add, C_Roller_add), 2)
def e_Roller_solve : MT := ((⟨"PuntYard$Roller", "solve", "()V"⟩, prog_10_method_4_code, 1, (Option.none : Option Jvm.ClassFile.FieldType), 1, B_Roller_solve, C_Roller_solve), 0)
def e_Roller_place : MT := ((⟨"PuntYard$Roller", "place", "(LPuntYard$Roller;IIII)V"⟩, prog_10_method_5_code, 7, (Option.none : Option Jvm.ClassFile.FieldType), 0, B_Roller_place, C_Roller_place), 5)
def e_State_init : MT := ((⟨"PuntYard$State", "<init>", "()V"⟩, prog_11_method_1_code, 1, (Option.none : Option Jvm.ClassFile.FieldType), 2, B_State_init, C_State_init), 0)
def e_State_take : MT := ((⟨"PuntYard$State", "take", "(LPuntYard$State;)V"⟩, prog_11_method_2_code, 2, (Option.none : Option Jvm.ClassFile.FieldType), 1, B_State_take, C_State_take), 1)
def e_View_init : MT := ((⟨"PuntYard$View", "<init>", "(LPuntYard$Book;)V"⟩, prog_12_method_1_code, 2, (Option.none : Option Jvm.ClassFile.FieldType), 2, B_View_init, C_View_init), 1)
def e_View_see : MT := ((⟨"PuntYard$View", "see", "(I)V"⟩, prog_12_method_2_code, 3, (Option.none : Option Jvm.ClassFile.FieldType), 1, B_View_see, C_View_see), 1)
def e_View_learn : MT := ((⟨"PuntYard$View", "learn", "(III)V"⟩, prog_12_method_3_code, 4, (Option.none : Option Jvm.ClassFile.FieldType), 1, B_View_learn, C_View_learn), 3)
def e_View_isBack : MT := ((⟨"PuntYard$View", "isBack", "(I)Z"⟩, prog_12_method_4_code, 2, (Option.some Jvm.ClassFile.FieldType.boolean), 1, B_View_isBack, C_View_isBack), 1)
def e_View_minutesOf : MT := ((⟨"PuntYard$View", "minutesOf", "(I)I"⟩, prog_12_method_5_code, 2, (Option.some Jvm.ClassFile.FieldType.int), 1, B_View_minutesOf, C_View_minutesOf), 1)
def e_View_isAway : MT := ((⟨"PuntYard$View", "isAway", "(II)Z"⟩, prog_12_method_6_code, 3, (Option.some Jvm.ClassFile.FieldType.boolean), 1, B_View_isAway, C_View_isAway), 2)
def e_View_outBits : MT := ((⟨"PuntYard$View", "outBits", "(I)I"⟩, prog_12_method_7_code, 4, (Option.some Jvm.ClassFile.FieldType.int), 1, B_View_outBits, C_View_outBits), 1)
def e_View_allBackBy : MT := ((⟨"PuntYard$View", "allBackBy", "(II)Z"⟩, prog_12_method_8_code, 4, (Option.some Jvm.ClassFile.FieldType.boolean), 1, B_View_allBackBy, C_View_allBackBy), 2)
def e_View_knowsAlike : MT := ((⟨"PuntYard$View", "knowsAlike", "(LPuntYard$View;I)Z"⟩, prog_12_method_9_code, 5, (Option.some Jvm.ClassFile.FieldType.boolean), 1, B_View_knowsAlike, C_View_knowsAlike), 2)
def e_View_freeMinutes : MT := ((⟨"PuntYard$View", "freeMinutes", "(ILPuntYard$Law;)I"⟩, prog_12_method_10_code, 6, (Option.some Jvm.ClassFile.FieldType.int), 1, B_View_freeMinutes, C_View_freeMinutes), 2)
def e_View_sharesRight : MT := ((⟨"PuntYard$View", "sharesRight", "(II)Z"⟩, prog_12_method_11_code, 3, (Option.some Jvm.ClassFile.FieldType.boolean), 1, B_View_sharesRight, C_View_sharesRight), 2)
def e_View_isAhead : MT := ((⟨"PuntYard$View", "isAhead", "(II)Z"⟩, prog_12_method_12_code, 4, (Option.some Jvm.ClassFile.FieldType.boolean), 1, B_View_isAhead, C_View_isAhead), 2)
def e_View_markOut : MT := ((⟨"PuntYard$View", "markOut", "(III[I)V"⟩, prog_12_method_13_code, 11, (Option.none : Option Jvm.ClassFile.FieldType), 1, B_View_markOut, C_View_markOut), 4)
def e_View_minutesOfBoat : MT := ((⟨"PuntYard$View", "minutesOfBoat", "(I)I"⟩, prog_12_method_14_code, 4, (Option.some Jvm.ClassFile.FieldType.int), 1, B_View_minutesOfBoat, C_View_minutesOfBoat), 1)
def e_View_hiresOfBoat : MT := ((⟨"PuntYard$View", "hiresOfBoat", "(I)I"⟩, prog_12_method_15_code, 4, (Option.some Jvm.ClassFile.FieldType.int), 1, B_View_hiresOfBoat, C_View_hiresOfBoat), 1)
def e_View_waitFor : MT := ((⟨"PuntYard$View", "waitFor", "(III)I"⟩, prog_12_method_16_code, 5, (Option.some Jvm.ClassFile.FieldType.int), 1, B_View_waitFor, C_View_waitFor), 3)
def e_P_init : MT := ((⟨"PuntYard", "<init>", "()V"⟩, prog_1_method_1_code, 1, (Option.none : Option Jvm.ClassFile.FieldType), 2, B_P_init, C_P_init), 0)
def e_P_feed : MT := ((⟨"PuntYard", "feed", "(IIIII)I"⟩, prog_1_method_2_code, 6, (Option.some Jvm.ClassFile.FieldType.int), 1, B_P_feed, C_P_feed), 5)
def e_P_law : MT := ((⟨"PuntYard", "law", "(II)I"⟩, prog_1_method_3_code, 4, (Option.some Jvm.ClassFile.FieldType.int), 1, B_P_law, C_P_law), 2)
def e_P_fault : MT := ((⟨"PuntYard", "fault", "()I"⟩, prog_1_method_4_code, 1, (Option.some Jvm.ClassFile.FieldType.int), 1, B_P_fault, C_P_fault), 0)
def e_P_rule : MT := ((⟨"PuntYard", "rule", "(II)I"⟩, prog_1_method_5_code, 3, (Option.some Jvm.ClassFile.FieldType.int), 1, B_P_rule, C_P_rule), 2)
def e_P_water : MT := ((⟨"PuntYard", "water", "(II)Z"⟩, prog_1_method_6_code, 3, (Option.some Jvm.ClassFile.FieldType.boolean), 1, B_P_water, C_P_water), 2)
def e_P_rain : MT := ((⟨"PuntYard", "rain", "(III)I"⟩, prog_1_method_7_code, 4, (Option.some Jvm.ClassFile.FieldType.int), 1, B_P_rain, C_P_rain), 3)
def e_P_boat : MT := ((⟨"PuntYard", "boat", "(I)I"⟩, prog_1_method_8_code, 2, (Option.some Jvm.ClassFile.FieldType.int), 1, B_P_boat, C_P_boat), 1)
def e_P_free : MT := ((⟨"PuntYard", "free", "(II)I"⟩, prog_1_method_9_code, 3, (Option.some Jvm.ClassFile.FieldType.int), 1, B_P_free, C_P_free), 2)
def e_P_out : MT := ((⟨"PuntYard", "out", "(IIII)I"⟩, prog_1_method_10_code, 5, (Option.some Jvm.ClassFile.FieldType.int), 1, B_P_out, C_P_out), 4)
def e_P_back : MT := ((⟨"PuntYard", "back", "(II)I"⟩, prog_1_method_11_code, 3, (Option.some Jvm.ClassFile.FieldType.int), 1, B_P_back, C_P_back), 2)
def e_P_mend : MT := ((⟨"PuntYard", "mend", "(II)I"⟩, prog_1_method_12_code, 4, (Option.some Jvm.ClassFile.FieldType.int), 1, B_P_mend, C_P_mend), 2)
def e_P_swamp : MT := ((⟨"PuntYard", "swamp", "(II)I"⟩, prog_1_method_13_code, 3, (Option.some Jvm.ClassFile.FieldType.int), 1, B_P_swamp, C_P_swamp), 2)
def e_P_cushions : MT := ((⟨"PuntYard", "cushions", "(III)I"⟩, prog_1_method_14_code, 4, (Option.some Jvm.ClassFile.FieldType.int), 1, B_P_cushions, C_P_cushions), 3)
def e_P_weed : MT := ((⟨"PuntYard", "weed", "(I)Z"⟩, prog_1_method_15_code, 2, (Option.some Jvm.ClassFile.FieldType.boolean), 1, B_P_weed, C_P_weed), 1)
def e_P_cut : MT := ((⟨"PuntYard", "cut", "(I)Z"⟩, prog_1_method_16_code, 2, (Option.some Jvm.ClassFile.FieldType.boolean), 1, B_P_cut, C_P_cut), 1)
def e_P_hire : MT := ((⟨"PuntYard", "hire", "(II)I"⟩, prog_1_method_17_code, 3, (Option.some Jvm.ClassFile.FieldType.int), 1, B_P_hire, C_P_hire), 2)
def e_P_known : MT := ((⟨"PuntYard", "known", "(II)I"⟩, prog_1_method_18_code, 3, (Option.some Jvm.ClassFile.FieldType.int), 1, B_P_known, C_P_known), 2)
def e_P_bill : MT := ((⟨"PuntYard", "bill", "(III)I"⟩, prog_1_method_19_code, 5, (Option.some Jvm.ClassFile.FieldType.int), 1, B_P_bill, C_P_bill), 3)
def e_P_outs : MT := ((⟨"PuntYard", "outs", "(II)I"⟩, prog_1_method_20_code, 3, (Option.some Jvm.ClassFile.FieldType.int), 1, B_P_outs, C_P_outs), 2)
def e_P_takings : MT := ((⟨"PuntYard", "takings", "(II)I"⟩, prog_1_method_21_code, 6, (Option.some Jvm.ClassFile.FieldType.int), 1, B_P_takings, C_P_takings), 2)
def e_P_differ : MT := ((⟨"PuntYard", "differ", "(III)I"⟩, prog_1_method_22_code, 6, (Option.some Jvm.ClassFile.FieldType.int), 1, B_P_differ, C_P_differ), 3)
def e_P_cost : MT := ((⟨"PuntYard", "cost", "(II)I"⟩, prog_1_method_23_code, 5, (Option.some Jvm.ClassFile.FieldType.int), 1, B_P_cost, C_P_cost), 2)
def e_P_worst : MT := ((⟨"PuntYard", "worst", "(III)I"⟩, prog_1_method_24_code, 8, (Option.some Jvm.ClassFile.FieldType.int), 1, B_P_worst, C_P_worst), 3)
def e_P_together : MT := ((⟨"PuntYard", "together", "(IIIII)I"⟩, prog_1_method_25_code, 9, (Option.some Jvm.ClassFile.FieldType.int), 1, B_P_together, C_P_together), 5)
def e_P_worn : MT := ((⟨"PuntYard", "worn", "(III)I"⟩, prog_1_method_26_code, 4, (Option.some Jvm.ClassFile.FieldType.int), 1, B_P_worn, C_P_worn), 3)
def e_P_old : MT := ((⟨"PuntYard", "old", "(II)I"⟩, prog_1_method_27_code, 4, (Option.some Jvm.ClassFile.FieldType.int), 1, B_P_old, C_P_old), 2)
def e_P_doubt : MT := ((⟨"PuntYard", "doubt", "(II)Z"⟩, prog_1_method_28_code, 3, (Option.some Jvm.ClassFile.FieldType.boolean), 1, B_P_doubt, C_P_doubt), 2)
def e_P_queue : MT := ((⟨"PuntYard", "queue", "(IIII)I"⟩, prog_1_method_29_code, 8, (Option.some Jvm.ClassFile.FieldType.int), 1, B_P_queue, C_P_queue), 4)
def e_P_chance : MT := ((⟨"PuntYard", "chance", "(III)Z"⟩, prog_1_method_30_code, 4, (Option.some Jvm.ClassFile.FieldType.boolean), 1, B_P_chance, C_P_chance), 3)
def e_P_keep : MT := ((⟨"PuntYard", "keep", "(III)J"⟩, prog_1_method_31_code, 10, (Option.some Jvm.ClassFile.FieldType.long), 1, B_P_keep, C_P_keep), 3)
def e_P_least : MT := ((⟨"PuntYard", "least", "(II)I"⟩, prog_1_method_32_code, 6, (Option.some Jvm.ClassFile.FieldType.int), 1, B_P_least, C_P_least), 2)
def e_P_protect : MT := ((⟨"PuntYard", "protect", "(IIII)I"⟩, prog_1_method_33_code, 9, (Option.some Jvm.ClassFile.FieldType.int), 1, B_P_protect, C_P_protect), 4)
def e_P_roll : MT := ((⟨"PuntYard", "roll", "(II)I"⟩, prog_1_method_34_code, 3, (Option.some Jvm.ClassFile.FieldType.int), 1, B_P_roll, C_P_roll), 2)
def e_P_rolled : MT := ((⟨"PuntYard", "rolled", "(I)I"⟩, prog_1_method_35_code, 3, (Option.some Jvm.ClassFile.FieldType.int), 1, B_P_rolled, C_P_rolled), 1)
def e_P_guide : MT := ((⟨"PuntYard", "guide", "(I)I"⟩, prog_1_method_36_code, 2, (Option.some Jvm.ClassFile.FieldType.int), 1, B_P_guide, C_P_guide), 1)
def e_P_party : MT := ((⟨"PuntYard", "party", "(II)I"⟩, prog_1_method_37_code, 3, (Option.some Jvm.ClassFile.FieldType.int), 1, B_P_party, C_P_party), 2)
def e_P_guided : MT := ((⟨"PuntYard", "guided", "(I)I"⟩, prog_1_method_38_code, 3, (Option.some Jvm.ClassFile.FieldType.int), 1, B_P_guided, C_P_guided), 1)
def e_P_pay : MT := ((⟨"PuntYard", "pay", "(I)I"⟩, prog_1_method_39_code, 2, (Option.some Jvm.ClassFile.FieldType.int), 1, B_P_pay, C_P_pay), 1)
def e_P_earned : MT := ((⟨"PuntYard", "earned", "(I)I"⟩, prog_1_method_40_code, 2, (Option.some Jvm.ClassFile.FieldType.int), 1, B_P_earned, C_P_earned), 1)
def e_P_pass : MT := ((⟨"PuntYard", "pass", "(IIZ)Z"⟩, prog_1_method_41_code, 4, (Option.some Jvm.ClassFile.FieldType.boolean), 1, B_P_pass, C_P_pass), 3)
def e_P_pole : MT := ((⟨"PuntYard", "pole", "(I)I"⟩, prog_1_method_42_code, 2, (Option.some Jvm.ClassFile.FieldType.int), 1, B_P_pole, C_P_pole), 1)
def e_P_paint : MT := ((⟨"PuntYard", "paint", "(III)Z"⟩, prog_1_method_43_code, 4, (Option.some Jvm.ClassFile.FieldType.boolean), 1, B_P_paint, C_P_paint), 3)
def e_P_painted : MT := ((⟨"PuntYard", "painted", "(II)I"⟩, prog_1_method_44_code, 3, (Option.some Jvm.ClassFile.FieldType.int), 1, B_P_painted, C_P_painted), 2)
def e_P_fail : MT := ((⟨"PuntYard", "fail", "(III)Z"⟩, prog_1_method_45_code, 4, (Option.some Jvm.ClassFile.FieldType.boolean), 1, B_P_fail, C_P_fail), 3)
def e_P_renew : MT := ((⟨"PuntYard", "renew", "(II)I"⟩, prog_1_method_46_code, 3, (Option.some Jvm.ClassFile.FieldType.int), 1, B_P_renew, C_P_renew), 2)
def e_P_loyal : MT := ((⟨"PuntYard", "loyal", "(I)I"⟩, prog_1_method_47_code, 2, (Option.some Jvm.ClassFile.FieldType.int), 1, B_P_loyal, C_P_loyal), 1)
def e_P_tout : MT := ((⟨"PuntYard", "tout", "(III)I"⟩, prog_1_method_48_code, 7, (Option.some Jvm.ClassFile.FieldType.int), 1, B_P_tout, C_P_tout), 3)
def e_P_nest : MT := ((⟨"PuntYard", "nest", "(III)I"⟩, prog_1_method_49_code, 4, (Option.some Jvm.ClassFile.FieldType.int), 1, B_P_nest, C_P_nest), 3)
def e_P_regatta : MT := ((⟨"PuntYard", "regatta", "(IIII)I"⟩, prog_1_method_50_code, 5, (Option.some Jvm.ClassFile.FieldType.int), 1, B_P_regatta, C_P_regatta), 4)
def e_P_barred : MT := ((⟨"PuntYard", "barred", "(II)I"⟩, prog_1_method_51_code, 7, (Option.some Jvm.ClassFile.FieldType.int), 1, B_P_barred, C_P_barred), 2)
def e_P_image : MT := ((⟨"PuntYard", "image", "()I"⟩, prog_1_method_52_code, 2, (Option.some Jvm.ClassFile.FieldType.int), 1, B_P_image, C_P_image), 0)
def e_P_restore : MT := ((⟨"PuntYard", "restore", "(I)Z"⟩, prog_1_method_53_code, 2, (Option.some Jvm.ClassFile.FieldType.boolean), 1, B_P_restore, C_P_restore), 1)
def e_P_count : MT := ((⟨"PuntYard", "count", "(I)I"⟩, prog_1_method_54_code, 2, (Option.some Jvm.ClassFile.FieldType.int), 1, B_P_count, C_P_count), 1)
def e_P_within : MT := ((⟨"PuntYard", "within", "(III)Z"⟩, prog_1_method_55_code, 3, (Option.some Jvm.ClassFile.FieldType.boolean), 0, B_P_within, C_P_within), 3)
def e_P_isSpan : MT := ((⟨"PuntYard", "isSpan", "(III)Z"⟩, prog_1_method_56_code, 3, (Option.some Jvm.ClassFile.FieldType.boolean), 0, B_P_isSpan, C_P_isSpan), 3)
def e_P_isDay : MT := ((⟨"PuntYard", "isDay", "(I)Z"⟩, prog_1_method_57_code, 1, (Option.some Jvm.ClassFile.FieldType.boolean), 0, B_P_isDay, C_P_isDay), 1)
def e_P_isMoment : MT := ((⟨"PuntYard", "isMoment", "(I)Z"⟩, prog_1_method_58_code, 1, (Option.some Jvm.ClassFile.FieldType.boolean), 0, B_P_isMoment, C_P_isMoment), 1)
def e_P_isKind : MT := ((⟨"PuntYard", "isKind", "(I)Z"⟩, prog_1_method_59_code, 1, (Option.some Jvm.ClassFile.FieldType.boolean), 0, B_P_isKind, C_P_isKind), 1)
def e_P_isWho : MT := ((⟨"PuntYard", "isWho", "(I)Z"⟩, prog_1_method_60_code, 1, (Option.some Jvm.ClassFile.FieldType.boolean), 0, B_P_isWho, C_P_isWho), 1)
def e_P_isCoin : MT := ((⟨"PuntYard", "isCoin", "(I)Z"⟩, prog_1_method_61_code, 1, (Option.some Jvm.ClassFile.FieldType.boolean), 0, B_P_isCoin, C_P_isCoin), 1)
def e_P_isBoat : MT := ((⟨"PuntYard", "isBoat", "(I)Z"⟩, prog_1_method_62_code, 2, (Option.some Jvm.ClassFile.FieldType.boolean), 1, B_P_isBoat, C_P_isBoat), 1)
def e_P_isHire : MT := ((⟨"PuntYard", "isHire", "(I)Z"⟩, prog_1_method_63_code, 2, (Option.some Jvm.ClassFile.FieldType.boolean), 1, B_P_isHire, C_P_isHire), 1)
def e_P_isTelling : MT := ((⟨"PuntYard", "isTelling", "(I)Z"⟩, prog_1_method_64_code, 2, (Option.some Jvm.ClassFile.FieldType.boolean), 1, B_P_isTelling, C_P_isTelling), 1)
def e_P_lawNumber : MT := ((⟨"PuntYard", "lawNumber", "(I)I"⟩, prog_1_method_65_code, 6, (Option.some Jvm.ClassFile.FieldType.int), 1, B_P_lawNumber, C_P_lawNumber), 1)
def e_P_lawOf : MT := ((⟨"PuntYard", "lawOf", "(I)LPuntYard$Law;"⟩, prog_1_method_66_code, 4, (Option.some (Jvm.ClassFile.FieldType.object "PuntYard$Law")), 1, B_P_lawOf, C_P_lawOf), 1)
def e_P_canGo : MT := ((⟨"PuntYard", "canGo", "(II)Z"⟩, prog_1_method_67_code, 3, (Option.some Jvm.ClassFile.FieldType.boolean), 1, B_P_canGo, C_P_canGo), 2)
def e_P_canEnd : MT := ((⟨"PuntYard", "canEnd", "(II)Z"⟩, prog_1_method_68_code, 3, (Option.some Jvm.ClassFile.FieldType.boolean), 1, B_P_canEnd, C_P_canEnd), 2)
def e_P_ask : MT := ((⟨"PuntYard", "ask", "(II)V"⟩, prog_1_method_69_code, 5, (Option.none : Option Jvm.ClassFile.FieldType), 1, B_P_ask, C_P_ask), 2)
def e_P_seesHire : MT := ((⟨"PuntYard", "seesHire", "(II)Z"⟩, prog_1_method_70_code, 3, (Option.some Jvm.ClassFile.FieldType.boolean), 1, B_P_seesHire, C_P_seesHire), 2)
def e_P_isBackOn : MT := ((⟨"PuntYard", "isBackOn", "(II)Z"⟩, prog_1_method_71_code, 3, (Option.some Jvm.ClassFile.FieldType.boolean), 1, B_P_isBackOn, C_P_isBackOn), 2)
def e_P_drawBill : MT := ((⟨"PuntYard", "drawBill", "(ILPuntYard$Law;)V"⟩, prog_1_method_72_code, 3, (Option.none : Option Jvm.ClassFile.FieldType), 1, B_P_drawBill, C_P_drawBill), 2)
def e_P_boatsAheadOf : MT := ((⟨"PuntYard", "boatsAheadOf", "(I)I"⟩, prog_1_method_73_code, 4, (Option.some Jvm.ClassFile.FieldType.int), 1, B_P_boatsAheadOf, C_P_boatsAheadOf), 1)
def e_P_insertWait : MT := ((⟨"PuntYard", "insertWait", "(II)V"⟩, prog_1_method_74_code, 4, (Option.none : Option Jvm.ClassFile.FieldType), 1, B_P_insertWait, C_P_insertWait), 2)
def e_M_init : MT := ((⟨"PuntYardModel", "<init>", "()V"⟩, prog_14_method_1_code, 1, (Option.none : Option Jvm.ClassFile.FieldType), 2, B_M_init, C_M_init), 0)
def e_M_isIn : MT := ((⟨"PuntYardModel", "isIn", "(III)Z"⟩, prog_14_method_2_code, 3, (Option.some Jvm.ClassFile.FieldType.boolean), 0, B_M_isIn, C_M_isIn), 3)
def e_M_one : MT := ((⟨"PuntYardModel", "one", "(Z)I"⟩, prog_14_method_3_code, 1, (Option.some Jvm.ClassFile.FieldType.int), 0, B_M_one, C_M_one), 1)
def e_M_has : MT := ((⟨"PuntYardModel", "has", "(II)Z"⟩, prog_14_method_4_code, 2, (Option.some Jvm.ClassFile.FieldType.boolean), 0, B_M_has, C_M_has), 2)
def e_M_bits : MT := ((⟨"PuntYardModel", "bits", "(I)I"⟩, prog_14_method_5_code, 3, (Option.some Jvm.ClassFile.FieldType.int), 0, B_M_bits, C_M_bits), 1)
def e_M_isDay : MT := ((⟨"PuntYardModel", "isDay", "(I)Z"⟩, prog_14_method_6_code, 1, (Option.some Jvm.ClassFile.FieldType.boolean), 0, B_M_isDay, C_M_isDay), 1)
def e_M_isMoment : MT := ((⟨"PuntYardModel", "isMoment", "(I)Z"⟩, prog_14_method_7_code, 1, (Option.some Jvm.ClassFile.FieldType.boolean), 0, B_M_isMoment, C_M_isMoment), 1)
def e_M_isKind : MT := ((⟨"PuntYardModel", "isKind", "(I)Z"⟩, prog_14_method_8_code, 1, (Option.some Jvm.ClassFile.FieldType.boolean), 0, B_M_isKind, C_M_isKind), 1)
def e_M_begun : MT := ((⟨"PuntYardModel", "begun", "(II)I"⟩, prog_14_method_9_code, 2, (Option.some Jvm.ClassFile.FieldType.int), 0, B_M_begun, C_M_begun), 2)
def e_M_feed : MT := ((⟨"PuntYardModel", "feed", "(IIIII)I"⟩, prog_14_method_10_code, 6, (Option.some Jvm.ClassFile.FieldType.int), 1, B_M_feed, C_M_feed), 5)
def e_M_four : MT := ((⟨"PuntYardModel", "four", "(I)V"⟩, prog_14_method_11_code, 3, (Option.none : Option Jvm.ClassFile.FieldType), 1, B_M_four, C_M_four), 1)
def e_M_blanks : MT := ((⟨"PuntYardModel", "blanks", "()V"⟩, prog_14_method_12_code, 1, (Option.none : Option Jvm.ClassFile.FieldType), 1, B_M_blanks, C_M_blanks), 0)
def e_M_word : MT := ((⟨"PuntYardModel", "word", "()J"⟩, prog_14_method_13_code, 3, (Option.some Jvm.ClassFile.FieldType.long), 1, B_M_word, C_M_word), 0)
def e_M_takes : MT := ((⟨"PuntYardModel", "takes", "(J)Z"⟩, prog_14_method_14_code, 3, (Option.some Jvm.ClassFile.FieldType.boolean), 1, B_M_takes, C_M_takes), 1)
def e_M_takesSign : MT := ((⟨"PuntYardModel", "takesSign", "(I)Z"⟩, prog_14_method_15_code, 2, (Option.some Jvm.ClassFile.FieldType.boolean), 1, B_M_takesSign, C_M_takesSign), 1)
def e_M_takesNumber : MT := ((⟨"PuntYardModel", "takesNumber", "(II)Z"⟩, prog_14_method_16_code, 4, (Option.some Jvm.ClassFile.FieldType.boolean), 1, B_M_takesNumber, C_M_takesNumber), 2)
def e_M_askedBy : MT := ((⟨"PuntYardModel", "askedBy", "(J)I"⟩, prog_14_method_17_code, 2, (Option.some Jvm.ClassFile.FieldType.int), 0, B_M_askedBy, C_M_askedBy), 1)
def e_M_puts : MT := ((⟨"PuntYardModel", "puts", "(III)V"⟩, prog_14_method_18_code, 4, (Option.none : Option Jvm.ClassFile.FieldType), 1, B_M_puts, C_M_puts), 3)
def e_M_opens : MT := ((⟨"PuntYardModel", "opens", "()Z"⟩, prog_14_method_19_code, 1, (Option.some Jvm.ClassFile.FieldType.boolean), 1, B_M_opens, C_M_opens), 0)
def e_M_any : MT := ((⟨"PuntYardModel", "any", "()Z"⟩, prog_14_method_20_code, 1, (Option.some Jvm.ClassFile.FieldType.boolean), 1, B_M_any, C_M_any), 0)
def e_M_all : MT := ((⟨"PuntYardModel", "all", "()Z"⟩, prog_14_method_21_code, 1, (Option.some Jvm.ClassFile.FieldType.boolean), 1, B_M_all, C_M_all), 0)
def e_M_single : MT := ((⟨"PuntYardModel", "single", "()Z"⟩, prog_14_method_22_code, 3, (Option.some Jvm.ClassFile.FieldType.boolean), 1, B_M_single, C_M_single), 0)
def e_M_says : MT := ((⟨"PuntYardModel", "says", "(II)V"⟩, prog_14_method_23_code, 3, (Option.none : Option Jvm.ClassFile.FieldType), 1, B_M_says, C_M_says), 2)
def e_M_eachTold : MT := ((⟨"PuntYardModel", "eachTold", "(I)Z"⟩, prog_14_method_24_code, 2, (Option.some Jvm.ClassFile.FieldType.boolean), 1, B_M_eachTold, C_M_eachTold), 1)
def e_M_priceTold : MT := ((⟨"PuntYardModel", "priceTold", "()Z"⟩, prog_14_method_25_code, 3, (Option.some Jvm.ClassFile.FieldType.boolean), 1, B_M_priceTold, C_M_priceTold), 0)
def e_M_depositTold : MT := ((⟨"PuntYardModel", "depositTold", "()Z"⟩, prog_14_method_26_code, 2, (Option.some Jvm.ClassFile.FieldType.boolean), 1, B_M_depositTold, C_M_depositTold), 0)
def e_M_lateTold : MT := ((⟨"PuntYardModel", "lateTold", "()Z"⟩, prog_14_method_27_code, 1, (Option.some Jvm.ClassFile.FieldType.boolean), 1, B_M_lateTold, C_M_lateTold), 0)
def e_M_rightTold : MT := ((⟨"PuntYardModel", "rightTold", "()Z"⟩, prog_14_method_28_code, 3, (Option.some Jvm.ClassFile.FieldType.boolean), 1, B_M_rightTold, C_M_rightTold), 0)
def e_M_oneTold : MT := ((⟨"PuntYardModel", "oneTold", "(II)Z"⟩, prog_14_method_29_code, 3, (Option.some Jvm.ClassFile.FieldType.boolean), 1, B_M_oneTold, C_M_oneTold), 2)
def e_M_clauseTold : MT := ((⟨"PuntYardModel", "clauseTold", "(I)Z"⟩, prog_14_method_30_code, 3, (Option.some Jvm.ClassFile.FieldType.boolean), 1, B_M_clauseTold, C_M_clauseTold), 1)
def e_M_rule_0 : MT := ((⟨"PuntYardModel", "rule", "()Z"⟩, prog_14_method_31_code, 1, (Option.some Jvm.ClassFile.FieldType.boolean), 1, B_M_rule_0, C_M_rule_0), 0)
def e_M_bare : MT := ((⟨"PuntYardModel", "bare", "(I)V"⟩, prog_14_method_32_code, 3, (Option.none : Option Jvm.ClassFile.FieldType), 1, B_M_bare, C_M_bare), 1)
def e_M_reads : MT := ((⟨"PuntYardModel", "reads", "(I)Z"⟩, prog_14_method_33_code, 3, (Option.some Jvm.ClassFile.FieldType.boolean), 1, B_M_reads, C_M_reads), 1)
def e_M_law : MT := ((⟨"PuntYardModel", "law", "(II)I"⟩, prog_14_method_34_code, 7, (Option.some Jvm.ClassFile.FieldType.int), 1, B_M_law, C_M_law), 2)
def e_M_fault : MT := ((⟨"PuntYardModel", "fault", "()I"⟩, prog_14_method_35_code, 1, (Option.some Jvm.ClassFile.FieldType.int), 1, B_M_fault, C_M_fault), 0)
def e_M_lawOf : MT := ((⟨"PuntYardModel", "lawOf", "(I)I"⟩, prog_14_method_36_code, 4, (Option.some Jvm.ClassFile.FieldType.int), 1, B_M_lawOf, C_M_lawOf), 1)
def e_M_said : MT := ((⟨"PuntYardModel", "said", "(II)I"⟩, prog_14_method_37_code, 3, (Option.some Jvm.ClassFile.FieldType.int), 1, B_M_said, C_M_said), 2)
def e_M_rule_1 : MT := ((⟨"PuntYardModel", "rule", "(II)I"⟩, prog_14_method_38_code, 4, (Option.some Jvm.ClassFile.FieldType.int), 1, B_M_rule_1, C_M_rule_1), 2)
def e_M_water : MT := ((⟨"PuntYardModel", "water", "(II)Z"⟩, prog_14_method_39_code, 3, (Option.some Jvm.ClassFile.FieldType.boolean), 1, B_M_water, C_M_water), 2)
def e_M_rain : MT := ((⟨"PuntYardModel", "rain", "(III)I"⟩, prog_14_method_40_code, 4, (Option.some Jvm.ClassFile.FieldType.int), 1, B_M_rain, C_M_rain), 3)
def e_M_rains : MT := ((⟨"PuntYardModel", "rains", "(II)Z"⟩, prog_14_method_41_code, 5, (Option.some Jvm.ClassFile.FieldType.boolean), 1, B_M_rains, C_M_rains), 2)
def e_M_weed : MT := ((⟨"PuntYardModel", "weed", "(I)Z"⟩, prog_14_method_42_code, 2, (Option.some Jvm.ClassFile.FieldType.boolean), 1, B_M_weed, C_M_weed), 1)
def e_M_cut : MT := ((⟨"PuntYardModel", "cut", "(I)Z"⟩, prog_14_method_43_code, 2, (Option.some Jvm.ClassFile.FieldType.boolean), 1, B_M_cut, C_M_cut), 1)
def e_M_weedOn : MT := ((⟨"PuntYardModel", "weedOn", "(I)I"⟩, prog_14_method_44_code, 3, (Option.some Jvm.ClassFile.FieldType.int), 1, B_M_weedOn, C_M_weedOn), 1)
def e_M_boat : MT := ((⟨"PuntYardModel", "boat", "(I)I"⟩, prog_14_method_45_code, 2, (Option.some Jvm.ClassFile.FieldType.int), 1, B_M_boat, C_M_boat), 1)
def e_M_isBoat : MT := ((⟨"PuntYardModel", "isBoat", "(I)Z"⟩, prog_14_method_46_code, 2, (Option.some Jvm.ClassFile.FieldType.boolean), 1, B_M_isBoat, C_M_isBoat), 1)
def e_M_isHire : MT := ((⟨"PuntYardModel", "isHire", "(I)Z"⟩, prog_14_method_47_code, 2, (Option.some Jvm.ClassFile.FieldType.boolean), 1, B_M_isHire, C_M_isHire), 1)
def e_M_isTelling : MT := ((⟨"PuntYardModel", "isTelling", "(I)Z"⟩, prog_14_method_48_code, 2, (Option.some Jvm.ClassFile.FieldType.boolean), 1, B_M_isTelling, C_M_isTelling), 1)
def e_M_knows : MT := ((⟨"PuntYardModel", "knows", "(I)V"⟩, prog_14_method_49_code, 4, (Option.none : Option Jvm.ClassFile.FieldType), 1, B_M_knows, C_M_knows), 1)
def e_M_isKnown : MT := ((⟨"PuntYardModel", "isKnown", "(I)Z"⟩, prog_14_method_50_code, 2, (Option.some Jvm.ClassFile.FieldType.boolean), 1, B_M_isKnown, C_M_isKnown), 1)
def e_M_isBack : MT := ((⟨"PuntYardModel", "isBack", "(I)Z"⟩, prog_14_method_51_code, 2, (Option.some Jvm.ClassFile.FieldType.boolean), 1, B_M_isBack, C_M_isBack), 1)
def e_M_isOut : MT := ((⟨"PuntYardModel", "isOut", "(II)Z"⟩, prog_14_method_52_code, 3, (Option.some Jvm.ClassFile.FieldType.boolean), 1, B_M_isOut, C_M_isOut), 2)
def e_M_outSet : MT := ((⟨"PuntYardModel", "outSet", "(I)I"⟩, prog_14_method_53_code, 4, (Option.some Jvm.ClassFile.FieldType.int), 1, B_M_outSet, C_M_outSet), 1)
def e_M_asks : MT := ((⟨"PuntYardModel", "asks", "(III)V"⟩, prog_14_method_54_code, 5, (Option.none : Option Jvm.ClassFile.FieldType), 1, B_M_asks, C_M_asks), 3)
def e_M_isTrue : MT := ((⟨"PuntYardModel", "isTrue", "(I)Z"⟩, prog_14_method_55_code, 5, (Option.some Jvm.ClassFile.FieldType.boolean), 1, B_M_isTrue, C_M_isTrue), 1)
def e_M_isShut : MT := ((⟨"PuntYardModel", "isShut", "(II)Z"⟩, prog_14_method_56_code, 6, (Option.some Jvm.ClassFile.FieldType.boolean), 1, B_M_isShut, C_M_isShut), 2)
def e_M_mayGo : MT := ((⟨"PuntYardModel", "mayGo", "(II)Z"⟩, prog_14_method_57_code, 4, (Option.some Jvm.ClassFile.FieldType.boolean), 1, B_M_mayGo, C_M_mayGo), 2)
def e_M_free : MT := ((⟨"PuntYardModel", "free", "(II)I"⟩, prog_14_method_58_code, 3, (Option.some Jvm.ClassFile.FieldType.int), 1, B_M_free, C_M_free), 2)
def e_M_tells : MT := ((⟨"PuntYardModel", "tells", "(IIII)I"⟩, prog_14_method_59_code, 5, (Option.some Jvm.ClassFile.FieldType.int), 1, B_M_tells, C_M_tells), 4)
def e_M_out : MT := ((⟨"PuntYardModel", "out", "(IIII)I"⟩, prog_14_method_60_code, 5, (Option.some Jvm.ClassFile.FieldType.int), 1, B_M_out, C_M_out), 4)
def e_M_mayBe : MT := ((⟨"PuntYardModel", "mayBe", "(II)Z"⟩, prog_14_method_61_code, 3, (Option.some Jvm.ClassFile.FieldType.boolean), 1, B_M_mayBe, C_M_mayBe), 2)
def e_M_back : MT := ((⟨"PuntYardModel", "back", "(II)I"⟩, prog_14_method_62_code, 3, (Option.some Jvm.ClassFile.FieldType.int), 1, B_M_back, C_M_back), 2)
def e_M_mend : MT := ((⟨"PuntYardModel", "mend", "(II)I"⟩, prog_14_method_63_code, 4, (Option.some Jvm.ClassFile.FieldType.int), 1, B_M_mend, C_M_mend), 2)
def e_M_swamp : MT := ((⟨"PuntYardModel", "swamp", "(II)I"⟩, prog_14_method_64_code, 3, (Option.some Jvm.ClassFile.FieldType.int), 1, B_M_swamp, C_M_swamp), 2)
def e_M_cushions : MT := ((⟨"PuntYardModel", "cushions", "(III)I"⟩, prog_14_method_65_code, 4, (Option.some Jvm.ClassFile.FieldType.int), 1, B_M_cushions, C_M_cushions), 3)
def e_M_hire : MT := ((⟨"PuntYardModel", "hire", "(II)I"⟩, prog_14_method_66_code, 3, (Option.some Jvm.ClassFile.FieldType.int), 1, B_M_hire, C_M_hire), 2)
def e_M_known : MT := ((⟨"PuntYardModel", "known", "(II)I"⟩, prog_14_method_67_code, 3, (Option.some Jvm.ClassFile.FieldType.int), 1, B_M_known, C_M_known), 2)
def e_M_lawBy : MT := ((⟨"PuntYardModel", "lawBy", "(I)I"⟩, prog_14_method_68_code, 2, (Option.some Jvm.ClassFile.FieldType.int), 1, B_M_lawBy, C_M_lawBy), 1)
def e_M_kindBy : MT := ((⟨"PuntYardModel", "kindBy", "(I)I"⟩, prog_14_method_69_code, 2, (Option.some Jvm.ClassFile.FieldType.int), 1, B_M_kindBy, C_M_kindBy), 1)
def e_M_minutes : MT := ((⟨"PuntYardModel", "minutes", "(I)I"⟩, prog_14_method_70_code, 2, (Option.some Jvm.ClassFile.FieldType.int), 1, B_M_minutes, C_M_minutes), 1)
def e_M_freeOf : MT := ((⟨"PuntYardModel", "freeOf", "(I)I"⟩, prog_14_method_71_code, 5, (Option.some Jvm.ClassFile.FieldType.int), 1, B_M_freeOf, C_M_freeOf), 1)
def e_M_priceOf : MT := ((⟨"PuntYardModel", "priceOf", "(II)I"⟩, prog_14_method_72_code, 7, (Option.some Jvm.ClassFile.FieldType.int), 1, B_M_priceOf, C_M_priceOf), 2)
def e_M_lateOf : MT := ((⟨"PuntYardModel", "lateOf", "(I)I"⟩, prog_14_method_73_code, 4, (Option.some Jvm.ClassFile.FieldType.int), 1, B_M_lateOf, C_M_lateOf), 1)
def e_M_wetOf : MT := ((⟨"PuntYardModel", "wetOf", "(III)I"⟩, prog_14_method_74_code, 6, (Option.some Jvm.ClassFile.FieldType.int), 1, B_M_wetOf, C_M_wetOf), 3)
def e_M_harmOf : MT := ((⟨"PuntYardModel", "harmOf", "(I)I"⟩, prog_14_method_75_code, 6, (Option.some Jvm.ClassFile.FieldType.int), 1, B_M_harmOf, C_M_harmOf), 1)
def e_M_cushionsOf : MT := ((⟨"PuntYardModel", "cushionsOf", "(I)I"⟩, prog_14_method_76_code, 2, (Option.some Jvm.ClassFile.FieldType.int), 1, B_M_cushionsOf, C_M_cushionsOf), 1)
def e_M_owedOf : MT := ((⟨"PuntYardModel", "owedOf", "(I)I"⟩, prog_14_method_77_code, 3, (Option.some Jvm.ClassFile.FieldType.int), 1, B_M_owedOf, C_M_owedOf), 1)
def e_M_bill : MT := ((⟨"PuntYardModel", "bill", "(III)I"⟩, prog_14_method_78_code, 4, (Option.some Jvm.ClassFile.FieldType.int), 1, B_M_bill, C_M_bill), 3)
def e_M_outs : MT := ((⟨"PuntYardModel", "outs", "(II)I"⟩, prog_14_method_79_code, 3, (Option.some Jvm.ClassFile.FieldType.int), 1, B_M_outs, C_M_outs), 2)
def e_M_isOn : MT := ((⟨"PuntYardModel", "isOn", "(II)Z"⟩, prog_14_method_80_code, 3, (Option.some Jvm.ClassFile.FieldType.boolean), 1, B_M_isOn, C_M_isOn), 2)
def e_M_takings : MT := ((⟨"PuntYardModel", "takings", "(II)I"⟩, prog_14_method_81_code, 5, (Option.some Jvm.ClassFile.FieldType.int), 1, B_M_takings, C_M_takings), 2)
def e_M_keeps : MT := ((⟨"PuntYardModel", "keeps", "()V"⟩, prog_14_method_82_code, 2, (Option.none : Option Jvm.ClassFile.FieldType), 1, B_M_keeps, C_M_keeps), 0)
def e_M_differ : MT := ((⟨"PuntYardModel", "differ", "(III)I"⟩, prog_14_method_83_code, 7, (Option.some Jvm.ClassFile.FieldType.int), 1, B_M_differ, C_M_differ), 3)
def e_M_cost : MT := ((⟨"PuntYardModel", "cost", "(II)I"⟩, prog_14_method_84_code, 5, (Option.some Jvm.ClassFile.FieldType.int), 1, B_M_cost, C_M_cost), 2)
def e_M_worst : MT := ((⟨"PuntYardModel", "worst", "(III)I"⟩, prog_14_method_85_code, 9, (Option.some Jvm.ClassFile.FieldType.int), 1, B_M_worst, C_M_worst), 3)
def e_M_hasOut : MT := ((⟨"PuntYardModel", "hasOut", "(II)Z"⟩, prog_14_method_86_code, 5, (Option.some Jvm.ClassFile.FieldType.boolean), 1, B_M_hasOut, C_M_hasOut), 2)
def e_M_together : MT := ((⟨"PuntYardModel", "together", "(IIIII)I"⟩, prog_14_method_87_code, 9, (Option.some Jvm.ClassFile.FieldType.int), 1, B_M_together, C_M_together), 5)
def e_M_wornNow : MT := ((⟨"PuntYardModel", "wornNow", "(I)I"⟩, prog_14_method_88_code, 4, (Option.some Jvm.ClassFile.FieldType.int), 1, B_M_wornNow, C_M_wornNow), 1)
def e_M_worn : MT := ((⟨"PuntYardModel", "worn", "(III)I"⟩, prog_14_method_89_code, 6, (Option.some Jvm.ClassFile.FieldType.int), 1, B_M_worn, C_M_worn), 3)
def e_M_old : MT := ((⟨"PuntYardModel", "old", "(II)I"⟩, prog_14_method_90_code, 6, (Option.some Jvm.ClassFile.FieldType.int), 1, B_M_old, C_M_old), 2)
def e_M_doubt : MT := ((⟨"PuntYardModel", "doubt", "(II)Z"⟩, prog_14_method_91_code, 3, (Option.some Jvm.ClassFile.FieldType.boolean), 1, B_M_doubt, C_M_doubt), 2)
def e_M_comes : MT := ((⟨"PuntYardModel", "comes", "(III)I"⟩, prog_14_method_92_code, 6, (Option.some Jvm.ClassFile.FieldType.int), 1, B_M_comes, C_M_comes), 3)
def e_M_queue : MT := ((⟨"PuntYardModel", "queue", "(IIII)I"⟩, prog_14_method_93_code, 11, (Option.some Jvm.ClassFile.FieldType.int), 1, B_M_queue, C_M_queue), 4)
def e_M_chance : MT := ((⟨"PuntYardModel", "chance", "(III)Z"⟩, prog_14_method_94_code, 4, (Option.some Jvm.ClassFile.FieldType.boolean), 1, B_M_chance, C_M_chance), 3)
def e_M_areWhole : MT := ((⟨"PuntYardModel", "areWhole", "()Z"⟩, prog_14_method_95_code, 5, (Option.some Jvm.ClassFile.FieldType.boolean), 1, B_M_areWhole, C_M_areWhole), 0)
def e_M_served : MT := ((⟨"PuntYardModel", "served", "(II)J"⟩, prog_14_method_96_code, 15, (Option.some Jvm.ClassFile.FieldType.long), 1, B_M_served, C_M_served), 2)
def e_M_wantedNow : MT := ((⟨"PuntYardModel", "wantedNow", "()I"⟩, prog_14_method_97_code, 4, (Option.some Jvm.ClassFile.FieldType.int), 1, B_M_wantedNow, C_M_wantedNow), 0)
def e_M_divisor : MT := ((⟨"PuntYardModel", "divisor", "(JJ)J"⟩, prog_14_method_98_code, 10, (Option.some Jvm.ClassFile.FieldType.long), 0, B_M_divisor, C_M_divisor), 2)
def e_M_keep : MT := ((⟨"PuntYardModel", "keep", "(III)J"⟩, prog_14_method_99_code, 8, (Option.some Jvm.ClassFile.FieldType.long), 1, B_M_keep, C_M_keep), 3)
def e_M_least : MT := ((⟨"PuntYardModel", "least", "(II)I"⟩, prog_14_method_100_code, 4, (Option.some Jvm.ClassFile.FieldType.int), 1, B_M_least, C_M_least), 2)
def e_M_mean : MT := ((⟨"PuntYardModel", "mean", "(IIII)I"⟩, prog_14_method_101_code, 10, (Option.some Jvm.ClassFile.FieldType.int), 1, B_M_mean, C_M_mean), 4)
def e_M_protect : MT := ((⟨"PuntYardModel", "protect", "(IIII)I"⟩, prog_14_method_102_code, 7, (Option.some Jvm.ClassFile.FieldType.int), 1, B_M_protect, C_M_protect), 4)
def e_M_roll : MT := ((⟨"PuntYardModel", "roll", "(II)I"⟩, prog_14_method_103_code, 3, (Option.some Jvm.ClassFile.FieldType.int), 1, B_M_roll, C_M_roll), 2)
def e_M_orders : MT := ((⟨"PuntYardModel", "orders", "(II)V"⟩, prog_14_method_104_code, 9, (Option.none : Option Jvm.ClassFile.FieldType), 1, B_M_orders, C_M_orders), 2)
def e_M_waits : MT := ((⟨"PuntYardModel", "waits", "()I"⟩, prog_14_method_105_code, 5, (Option.some Jvm.ClassFile.FieldType.int), 1, B_M_waits, C_M_waits), 0)
def e_M_rolled : MT := ((⟨"PuntYardModel", "rolled", "(I)I"⟩, prog_14_method_106_code, 6, (Option.some Jvm.ClassFile.FieldType.int), 1, B_M_rolled, C_M_rolled), 1)
def e_M_guide : MT := ((⟨"PuntYardModel", "guide", "(I)I"⟩, prog_14_method_107_code, 2, (Option.some Jvm.ClassFile.FieldType.int), 1, B_M_guide, C_M_guide), 1)
def e_M_party : MT := ((⟨"PuntYardModel", "party", "(II)I"⟩, prog_14_method_108_code, 3, (Option.some Jvm.ClassFile.FieldType.int), 1, B_M_party, C_M_party), 2)
def e_M_maySing : MT := ((⟨"PuntYardModel", "maySing", "(II)Z"⟩, prog_14_method_109_code, 3, (Option.some Jvm.ClassFile.FieldType.boolean), 1, B_M_maySing, C_M_maySing), 2)
def e_M_leftBy : MT := ((⟨"PuntYardModel", "leftBy", "(III)I"⟩, prog_14_method_110_code, 4, (Option.some Jvm.ClassFile.FieldType.int), 1, B_M_leftBy, C_M_leftBy), 3)
def e_M_lookLeft : MT := ((⟨"PuntYardModel", "lookLeft", "()V"⟩, prog_14_method_111_code, 5, (Option.none : Option Jvm.ClassFile.FieldType), 1, B_M_lookLeft, C_M_lookLeft), 0)
def e_M_guides : MT := ((⟨"PuntYardModel", "guides", "()V"⟩, prog_14_method_112_code, 5, (Option.none : Option Jvm.ClassFile.FieldType), 1, B_M_guides, C_M_guides), 0)
def e_M_guided : MT := ((⟨"PuntYardModel", "guided", "(I)I"⟩, prog_14_method_113_code, 2, (Option.some Jvm.ClassFile.FieldType.int), 1, B_M_guided, C_M_guided), 1)
def e_M_pay : MT := ((⟨"PuntYardModel", "pay", "(I)I"⟩, prog_14_method_114_code, 4, (Option.some Jvm.ClassFile.FieldType.int), 1, B_M_pay, C_M_pay), 1)
def e_M_earned : MT := ((⟨"PuntYardModel", "earned", "(I)I"⟩, prog_14_method_115_code, 5, (Option.some Jvm.ClassFile.FieldType.int), 1, B_M_earned, C_M_earned), 1)
def e_M_pass : MT := ((⟨"PuntYardModel", "pass", "(IIZ)Z"⟩, prog_14_method_116_code, 4, (Option.some Jvm.ClassFile.FieldType.boolean), 1, B_M_pass, C_M_pass), 3)
def e_M_pole : MT := ((⟨"PuntYardModel", "pole", "(I)I"⟩, prog_14_method_117_code, 4, (Option.some Jvm.ClassFile.FieldType.int), 1, B_M_pole, C_M_pole), 1)
def e_M_dries : MT := ((⟨"PuntYardModel", "dries", "()V"⟩, prog_14_method_118_code, 2, (Option.none : Option Jvm.ClassFile.FieldType), 1, B_M_dries, C_M_dries), 0)
def e_M_paint : MT := ((⟨"PuntYardModel", "paint", "(III)Z"⟩, prog_14_method_119_code, 4, (Option.some Jvm.ClassFile.FieldType.boolean), 1, B_M_paint, C_M_paint), 3)
def e_M_sorts : MT := ((⟨"PuntYardModel", "sorts", "()V"⟩, prog_14_method_120_code, 3, (Option.none : Option Jvm.ClassFile.FieldType), 1, B_M_sorts, C_M_sorts), 0)
def e_M_lost : MT := ((⟨"PuntYardModel", "lost", "(I)I"⟩, prog_14_method_121_code, 7, (Option.some Jvm.ClassFile.FieldType.int), 1, B_M_lost, C_M_lost), 1)
def e_M_byBoats : MT := ((⟨"PuntYardModel", "byBoats", "(I)I"⟩, prog_14_method_122_code, 4, (Option.some Jvm.ClassFile.FieldType.int), 1, B_M_byBoats, C_M_byBoats), 1)
def e_M_painted : MT := ((⟨"PuntYardModel", "painted", "(II)I"⟩, prog_14_method_123_code, 5, (Option.some Jvm.ClassFile.FieldType.int), 1, B_M_painted, C_M_painted), 2)
def e_M_fail : MT := ((⟨"PuntYardModel", "fail", "(III)Z"⟩, prog_14_method_124_code, 4, (Option.some Jvm.ClassFile.FieldType.boolean), 1, B_M_fail, C_M_fail), 3)
def e_M_renew : MT := ((⟨"PuntYardModel", "renew", "(II)I"⟩, prog_14_method_125_code, 9, (Option.some Jvm.ClassFile.FieldType.int), 1, B_M_renew, C_M_renew), 2)
def e_M_loyal : MT := ((⟨"PuntYardModel", "loyal", "(I)I"⟩, prog_14_method_126_code, 2, (Option.some Jvm.ClassFile.FieldType.int), 1, B_M_loyal, C_M_loyal), 1)
def e_M_stays : MT := ((⟨"PuntYardModel", "stays", "(II)I"⟩, prog_14_method_127_code, 5, (Option.some Jvm.ClassFile.FieldType.int), 1, B_M_stays, C_M_stays), 2)
def e_M_tout : MT := ((⟨"PuntYardModel", "tout", "(III)I"⟩, prog_14_method_128_code, 6, (Option.some Jvm.ClassFile.FieldType.int), 1, B_M_tout, C_M_tout), 3)
def e_M_nest : MT := ((⟨"PuntYardModel", "nest", "(III)I"⟩, prog_14_method_129_code, 4, (Option.some Jvm.ClassFile.FieldType.int), 1, B_M_nest, C_M_nest), 3)
def e_M_regatta : MT := ((⟨"PuntYardModel", "regatta", "(IIII)I"⟩, prog_14_method_130_code, 5, (Option.some Jvm.ClassFile.FieldType.int), 1, B_M_regatta, C_M_regatta), 4)
def e_M_barred : MT := ((⟨"PuntYardModel", "barred", "(II)I"⟩, prog_14_method_131_code, 8, (Option.some Jvm.ClassFile.FieldType.int), 1, B_M_barred, C_M_barred), 2)
def e_M_lays : MT := ((⟨"PuntYardModel", "lays", "([II)V"⟩, prog_14_method_132_code, 4, (Option.none : Option Jvm.ClassFile.FieldType), 1, B_M_lays, C_M_lays), 2)
def e_M_fetches : MT := ((⟨"PuntYardModel", "fetches", "([II)V"⟩, prog_14_method_133_code, 4, (Option.none : Option Jvm.ClassFile.FieldType), 1, B_M_fetches, C_M_fetches), 2)
def e_M_image : MT := ((⟨"PuntYardModel", "image", "()I"⟩, prog_14_method_134_code, 1, (Option.some Jvm.ClassFile.FieldType.int), 1, B_M_image, C_M_image), 0)
def e_M_restore : MT := ((⟨"PuntYardModel", "restore", "(I)Z"⟩, prog_14_method_135_code, 2, (Option.some Jvm.ClassFile.FieldType.boolean), 1, B_M_restore, C_M_restore), 1)
def e_M_count : MT := ((⟨"PuntYardModel", "count", "(I)I"⟩, prog_14_method_136_code, 2, (Option.some Jvm.ClassFile.FieldType.int), 1, B_M_count, C_M_count), 1)
def e_Integer_compare : MT := ((⟨"java/lang/Integer", "compare", "(II)I"⟩, prog_15_method_40_code, 2, (Option.some Jvm.ClassFile.FieldType.int), 0, B_Integer_compare, C_Integer_compare), 2)
def e_Integer_bitCount : MT := ((⟨"java/lang/Integer", "bitCount", "(I)I"⟩, prog_15_method_49_code, 1, (Option.some Jvm.ClassFile.FieldType.int), 0, B_Integer_bitCount, C_Integer_bitCount), 1)
def e_Math_abs : MT := ((⟨"java/lang/Math", "abs", "(J)J"⟩, prog_16_method_61_code, 2, (Option.some Jvm.ClassFile.FieldType.long), 0, B_Math_abs, C_Math_abs), 1)
def e_Math_max : MT := ((⟨"java/lang/Math", "max", "(II)I"⟩, prog_16_method_65_code, 2, (Option.some Jvm.ClassFile.FieldType.int), 0, B_Math_max, C_Math_max), 2)
def e_Math_min : MT := ((⟨"java/lang/Math", "min", "(II)I"⟩, prog_16_method_69_code, 2, (Option.some Jvm.ClassFile.FieldType.int), 0, B_Math_min, C_Math_min), 2)
def e_Arrays_fill_0 : MT := ((⟨"java/util/Arrays", "fill", "([JJ)V"⟩, prog_21_method_101_code, 5, (Option.none : Option Jvm.ClassFile.FieldType), 0, B_Arrays_fill_0, C_Arrays_fill_0), 2)
def e_Arrays_fill_1 : MT := ((⟨"java/util/Arrays", "fill", "([II)V"⟩, prog_21_method_103_code, 4, (Option.none : Option Jvm.ClassFile.FieldType), 0, B_Arrays_fill_1, C_Arrays_fill_1), 2)
def mTL : List MT := [e_Bill_init, e_Bill_drawPrice, e_Bill_draw, e_Bill_begun, e_Bill_raised, e_Bill_wetCoin, e_Bill_addRain, e_Bill_owed, e_Bill_look, e_Book_init, e_Book_take, e_Book_addBoat, e_Book_hasRoom, e_Book_addHire, e_Book_tell, e_Book_look, e_Book_dayOf, e_Book_kindOfHire, e_Book_nextOut, e_Book_reachesOfPole, e_Demand_init, e_Demand_take, e_Demand_isWhole, e_Demand_wanted, e_Demand_served, e_Demand_serveHour, e_Demand_commonDivisor, e_Demand_meanCoin, e_Demand_addLoyal, e_Demand_staying, e_Demand_bestPrice, e_Dock_init, e_Dock_take, e_Dock_setPaint, e_Dock_listDry, e_Dock_orderDry, e_Dock_isSooner, e_Dock_solvePaint, e_Dock_coinLost, e_Dock_solveRenewal, e_Dock_saving, e_Dock_bestSet, e_Guides_init, e_Guides_take, e_Guides_addGuide, e_Guides_addParty, e_Guides_canGuide, e_Guides_solve, e_Guides_worth, e_Guides_choose, e_Guides_payOut, e_Guides_spread, e_Law_init, e_Law_clear, e_Law_addRule, e_Law_emit, e_Law_testOf, e_Law_look, e_Law_busyParts, e_Law_harmPart, e_Law_isShut, e_Law_holds, e_Law_passes, e_Reader_init, e_Reader_hasRoom, e_Reader_append, e_Reader_read, e_Reader_scan, e_Reader_isBlank, e_Reader_isLetter, e_Reader_isDigit, e_Reader_isComparison, e_Reader_tokenEnd, e_Reader_tokenOf, e_Reader_slotOf, e_Reader_isInSlot, e_Reader_numberOf, e_Reader_take, e_Reader_takeNumber, e_Reader_readRule, e_Reader_readPrice, e_Reader_readBusy, e_Reader_readDeposit, e_Reader_readLate, e_Reader_readRight, e_Reader_readHarm, e_Reader_readShut, e_Reader_readAny, e_Reader_readAll, e_Reader_readOne, e_River_init, e_River_take, e_River_addSpell, e_River_addNest, e_River_addRegatta, e_River_rains, e_River_countWet, e_River_weedOf, e_River_nestedReaches, e_River_racedReaches, e_Roller_init, e_Roller_take, e_Roller_add, e_Roller_solve, e_Roller_place, e_State_init, e_State_take, e_View_init, e_View_see, e_View_learn, e_View_isBack, e_View_minutesOf, e_View_isAway, e_View_outBits, e_View_allBackBy, e_View_knowsAlike, e_View_freeMinutes, e_View_sharesRight, e_View_isAhead, e_View_markOut, e_View_minutesOfBoat, e_View_hiresOfBoat, e_View_waitFor, e_P_init, e_P_feed, e_P_law, e_P_fault, e_P_rule, e_P_water, e_P_rain, e_P_boat, e_P_free, e_P_out, e_P_back, e_P_mend, e_P_swamp, e_P_cushions, e_P_weed, e_P_cut, e_P_hire, e_P_known, e_P_bill, e_P_outs, e_P_takings, e_P_differ, e_P_cost, e_P_worst, e_P_together, e_P_worn, e_P_old, e_P_doubt, e_P_queue, e_P_chance, e_P_keep, e_P_least, e_P_protect, e_P_roll, e_P_rolled, e_P_guide, e_P_party, e_P_guided, e_P_pay, e_P_earned, e_P_pass, e_P_pole, e_P_paint, e_P_painted, e_P_fail, e_P_renew, e_P_loyal, e_P_tout, e_P_nest, e_P_regatta, e_P_barred, e_P_image, e_P_restore, e_P_count, e_P_within, e_P_isSpan, e_P_isDay, e_P_isMoment, e_P_isKind, e_P_isWho, e_P_isCoin, e_P_isBoat, e_P_isHire, e_P_isTelling, e_P_lawNumber, e_P_lawOf, e_P_canGo, e_P_canEnd, e_P_ask, e_P_seesHire, e_P_isBackOn, e_P_drawBill, e_P_boatsAheadOf, e_P_insertWait, e_M_init, e_M_isIn, e_M_one, e_M_has, e_M_bits, e_M_isDay, e_M_isMoment, e_M_isKind, e_M_begun, e_M_feed, e_M_four, e_M_blanks, e_M_word, e_M_takes, e_M_takesSign, e_M_takesNumber, e_M_askedBy, e_M_puts, e_M_opens, e_M_any, e_M_all, e_M_single, e_M_says, e_M_eachTold, e_M_priceTold, e_M_depositTold, e_M_lateTold, e_M_rightTold, e_M_oneTold, e_M_clauseTold, e_M_rule_0, e_M_bare, e_M_reads, e_M_law, e_M_fault, e_M_lawOf, e_M_said, e_M_rule_1, e_M_water, e_M_rain, e_M_rains, e_M_weed, e_M_cut, e_M_weedOn, e_M_boat, e_M_isBoat, e_M_isHire, e_M_isTelling, e_M_knows, e_M_isKnown, e_M_isBack, e_M_isOut, e_M_outSet, e_M_asks, e_M_isTrue, e_M_isShut, e_M_mayGo, e_M_free, e_M_tells, e_M_out, e_M_mayBe, e_M_back, e_M_mend, e_M_swamp, e_M_cushions, e_M_hire, e_M_known, e_M_lawBy, e_M_kindBy, e_M_minutes, e_M_freeOf, e_M_priceOf, e_M_lateOf, e_M_wetOf, e_M_harmOf, e_M_cushionsOf, e_M_owedOf, e_M_bill, e_M_outs, e_M_isOn, e_M_takings, e_M_keeps, e_M_differ, e_M_cost, e_M_worst, e_M_hasOut, e_M_together, e_M_wornNow, e_M_worn, e_M_old, e_M_doubt, e_M_comes, e_M_queue, e_M_chance, e_M_areWhole, e_M_served, e_M_wantedNow, e_M_divisor, e_M_keep, e_M_least, e_M_mean, e_M_protect, e_M_roll, e_M_orders, e_M_waits, e_M_rolled, e_M_guide, e_M_party, e_M_maySing, e_M_leftBy, e_M_lookLeft, e_M_guides, e_M_guided, e_M_pay, e_M_earned, e_M_pass, e_M_pole, e_M_dries, e_M_paint, e_M_sorts, e_M_lost, e_M_byBoats, e_M_painted, e_M_fail, e_M_renew, e_M_loyal, e_M_stays, e_M_tout, e_M_nest, e_M_regatta, e_M_barred, e_M_lays, e_M_fetches, e_M_image, e_M_restore, e_M_count, e_Integer_compare, e_Integer_bitCount, e_Math_abs, e_Math_max, e_Math_min, e_Arrays_fill_0, e_Arrays_fill_1]
def mPL : List PL := [(470, 13, 469, 0), (942, 13, 940, 941), (938, 13, 936, 937), (981, 13, 980, 0), (984, 13, 983, 0), (988, 13, 987, 1000034), (1038, 13, 1036, 1037), (1002, 13, 1000, 1001), (998, 13, 996, 997), (149, 6, 148, 0), (1345, 6, 1343, 1344), (769, 6, 767, 768), (847, 6, 845, 846), (851, 6, 849, 850), (856, 6, 854, 855), (909, 6, 907, 908), (872, 6, 870, 871), (946, 6, 944, 945), (885, 6, 883, 884), (1229, 6, 1227, 1228), (287, 8, 286, 0), (1355, 8, 1353, 1354), (1095, 8, 1093, 1094), (1117, 8, 1115, 1116), (1100, 8, 1098, 1099), (1108, 8, 1107, 1000038), (1122, 8, 1121, 0), (1139, 8, 1137, 1138), (1290, 8, 1288, 1289), (1302, 8, 1300, 1301), (1298, 8, 1296, 1297), (380, 11, 379, 0), (1368, 11, 1366, 1367), (1237, 11, 1235, 1236), (1241, 11, 1240, 1000042), (1253, 11, 1252, 1000043), (1257, 11, 1256, 1000044), (1249, 11, 1247, 1248), (1262, 11, 1261, 1000045), (1278, 11, 1276, 1277), (1282, 11, 1281, 1000046), (1266, 11, 1264, 1265), (340, 10, 339, 0), (1363, 10, 1361, 1362), (1169, 10, 1167, 1168), (1177, 10, 1175, 1176), (1194, 10, 1193, 1000040), (1185, 10, 1183, 1184), (1190, 10, 1189, 1000039), (1199, 10, 1198, 1000041), (1207, 10, 1205, 1206), (1215, 10, 1213, 1214), (62, 3, 61, 0), (572, 3, 570, 571), (680, 3, 678, 679), (715, 3, 713, 714), (711, 3, 710, 0), (740, 3, 738, 739), (977, 3, 975, 976), (994, 3, 992, 993), (828, 3, 826, 827), (832, 3, 831, 1000026), (835, 3, 834, 0), (34, 2, 33, 0), (557, 2, 555, 556), (561, 2, 559, 560), (576, 2, 574, 575), (583, 2, 582, 1000000), (586, 2, 585, 0), (593, 2, 592, 0), (596, 2, 595, 0), (656, 2, 655, 0), (590, 2, 589, 1000001), (600, 2, 599, 1000002), (608, 2, 607, 1000004), (612, 2, 611, 1000005), (604, 2, 603, 1000003), (664, 2, 663, 1000007), (672, 2, 671, 1000009), (660, 2, 659, 1000006), (668, 2, 667, 1000008), (676, 2, 675, 1000010), (684, 2, 683, 1000011), (688, 2, 687, 1000012), (692, 2, 691, 1000013), (696, 2, 695, 1000014), (719, 2, 718, 1000018), (700, 2, 699, 1000015), (704, 2, 703, 1000016), (708, 2, 707, 1000017), (225, 7, 224, 0), (1350, 7, 1348, 1349), (758, 7, 756, 757), (1311, 7, 1309, 1310), (1319, 7, 1317, 1318), (805, 7, 803, 804), (930, 7, 928, 929), (823, 7, 821, 822), (1328, 7, 1326, 1327), (1332, 7, 1330, 1331), (312, 9, 311, 0), (1359, 9, 1357, 1358), (1147, 9, 1145, 1146), (1155, 9, 1153, 1154), (1159, 9, 1158, 0), (143, 5, 142, 0), (1341, 5, 1339, 1340), (443, 12, 442, 0), (789, 12, 787, 788), (793, 12, 792, 1000023), (876, 12, 874, 875), (950, 12, 948, 949), (813, 12, 812, 1000025), (809, 12, 807, 808), (797, 12, 795, 796), (1024, 12, 1022, 1023), (954, 12, 952, 953), (960, 12, 959, 1000032), (965, 12, 964, 1000033), (1047, 12, 1045, 1046), (1055, 12, 1053, 1054), (1059, 12, 1057, 1058), (1079, 12, 1077, 1078), (26, 1, 25, 0), (553, 1, 551, 552), (565, 1, 563, 564), (724, 1, 722, 723), (728, 1, 726, 727), (744, 1, 742, 743), (751, 1, 749, 750), (762, 1, 760, 761), (773, 1, 771, 772), (840, 1, 838, 839), (860, 1, 858, 859), (881, 1, 879, 880), (889, 1, 887, 888), (893, 1, 891, 892), (897, 1, 895, 896), (901, 1, 899, 900), (905, 1, 903, 904), (913, 1, 911, 912), (925, 1, 923, 924), (1007, 1, 1005, 1006), (1011, 1, 1009, 1010), (1020, 1, 1018, 1019), (1028, 1, 1026, 1027), (1033, 1, 1031, 1032), (1043, 1, 1041, 1042), (1051, 1, 1049, 1050), (1063, 1, 1061, 1062), (1071, 1, 1069, 1070), (1075, 1, 1073, 1074), (1087, 1, 1085, 1086), (1091, 1, 1089, 1090), (1126, 1, 1124, 1125), (1132, 1, 1130, 1131), (1143, 1, 1141, 1142), (1151, 1, 1149, 1150), (1165, 1, 1163, 1164), (1173, 1, 1171, 1172), (1181, 1, 1179, 1180), (1203, 1, 1201, 1202), (1211, 1, 1209, 1210), (1220, 1, 1218, 1219), (1225, 1, 1223, 1224), (1233, 1, 1231, 1232), (1245, 1, 1243, 1244), (1270, 1, 1268, 1269), (1274, 1, 1272, 1273), (1286, 1, 1284, 1285), (1294, 1, 1292, 1293), (1307, 1, 1305, 1306), (1315, 1, 1313, 1314), (1323, 1, 1321, 1322), (1337, 1, 1335, 1336), (1373, 1, 1371, 1372), (1377, 1, 1375, 1376), (747, 1, 746, 0), (754, 1, 753, 0), (568, 1, 567, 0), (780, 1, 779, 0), (765, 1, 764, 0), (843, 1, 842, 0), (1135, 1, 1134, 0), (777, 1, 776, 1000021), (868, 1, 867, 1000028), (921, 1, 920, 1000030), (732, 1, 731, 1000019), (736, 1, 735, 1000020), (785, 1, 784, 1000022), (864, 1, 863, 1000027), (801, 1, 800, 1000024), (917, 1, 916, 1000029), (1015, 1, 1014, 1000035), (934, 1, 933, 1000031), (1067, 1, 1066, 1000036), (1083, 1, 1082, 1000037), (1382, 14, 1381, 0), (1688, 14, 1687, 0), (1890, 14, 1889, 0), (2115, 14, 2114, 0), (1879, 14, 1878, 0), (1691, 14, 1690, 0), (1851, 14, 1850, 0), (1840, 14, 1839, 0), (1976, 14, 1975, 0), (1677, 14, 1675, 1676), (1681, 14, 1680, 1000047), (1703, 14, 1702, 1000050), (1716, 14, 1715, 1000053), (1712, 14, 1711, 1000052), (1765, 14, 1764, 1000064), (1724, 14, 1723, 1000055), (1768, 14, 1767, 0), (1761, 14, 1760, 1000063), (1757, 14, 1756, 1000062), (1744, 14, 1743, 1000059), (1748, 14, 1747, 1000060), (1752, 14, 1751, 1000061), (1733, 14, 1732, 1000057), (1728, 14, 1727, 1000056), (1720, 14, 1719, 1000054), (1783, 14, 1782, 1000065), (1788, 14, 1787, 1000066), (1798, 14, 1797, 1000068), (1793, 14, 1792, 1000067), (1738, 14, 1737, 1000058), (1707, 14, 1706, 1000051), (1699, 14, 1698, 1000049), (1695, 14, 1694, 1000048), (1685, 14, 1683, 1684), (1805, 14, 1803, 1804), (1813, 14, 1812, 1000069), (1817, 14, 1816, 1000070), (1809, 14, 1807, 1808), (1821, 14, 1819, 1820), (1825, 14, 1823, 1824), (1887, 14, 1886, 1000079), (1829, 14, 1827, 1828), (1833, 14, 1831, 1832), (1894, 14, 1893, 1000080), (1837, 14, 1835, 1836), (1848, 14, 1847, 1000071), (1919, 14, 1918, 1000084), (1943, 14, 1942, 1000085), (1860, 14, 1859, 1000073), (1876, 14, 1875, 1000077), (1952, 14, 1951, 1000086), (1872, 14, 1871, 1000076), (1868, 14, 1867, 1000075), (1883, 14, 1882, 1000078), (1899, 14, 1898, 1000081), (1864, 14, 1863, 1000074), (1856, 14, 1855, 1000072), (1844, 14, 1842, 1843), (1907, 14, 1906, 1000082), (1903, 14, 1901, 1902), (1915, 14, 1914, 1000083), (1911, 14, 1909, 1910), (1923, 14, 1921, 1922), (1927, 14, 1925, 1926), (1931, 14, 1929, 1930), (1935, 14, 1933, 1934), (1939, 14, 1937, 1938), (1964, 14, 1963, 1000089), (1968, 14, 1967, 1000090), (1956, 14, 1955, 1000087), (1960, 14, 1959, 1000088), (1973, 14, 1972, 1000091), (1980, 14, 1979, 1000092), (1984, 14, 1983, 1000093), (1989, 14, 1988, 1000094), (1997, 14, 1996, 1000096), (1993, 14, 1992, 1000095), (1947, 14, 1945, 1946), (2001, 14, 1999, 2000), (2009, 14, 2008, 1000097), (2005, 14, 2003, 2004), (2017, 14, 2016, 1000098), (2013, 14, 2011, 2012), (2021, 14, 2019, 2020), (2025, 14, 2023, 2024), (2033, 14, 2032, 1000099), (2029, 14, 2027, 2028), (2041, 14, 2040, 1000100), (2037, 14, 2035, 2036), (2045, 14, 2043, 2044), (2049, 14, 2047, 2048), (2057, 14, 2056, 1000101), (2053, 14, 2051, 2052), (2061, 14, 2059, 2060), (2069, 14, 2068, 1000102), (2074, 14, 2073, 1000103), (2080, 14, 2079, 1000104), (2083, 14, 2082, 0), (2065, 14, 2063, 2064), (2090, 14, 2088, 2089), (2099, 14, 2098, 1000105), (2095, 14, 2093, 2094), (2103, 14, 2101, 2102), (2112, 14, 2111, 1000106), (2119, 14, 2118, 1000107), (2107, 14, 2105, 2106), (2123, 14, 2121, 2122), (2127, 14, 2125, 2126), (2148, 14, 2147, 1000111), (2143, 14, 2142, 1000110), (2139, 14, 2138, 1000109), (2135, 14, 2134, 1000108), (2131, 14, 2129, 2130), (2152, 14, 2150, 2151), (2156, 14, 2154, 2155), (2160, 14, 2158, 2159), (2165, 14, 2163, 2164), (2173, 14, 2172, 1000112), (2169, 14, 2167, 2168), (2181, 14, 2180, 1000113), (2185, 14, 2184, 1000114), (2189, 14, 2188, 1000115), (2177, 14, 2175, 2176), (2193, 14, 2191, 2192), (2197, 14, 2195, 2196), (2201, 14, 2199, 2200), (2209, 14, 2208, 1000116), (2205, 14, 2203, 2204), (2213, 14, 2211, 2212), (2217, 14, 2215, 2216), (2221, 14, 2219, 2220), (2229, 14, 2228, 1000117), (2237, 14, 2236, 1000118), (2225, 14, 2223, 2224), (2233, 14, 2231, 2232), (2241, 14, 2239, 2240), (968, 20, 967, 0), (816, 20, 815, 0), (2086, 15, 2085, 0), (972, 15, 971, 0), (579, 15, 578, 0), (1103, 4, 1102, 0), (66, 4, 65, 0)]
def mtb (j : Nat) : Option MT := mTL[j]?
set_option maxRecDepth 100000 in
theorem mTL_len : mTL.length = 340 := rfl
set_option maxRecDepth 100000 in
theorem m_Bill_init : mtb 0 = some e_Bill_init := rfl
set_option maxRecDepth 100000 in
theorem m_Bill_drawPrice : mtb 1 = some e_Bill_drawPrice := rfl
set_option maxRecDepth 100000 in
theorem m_Bill_draw : mtb 2 = some e_Bill_draw := rfl
set_option maxRecDepth 100000 in
theorem m_Bill_begun : mtb 3 = some e_Bill_begun := rfl
set_option maxRecDepth 100000 in
theorem m_Bill_raised : mtb 4 = some e_Bill_raised := rfl
set_option maxRecDepth 100000 in
theorem m_Bill_wetCoin : mtb 5 = some e_Bill_wetCoin := rfl
set_option maxRecDepth 100000 in
theorem m_Bill_addRain : mtb 6 = some e_Bill_addRain := rfl
set_option maxRecDepth 100000 in
theorem m_Bill_owed : mtb 7 = some e_Bill_owed := rfl
set_option maxRecDepth 100000 in
theorem m_Bill_look : mtb 8 = some e_Bill_look := rfl
set_option maxRecDepth 100000 in
theorem m_Book_init : mtb 9 = some e_Book_init := rfl
set_option maxRecDepth 100000 in
theorem m_Book_take : mtb 10 = some e_Book_take := rfl
set_option maxRecDepth 100000 in
theorem m_Book_addBoat : mtb 11 = some e_Book_addBoat := rfl
set_option maxRecDepth 100000 in
theorem m_Book_hasRoom : mtb 12 = some e_Book_hasRoom := rfl
set_option maxRecDepth 100000 in
theorem m_Book_addHire : mtb 13 = some e_Book_addHire := rfl
set_option maxRecDepth 100000 in
theorem m_Book_tell : mtb 14 = some e_Book_tell := rfl
set_option maxRecDepth 100000 in
theorem m_Book_look : mtb 15 = some e_Book_look := rfl
set_option maxRecDepth 100000 in
theorem m_Book_dayOf : mtb 16 = some e_Book_dayOf := rfl
set_option maxRecDepth 100000 in
theorem m_Book_kindOfHire : mtb 17 = some e_Book_kindOfHire := rfl
set_option maxRecDepth 100000 in
theorem m_Book_nextOut : mtb 18 = some e_Book_nextOut := rfl
set_option maxRecDepth 100000 in
theorem m_Book_reachesOfPole : mtb 19 = some e_Book_reachesOfPole := rfl
set_option maxRecDepth 100000 in
theorem m_Demand_init : mtb 20 = some e_Demand_init := rfl
set_option maxRecDepth 100000 in
theorem m_Demand_take : mtb 21 = some e_Demand_take := rfl
set_option maxRecDepth 100000 in
theorem m_Demand_isWhole : mtb 22 = some e_Demand_isWhole := rfl
set_option maxRecDepth 100000 in
theorem m_Demand_wanted : mtb 23 = some e_Demand_wanted := rfl
set_option maxRecDepth 100000 in
theorem m_Demand_served : mtb 24 = some e_Demand_served := rfl
set_option maxRecDepth 100000 in
theorem m_Demand_serveHour : mtb 25 = some e_Demand_serveHour := rfl
set_option maxRecDepth 100000 in
theorem m_Demand_commonDivisor : mtb 26 = some e_Demand_commonDivisor := rfl
set_option maxRecDepth 100000 in
theorem m_Demand_meanCoin : mtb 27 = some e_Demand_meanCoin := rfl
set_option maxRecDepth 100000 in
theorem m_Demand_addLoyal : mtb 28 = some e_Demand_addLoyal := rfl
set_option maxRecDepth 100000 in
theorem m_Demand_staying : mtb 29 = some e_Demand_staying := rfl
set_option maxRecDepth 100000 in
theorem m_Demand_bestPrice : mtb 30 = some e_Demand_bestPrice := rfl
set_option maxRecDepth 100000 in
theorem m_Dock_init : mtb 31 = some e_Dock_init := rfl
set_option maxRecDepth 100000 in
theorem m_Dock_take : mtb 32 = some e_Dock_take := rfl
set_option maxRecDepth 100000 in
theorem m_Dock_setPaint : mtb 33 = some e_Dock_setPaint := rfl
set_option maxRecDepth 100000 in
theorem m_Dock_listDry : mtb 34 = some e_Dock_listDry := rfl
set_option maxRecDepth 100000 in
theorem m_Dock_orderDry : mtb 35 = some e_Dock_orderDry := rfl
set_option maxRecDepth 100000 in
theorem m_Dock_isSooner : mtb 36 = some e_Dock_isSooner := rfl
set_option maxRecDepth 100000 in
theorem m_Dock_solvePaint : mtb 37 = some e_Dock_solvePaint := rfl
set_option maxRecDepth 100000 in
theorem m_Dock_coinLost : mtb 38 = some e_Dock_coinLost := rfl
set_option maxRecDepth 100000 in
theorem m_Dock_solveRenewal : mtb 39 = some e_Dock_solveRenewal := rfl
set_option maxRecDepth 100000 in
theorem m_Dock_saving : mtb 40 = some e_Dock_saving := rfl
set_option maxRecDepth 100000 in
theorem m_Dock_bestSet : mtb 41 = some e_Dock_bestSet := rfl
set_option maxRecDepth 100000 in
theorem m_Guides_init : mtb 42 = some e_Guides_init := rfl
set_option maxRecDepth 100000 in
theorem m_Guides_take : mtb 43 = some e_Guides_take := rfl
set_option maxRecDepth 100000 in
theorem m_Guides_addGuide : mtb 44 = some e_Guides_addGuide := rfl
set_option maxRecDepth 100000 in
theorem m_Guides_addParty : mtb 45 = some e_Guides_addParty := rfl
set_option maxRecDepth 100000 in
theorem m_Guides_canGuide : mtb 46 = some e_Guides_canGuide := rfl
set_option maxRecDepth 100000 in
theorem m_Guides_solve : mtb 47 = some e_Guides_solve := rfl
set_option maxRecDepth 100000 in
theorem m_Guides_worth : mtb 48 = some e_Guides_worth := rfl
set_option maxRecDepth 100000 in
theorem m_Guides_choose : mtb 49 = some e_Guides_choose := rfl
set_option maxRecDepth 100000 in
theorem m_Guides_payOut : mtb 50 = some e_Guides_payOut := rfl
set_option maxRecDepth 100000 in
theorem m_Guides_spread : mtb 51 = some e_Guides_spread := rfl
set_option maxRecDepth 100000 in
theorem m_Law_init : mtb 52 = some e_Law_init := rfl
set_option maxRecDepth 100000 in
theorem m_Law_clear : mtb 53 = some e_Law_clear := rfl
set_option maxRecDepth 100000 in
theorem m_Law_addRule : mtb 54 = some e_Law_addRule := rfl
set_option maxRecDepth 100000 in
theorem m_Law_emit : mtb 55 = some e_Law_emit := rfl
set_option maxRecDepth 100000 in
theorem m_Law_testOf : mtb 56 = some e_Law_testOf := rfl
set_option maxRecDepth 100000 in
theorem m_Law_look : mtb 57 = some e_Law_look := rfl
set_option maxRecDepth 100000 in
theorem m_Law_busyParts : mtb 58 = some e_Law_busyParts := rfl
set_option maxRecDepth 100000 in
theorem m_Law_harmPart : mtb 59 = some e_Law_harmPart := rfl
set_option maxRecDepth 100000 in
theorem m_Law_isShut : mtb 60 = some e_Law_isShut := rfl
set_option maxRecDepth 100000 in
theorem m_Law_holds : mtb 61 = some e_Law_holds := rfl
set_option maxRecDepth 100000 in
theorem m_Law_passes : mtb 62 = some e_Law_passes := rfl
set_option maxRecDepth 100000 in
theorem m_Reader_init : mtb 63 = some e_Reader_init := rfl
set_option maxRecDepth 100000 in
theorem m_Reader_hasRoom : mtb 64 = some e_Reader_hasRoom := rfl
set_option maxRecDepth 100000 in
theorem m_Reader_append : mtb 65 = some e_Reader_append := rfl
set_option maxRecDepth 100000 in
theorem m_Reader_read : mtb 66 = some e_Reader_read := rfl
set_option maxRecDepth 100000 in
theorem m_Reader_scan : mtb 67 = some e_Reader_scan := rfl
set_option maxRecDepth 100000 in
theorem m_Reader_isBlank : mtb 68 = some e_Reader_isBlank := rfl
set_option maxRecDepth 100000 in
theorem m_Reader_isLetter : mtb 69 = some e_Reader_isLetter := rfl
set_option maxRecDepth 100000 in
theorem m_Reader_isDigit : mtb 70 = some e_Reader_isDigit := rfl
set_option maxRecDepth 100000 in
theorem m_Reader_isComparison : mtb 71 = some e_Reader_isComparison := rfl
set_option maxRecDepth 100000 in
theorem m_Reader_tokenEnd : mtb 72 = some e_Reader_tokenEnd := rfl
set_option maxRecDepth 100000 in
theorem m_Reader_tokenOf : mtb 73 = some e_Reader_tokenOf := rfl
set_option maxRecDepth 100000 in
theorem m_Reader_slotOf : mtb 74 = some e_Reader_slotOf := rfl
set_option maxRecDepth 100000 in
theorem m_Reader_isInSlot : mtb 75 = some e_Reader_isInSlot := rfl
set_option maxRecDepth 100000 in
theorem m_Reader_numberOf : mtb 76 = some e_Reader_numberOf := rfl
set_option maxRecDepth 100000 in
theorem m_Reader_take : mtb 77 = some e_Reader_take := rfl
set_option maxRecDepth 100000 in
theorem m_Reader_takeNumber : mtb 78 = some e_Reader_takeNumber := rfl
set_option maxRecDepth 100000 in
theorem m_Reader_readRule : mtb 79 = some e_Reader_readRule := rfl
set_option maxRecDepth 100000 in
theorem m_Reader_readPrice : mtb 80 = some e_Reader_readPrice := rfl
set_option maxRecDepth 100000 in
theorem m_Reader_readBusy : mtb 81 = some e_Reader_readBusy := rfl
set_option maxRecDepth 100000 in
theorem m_Reader_readDeposit : mtb 82 = some e_Reader_readDeposit := rfl
set_option maxRecDepth 100000 in
theorem m_Reader_readLate : mtb 83 = some e_Reader_readLate := rfl
set_option maxRecDepth 100000 in
theorem m_Reader_readRight : mtb 84 = some e_Reader_readRight := rfl
set_option maxRecDepth 100000 in
theorem m_Reader_readHarm : mtb 85 = some e_Reader_readHarm := rfl
set_option maxRecDepth 100000 in
theorem m_Reader_readShut : mtb 86 = some e_Reader_readShut := rfl
set_option maxRecDepth 100000 in
theorem m_Reader_readAny : mtb 87 = some e_Reader_readAny := rfl
set_option maxRecDepth 100000 in
theorem m_Reader_readAll : mtb 88 = some e_Reader_readAll := rfl
set_option maxRecDepth 100000 in
theorem m_Reader_readOne : mtb 89 = some e_Reader_readOne := rfl
set_option maxRecDepth 100000 in
theorem m_River_init : mtb 90 = some e_River_init := rfl
set_option maxRecDepth 100000 in
theorem m_River_take : mtb 91 = some e_River_take := rfl
set_option maxRecDepth 100000 in
theorem m_River_addSpell : mtb 92 = some e_River_addSpell := rfl
set_option maxRecDepth 100000 in
theorem m_River_addNest : mtb 93 = some e_River_addNest := rfl
set_option maxRecDepth 100000 in
theorem m_River_addRegatta : mtb 94 = some e_River_addRegatta := rfl
set_option maxRecDepth 100000 in
theorem m_River_rains : mtb 95 = some e_River_rains := rfl
set_option maxRecDepth 100000 in
theorem m_River_countWet : mtb 96 = some e_River_countWet := rfl
set_option maxRecDepth 100000 in
theorem m_River_weedOf : mtb 97 = some e_River_weedOf := rfl
set_option maxRecDepth 100000 in
theorem m_River_nestedReaches : mtb 98 = some e_River_nestedReaches := rfl
set_option maxRecDepth 100000 in
theorem m_River_racedReaches : mtb 99 = some e_River_racedReaches := rfl
set_option maxRecDepth 100000 in
theorem m_Roller_init : mtb 100 = some e_Roller_init := rfl
set_option maxRecDepth 100000 in
theorem m_Roller_take : mtb 101 = some e_Roller_take := rfl
set_option maxRecDepth 100000 in
theorem m_Roller_add : mtb 102 = some e_Roller_add := rfl
set_option maxRecDepth 100000 in
theorem m_Roller_solve : mtb 103 = some e_Roller_solve := rfl
set_option maxRecDepth 100000 in
theorem m_Roller_place : mtb 104 = some e_Roller_place := rfl
set_option maxRecDepth 100000 in
theorem m_State_init : mtb 105 = some e_State_init := rfl
set_option maxRecDepth 100000 in
theorem m_State_take : mtb 106 = some e_State_take := rfl
set_option maxRecDepth 100000 in
theorem m_View_init : mtb 107 = some e_View_init := rfl
set_option maxRecDepth 100000 in
theorem m_View_see : mtb 108 = some e_View_see := rfl
set_option maxRecDepth 100000 in
theorem m_View_learn : mtb 109 = some e_View_learn := rfl
set_option maxRecDepth 100000 in
theorem m_View_isBack : mtb 110 = some e_View_isBack := rfl
set_option maxRecDepth 100000 in
theorem m_View_minutesOf : mtb 111 = some e_View_minutesOf := rfl
set_option maxRecDepth 100000 in
theorem m_View_isAway : mtb 112 = some e_View_isAway := rfl
set_option maxRecDepth 100000 in
theorem m_View_outBits : mtb 113 = some e_View_outBits := rfl
set_option maxRecDepth 100000 in
theorem m_View_allBackBy : mtb 114 = some e_View_allBackBy := rfl
set_option maxRecDepth 100000 in
theorem m_View_knowsAlike : mtb 115 = some e_View_knowsAlike := rfl
set_option maxRecDepth 100000 in
theorem m_View_freeMinutes : mtb 116 = some e_View_freeMinutes := rfl
set_option maxRecDepth 100000 in
theorem m_View_sharesRight : mtb 117 = some e_View_sharesRight := rfl
set_option maxRecDepth 100000 in
theorem m_View_isAhead : mtb 118 = some e_View_isAhead := rfl
set_option maxRecDepth 100000 in
theorem m_View_markOut : mtb 119 = some e_View_markOut := rfl
set_option maxRecDepth 100000 in
theorem m_View_minutesOfBoat : mtb 120 = some e_View_minutesOfBoat := rfl
set_option maxRecDepth 100000 in
theorem m_View_hiresOfBoat : mtb 121 = some e_View_hiresOfBoat := rfl
set_option maxRecDepth 100000 in
theorem m_View_waitFor : mtb 122 = some e_View_waitFor := rfl
set_option maxRecDepth 100000 in
theorem m_P_init : mtb 123 = some e_P_init := rfl
set_option maxRecDepth 100000 in
theorem m_P_feed : mtb 124 = some e_P_feed := rfl
set_option maxRecDepth 100000 in
theorem m_P_law : mtb 125 = some e_P_law := rfl
set_option maxRecDepth 100000 in
theorem m_P_fault : mtb 126 = some e_P_fault := rfl
set_option maxRecDepth 100000 in
theorem m_P_rule : mtb 127 = some e_P_rule := rfl
set_option maxRecDepth 100000 in
theorem m_P_water : mtb 128 = some e_P_water := rfl
set_option maxRecDepth 100000 in
theorem m_P_rain : mtb 129 = some e_P_rain := rfl
set_option maxRecDepth 100000 in
theorem m_P_boat : mtb 130 = some e_P_boat := rfl
set_option maxRecDepth 100000 in
theorem m_P_free : mtb 131 = some e_P_free := rfl
set_option maxRecDepth 100000 in
theorem m_P_out : mtb 132 = some e_P_out := rfl
set_option maxRecDepth 100000 in
theorem m_P_back : mtb 133 = some e_P_back := rfl
set_option maxRecDepth 100000 in
theorem m_P_mend : mtb 134 = some e_P_mend := rfl
set_option maxRecDepth 100000 in
theorem m_P_swamp : mtb 135 = some e_P_swamp := rfl
set_option maxRecDepth 100000 in
theorem m_P_cushions : mtb 136 = some e_P_cushions := rfl
set_option maxRecDepth 100000 in
theorem m_P_weed : mtb 137 = some e_P_weed := rfl
set_option maxRecDepth 100000 in
theorem m_P_cut : mtb 138 = some e_P_cut := rfl
set_option maxRecDepth 100000 in
theorem m_P_hire : mtb 139 = some e_P_hire := rfl
set_option maxRecDepth 100000 in
theorem m_P_known : mtb 140 = some e_P_known := rfl
set_option maxRecDepth 100000 in
theorem m_P_bill : mtb 141 = some e_P_bill := rfl
set_option maxRecDepth 100000 in
theorem m_P_outs : mtb 142 = some e_P_outs := rfl
set_option maxRecDepth 100000 in
theorem m_P_takings : mtb 143 = some e_P_takings := rfl
set_option maxRecDepth 100000 in
theorem m_P_differ : mtb 144 = some e_P_differ := rfl
set_option maxRecDepth 100000 in
theorem m_P_cost : mtb 145 = some e_P_cost := rfl
set_option maxRecDepth 100000 in
theorem m_P_worst : mtb 146 = some e_P_worst := rfl
set_option maxRecDepth 100000 in
theorem m_P_together : mtb 147 = some e_P_together := rfl
set_option maxRecDepth 100000 in
theorem m_P_worn : mtb 148 = some e_P_worn := rfl
set_option maxRecDepth 100000 in
theorem m_P_old : mtb 149 = some e_P_old := rfl
set_option maxRecDepth 100000 in
theorem m_P_doubt : mtb 150 = some e_P_doubt := rfl
set_option maxRecDepth 100000 in
theorem m_P_queue : mtb 151 = some e_P_queue := rfl
set_option maxRecDepth 100000 in
theorem m_P_chance : mtb 152 = some e_P_chance := rfl
set_option maxRecDepth 100000 in
theorem m_P_keep : mtb 153 = some e_P_keep := rfl
set_option maxRecDepth 100000 in
theorem m_P_least : mtb 154 = some e_P_least := rfl
set_option maxRecDepth 100000 in
theorem m_P_protect : mtb 155 = some e_P_protect := rfl
set_option maxRecDepth 100000 in
theorem m_P_roll : mtb 156 = some e_P_roll := rfl
set_option maxRecDepth 100000 in
theorem m_P_rolled : mtb 157 = some e_P_rolled := rfl
set_option maxRecDepth 100000 in
theorem m_P_guide : mtb 158 = some e_P_guide := rfl
set_option maxRecDepth 100000 in
theorem m_P_party : mtb 159 = some e_P_party := rfl
set_option maxRecDepth 100000 in
theorem m_P_guided : mtb 160 = some e_P_guided := rfl
set_option maxRecDepth 100000 in
theorem m_P_pay : mtb 161 = some e_P_pay := rfl
set_option maxRecDepth 100000 in
theorem m_P_earned : mtb 162 = some e_P_earned := rfl
set_option maxRecDepth 100000 in
theorem m_P_pass : mtb 163 = some e_P_pass := rfl
set_option maxRecDepth 100000 in
theorem m_P_pole : mtb 164 = some e_P_pole := rfl
set_option maxRecDepth 100000 in
theorem m_P_paint : mtb 165 = some e_P_paint := rfl
set_option maxRecDepth 100000 in
theorem m_P_painted : mtb 166 = some e_P_painted := rfl
set_option maxRecDepth 100000 in
theorem m_P_fail : mtb 167 = some e_P_fail := rfl
set_option maxRecDepth 100000 in
theorem m_P_renew : mtb 168 = some e_P_renew := rfl
set_option maxRecDepth 100000 in
theorem m_P_loyal : mtb 169 = some e_P_loyal := rfl
set_option maxRecDepth 100000 in
theorem m_P_tout : mtb 170 = some e_P_tout := rfl
set_option maxRecDepth 100000 in
theorem m_P_nest : mtb 171 = some e_P_nest := rfl
set_option maxRecDepth 100000 in
theorem m_P_regatta : mtb 172 = some e_P_regatta := rfl
set_option maxRecDepth 100000 in
theorem m_P_barred : mtb 173 = some e_P_barred := rfl
set_option maxRecDepth 100000 in
theorem m_P_image : mtb 174 = some e_P_image := rfl
set_option maxRecDepth 100000 in
theorem m_P_restore : mtb 175 = some e_P_restore := rfl
set_option maxRecDepth 100000 in
theorem m_P_count : mtb 176 = some e_P_count := rfl
set_option maxRecDepth 100000 in
theorem m_P_within : mtb 177 = some e_P_within := rfl
set_option maxRecDepth 100000 in
theorem m_P_isSpan : mtb 178 = some e_P_isSpan := rfl
set_option maxRecDepth 100000 in
theorem m_P_isDay : mtb 179 = some e_P_isDay := rfl
set_option maxRecDepth 100000 in
theorem m_P_isMoment : mtb 180 = some e_P_isMoment := rfl
set_option maxRecDepth 100000 in
theorem m_P_isKind : mtb 181 = some e_P_isKind := rfl
set_option maxRecDepth 100000 in
theorem m_P_isWho : mtb 182 = some e_P_isWho := rfl
set_option maxRecDepth 100000 in
theorem m_P_isCoin : mtb 183 = some e_P_isCoin := rfl
set_option maxRecDepth 100000 in
theorem m_P_isBoat : mtb 184 = some e_P_isBoat := rfl
set_option maxRecDepth 100000 in
theorem m_P_isHire : mtb 185 = some e_P_isHire := rfl
set_option maxRecDepth 100000 in
theorem m_P_isTelling : mtb 186 = some e_P_isTelling := rfl
set_option maxRecDepth 100000 in
theorem m_P_lawNumber : mtb 187 = some e_P_lawNumber := rfl
set_option maxRecDepth 100000 in
theorem m_P_lawOf : mtb 188 = some e_P_lawOf := rfl
set_option maxRecDepth 100000 in
theorem m_P_canGo : mtb 189 = some e_P_canGo := rfl
set_option maxRecDepth 100000 in
theorem m_P_canEnd : mtb 190 = some e_P_canEnd := rfl
set_option maxRecDepth 100000 in
theorem m_P_ask : mtb 191 = some e_P_ask := rfl
set_option maxRecDepth 100000 in
theorem m_P_seesHire : mtb 192 = some e_P_seesHire := rfl
set_option maxRecDepth 100000 in
theorem m_P_isBackOn : mtb 193 = some e_P_isBackOn := rfl
set_option maxRecDepth 100000 in
theorem m_P_drawBill : mtb 194 = some e_P_drawBill := rfl
set_option maxRecDepth 100000 in
theorem m_P_boatsAheadOf : mtb 195 = some e_P_boatsAheadOf := rfl
set_option maxRecDepth 100000 in
theorem m_P_insertWait : mtb 196 = some e_P_insertWait := rfl
set_option maxRecDepth 100000 in
theorem m_M_init : mtb 197 = some e_M_init := rfl
set_option maxRecDepth 100000 in
theorem m_M_isIn : mtb 198 = some e_M_isIn := rfl
set_option maxRecDepth 100000 in
theorem m_M_one : mtb 199 = some e_M_one := rfl
set_option maxRecDepth 100000 in
theorem m_M_has : mtb 200 = some e_M_has := rfl
set_option maxRecDepth 100000 in
theorem m_M_bits : mtb 201 = some e_M_bits := rfl
set_option maxRecDepth 100000 in
theorem m_M_isDay : mtb 202 = some e_M_isDay := rfl
set_option maxRecDepth 100000 in
theorem m_M_isMoment : mtb 203 = some e_M_isMoment := rfl
set_option maxRecDepth 100000 in
theorem m_M_isKind : mtb 204 = some e_M_isKind := rfl
set_option maxRecDepth 100000 in
theorem m_M_begun : mtb 205 = some e_M_begun := rfl
set_option maxRecDepth 100000 in
theorem m_M_feed : mtb 206 = some e_M_feed := rfl
set_option maxRecDepth 100000 in
theorem m_M_four : mtb 207 = some e_M_four := rfl
set_option maxRecDepth 100000 in
theorem m_M_blanks : mtb 208 = some e_M_blanks := rfl
set_option maxRecDepth 100000 in
theorem m_M_word : mtb 209 = some e_M_word := rfl
set_option maxRecDepth 100000 in
theorem m_M_takes : mtb 210 = some e_M_takes := rfl
set_option maxRecDepth 100000 in
theorem m_M_takesSign : mtb 211 = some e_M_takesSign := rfl
set_option maxRecDepth 100000 in
theorem m_M_takesNumber : mtb 212 = some e_M_takesNumber := rfl
set_option maxRecDepth 100000 in
theorem m_M_askedBy : mtb 213 = some e_M_askedBy := rfl
set_option maxRecDepth 100000 in
theorem m_M_puts : mtb 214 = some e_M_puts := rfl
set_option maxRecDepth 100000 in
theorem m_M_opens : mtb 215 = some e_M_opens := rfl
set_option maxRecDepth 100000 in
theorem m_M_any : mtb 216 = some e_M_any := rfl
set_option maxRecDepth 100000 in
theorem m_M_all : mtb 217 = some e_M_all := rfl
set_option maxRecDepth 100000 in
theorem m_M_single : mtb 218 = some e_M_single := rfl
set_option maxRecDepth 100000 in
theorem m_M_says : mtb 219 = some e_M_says := rfl
set_option maxRecDepth 100000 in
theorem m_M_eachTold : mtb 220 = some e_M_eachTold := rfl
set_option maxRecDepth 100000 in
theorem m_M_priceTold : mtb 221 = some e_M_priceTold := rfl
set_option maxRecDepth 100000 in
theorem m_M_depositTold : mtb 222 = some e_M_depositTold := rfl
set_option maxRecDepth 100000 in
theorem m_M_lateTold : mtb 223 = some e_M_lateTold := rfl
set_option maxRecDepth 100000 in
theorem m_M_rightTold : mtb 224 = some e_M_rightTold := rfl
set_option maxRecDepth 100000 in
theorem m_M_oneTold : mtb 225 = some e_M_oneTold := rfl
set_option maxRecDepth 100000 in
theorem m_M_clauseTold : mtb 226 = some e_M_clauseTold := rfl
set_option maxRecDepth 100000 in
theorem m_M_rule_0 : mtb 227 = some e_M_rule_0 := rfl
set_option maxRecDepth 100000 in
theorem m_M_bare : mtb 228 = some e_M_bare := rfl
set_option maxRecDepth 100000 in
theorem m_M_reads : mtb 229 = some e_M_reads := rfl
set_option maxRecDepth 100000 in
theorem m_M_law : mtb 230 = some e_M_law := rfl
set_option maxRecDepth 100000 in
theorem m_M_fault : mtb 231 = some e_M_fault := rfl
set_option maxRecDepth 100000 in
theorem m_M_lawOf : mtb 232 = some e_M_lawOf := rfl
set_option maxRecDepth 100000 in
theorem m_M_said : mtb 233 = some e_M_said := rfl
set_option maxRecDepth 100000 in
theorem m_M_rule_1 : mtb 234 = some e_M_rule_1 := rfl
set_option maxRecDepth 100000 in
theorem m_M_water : mtb 235 = some e_M_water := rfl
set_option maxRecDepth 100000 in
theorem m_M_rain : mtb 236 = some e_M_rain := rfl
set_option maxRecDepth 100000 in
theorem m_M_rains : mtb 237 = some e_M_rains := rfl
set_option maxRecDepth 100000 in
theorem m_M_weed : mtb 238 = some e_M_weed := rfl
set_option maxRecDepth 100000 in
theorem m_M_cut : mtb 239 = some e_M_cut := rfl
set_option maxRecDepth 100000 in
theorem m_M_weedOn : mtb 240 = some e_M_weedOn := rfl
set_option maxRecDepth 100000 in
theorem m_M_boat : mtb 241 = some e_M_boat := rfl
set_option maxRecDepth 100000 in
theorem m_M_isBoat : mtb 242 = some e_M_isBoat := rfl
set_option maxRecDepth 100000 in
theorem m_M_isHire : mtb 243 = some e_M_isHire := rfl
set_option maxRecDepth 100000 in
theorem m_M_isTelling : mtb 244 = some e_M_isTelling := rfl
set_option maxRecDepth 100000 in
theorem m_M_knows : mtb 245 = some e_M_knows := rfl
set_option maxRecDepth 100000 in
theorem m_M_isKnown : mtb 246 = some e_M_isKnown := rfl
set_option maxRecDepth 100000 in
theorem m_M_isBack : mtb 247 = some e_M_isBack := rfl
set_option maxRecDepth 100000 in
theorem m_M_isOut : mtb 248 = some e_M_isOut := rfl
set_option maxRecDepth 100000 in
theorem m_M_outSet : mtb 249 = some e_M_outSet := rfl
set_option maxRecDepth 100000 in
theorem m_M_asks : mtb 250 = some e_M_asks := rfl
set_option maxRecDepth 100000 in
theorem m_M_isTrue : mtb 251 = some e_M_isTrue := rfl
set_option maxRecDepth 100000 in
theorem m_M_isShut : mtb 252 = some e_M_isShut := rfl
set_option maxRecDepth 100000 in
theorem m_M_mayGo : mtb 253 = some e_M_mayGo := rfl
set_option maxRecDepth 100000 in
theorem m_M_free : mtb 254 = some e_M_free := rfl
set_option maxRecDepth 100000 in
theorem m_M_tells : mtb 255 = some e_M_tells := rfl
set_option maxRecDepth 100000 in
theorem m_M_out : mtb 256 = some e_M_out := rfl
set_option maxRecDepth 100000 in
theorem m_M_mayBe : mtb 257 = some e_M_mayBe := rfl
set_option maxRecDepth 100000 in
theorem m_M_back : mtb 258 = some e_M_back := rfl
set_option maxRecDepth 100000 in
theorem m_M_mend : mtb 259 = some e_M_mend := rfl
set_option maxRecDepth 100000 in
theorem m_M_swamp : mtb 260 = some e_M_swamp := rfl
set_option maxRecDepth 100000 in
theorem m_M_cushions : mtb 261 = some e_M_cushions := rfl
set_option maxRecDepth 100000 in
theorem m_M_hire : mtb 262 = some e_M_hire := rfl
set_option maxRecDepth 100000 in
theorem m_M_known : mtb 263 = some e_M_known := rfl
set_option maxRecDepth 100000 in
theorem m_M_lawBy : mtb 264 = some e_M_lawBy := rfl
set_option maxRecDepth 100000 in
theorem m_M_kindBy : mtb 265 = some e_M_kindBy := rfl
set_option maxRecDepth 100000 in
theorem m_M_minutes : mtb 266 = some e_M_minutes := rfl
set_option maxRecDepth 100000 in
theorem m_M_freeOf : mtb 267 = some e_M_freeOf := rfl
set_option maxRecDepth 100000 in
theorem m_M_priceOf : mtb 268 = some e_M_priceOf := rfl
set_option maxRecDepth 100000 in
theorem m_M_lateOf : mtb 269 = some e_M_lateOf := rfl
set_option maxRecDepth 100000 in
theorem m_M_wetOf : mtb 270 = some e_M_wetOf := rfl
set_option maxRecDepth 100000 in
theorem m_M_harmOf : mtb 271 = some e_M_harmOf := rfl
set_option maxRecDepth 100000 in
theorem m_M_cushionsOf : mtb 272 = some e_M_cushionsOf := rfl
set_option maxRecDepth 100000 in
theorem m_M_owedOf : mtb 273 = some e_M_owedOf := rfl
set_option maxRecDepth 100000 in
theorem m_M_bill : mtb 274 = some e_M_bill := rfl
set_option maxRecDepth 100000 in
theorem m_M_outs : mtb 275 = some e_M_outs := rfl
set_option maxRecDepth 100000 in
theorem m_M_isOn : mtb 276 = some e_M_isOn := rfl
set_option maxRecDepth 100000 in
theorem m_M_takings : mtb 277 = some e_M_takings := rfl
set_option maxRecDepth 100000 in
theorem m_M_keeps : mtb 278 = some e_M_keeps := rfl
set_option maxRecDepth 100000 in
theorem m_M_differ : mtb 279 = some e_M_differ := rfl
set_option maxRecDepth 100000 in
theorem m_M_cost : mtb 280 = some e_M_cost := rfl
set_option maxRecDepth 100000 in
theorem m_M_worst : mtb 281 = some e_M_worst := rfl
set_option maxRecDepth 100000 in
theorem m_M_hasOut : mtb 282 = some e_M_hasOut := rfl
set_option maxRecDepth 100000 in
theorem m_M_together : mtb 283 = some e_M_together := rfl
set_option maxRecDepth 100000 in
theorem m_M_wornNow : mtb 284 = some e_M_wornNow := rfl
set_option maxRecDepth 100000 in
theorem m_M_worn : mtb 285 = some e_M_worn := rfl
set_option maxRecDepth 100000 in
theorem m_M_old : mtb 286 = some e_M_old := rfl
set_option maxRecDepth 100000 in
theorem m_M_doubt : mtb 287 = some e_M_doubt := rfl
set_option maxRecDepth 100000 in
theorem m_M_comes : mtb 288 = some e_M_comes := rfl
set_option maxRecDepth 100000 in
theorem m_M_queue : mtb 289 = some e_M_queue := rfl
set_option maxRecDepth 100000 in
theorem m_M_chance : mtb 290 = some e_M_chance := rfl
set_option maxRecDepth 100000 in
theorem m_M_areWhole : mtb 291 = some e_M_areWhole := rfl
set_option maxRecDepth 100000 in
theorem m_M_served : mtb 292 = some e_M_served := rfl
set_option maxRecDepth 100000 in
theorem m_M_wantedNow : mtb 293 = some e_M_wantedNow := rfl
set_option maxRecDepth 100000 in
theorem m_M_divisor : mtb 294 = some e_M_divisor := rfl
set_option maxRecDepth 100000 in
theorem m_M_keep : mtb 295 = some e_M_keep := rfl
set_option maxRecDepth 100000 in
theorem m_M_least : mtb 296 = some e_M_least := rfl
set_option maxRecDepth 100000 in
theorem m_M_mean : mtb 297 = some e_M_mean := rfl
set_option maxRecDepth 100000 in
theorem m_M_protect : mtb 298 = some e_M_protect := rfl
set_option maxRecDepth 100000 in
theorem m_M_roll : mtb 299 = some e_M_roll := rfl
set_option maxRecDepth 100000 in
theorem m_M_orders : mtb 300 = some e_M_orders := rfl
set_option maxRecDepth 100000 in
theorem m_M_waits : mtb 301 = some e_M_waits := rfl
set_option maxRecDepth 100000 in
theorem m_M_rolled : mtb 302 = some e_M_rolled := rfl
set_option maxRecDepth 100000 in
theorem m_M_guide : mtb 303 = some e_M_guide := rfl
set_option maxRecDepth 100000 in
theorem m_M_party : mtb 304 = some e_M_party := rfl
set_option maxRecDepth 100000 in
theorem m_M_maySing : mtb 305 = some e_M_maySing := rfl
set_option maxRecDepth 100000 in
theorem m_M_leftBy : mtb 306 = some e_M_leftBy := rfl
set_option maxRecDepth 100000 in
theorem m_M_lookLeft : mtb 307 = some e_M_lookLeft := rfl
set_option maxRecDepth 100000 in
theorem m_M_guides : mtb 308 = some e_M_guides := rfl
set_option maxRecDepth 100000 in
theorem m_M_guided : mtb 309 = some e_M_guided := rfl
set_option maxRecDepth 100000 in
theorem m_M_pay : mtb 310 = some e_M_pay := rfl
set_option maxRecDepth 100000 in
theorem m_M_earned : mtb 311 = some e_M_earned := rfl
set_option maxRecDepth 100000 in
theorem m_M_pass : mtb 312 = some e_M_pass := rfl
set_option maxRecDepth 100000 in
theorem m_M_pole : mtb 313 = some e_M_pole := rfl
set_option maxRecDepth 100000 in
theorem m_M_dries : mtb 314 = some e_M_dries := rfl
set_option maxRecDepth 100000 in
theorem m_M_paint : mtb 315 = some e_M_paint := rfl
set_option maxRecDepth 100000 in
theorem m_M_sorts : mtb 316 = some e_M_sorts := rfl
set_option maxRecDepth 100000 in
theorem m_M_lost : mtb 317 = some e_M_lost := rfl
set_option maxRecDepth 100000 in
theorem m_M_byBoats : mtb 318 = some e_M_byBoats := rfl
set_option maxRecDepth 100000 in
theorem m_M_painted : mtb 319 = some e_M_painted := rfl
set_option maxRecDepth 100000 in
theorem m_M_fail : mtb 320 = some e_M_fail := rfl
set_option maxRecDepth 100000 in
theorem m_M_renew : mtb 321 = some e_M_renew := rfl
set_option maxRecDepth 100000 in
theorem m_M_loyal : mtb 322 = some e_M_loyal := rfl
set_option maxRecDepth 100000 in
theorem m_M_stays : mtb 323 = some e_M_stays := rfl
set_option maxRecDepth 100000 in
theorem m_M_tout : mtb 324 = some e_M_tout := rfl
set_option maxRecDepth 100000 in
theorem m_M_nest : mtb 325 = some e_M_nest := rfl
set_option maxRecDepth 100000 in
theorem m_M_regatta : mtb 326 = some e_M_regatta := rfl
set_option maxRecDepth 100000 in
theorem m_M_barred : mtb 327 = some e_M_barred := rfl
set_option maxRecDepth 100000 in
theorem m_M_lays : mtb 328 = some e_M_lays := rfl
set_option maxRecDepth 100000 in
theorem m_M_fetches : mtb 329 = some e_M_fetches := rfl
set_option maxRecDepth 100000 in
theorem m_M_image : mtb 330 = some e_M_image := rfl
set_option maxRecDepth 100000 in
theorem m_M_restore : mtb 331 = some e_M_restore := rfl
set_option maxRecDepth 100000 in
theorem m_M_count : mtb 332 = some e_M_count := rfl
set_option maxRecDepth 100000 in
theorem m_Integer_compare : mtb 333 = some e_Integer_compare := rfl
set_option maxRecDepth 100000 in
theorem m_Integer_bitCount : mtb 334 = some e_Integer_bitCount := rfl
set_option maxRecDepth 100000 in
theorem m_Math_abs : mtb 335 = some e_Math_abs := rfl
set_option maxRecDepth 100000 in
theorem m_Math_max : mtb 336 = some e_Math_max := rfl
set_option maxRecDepth 100000 in
theorem m_Math_min : mtb 337 = some e_Math_min := rfl
set_option maxRecDepth 100000 in
theorem m_Arrays_fill_0 : mtb 338 = some e_Arrays_fill_0 := rfl
set_option maxRecDepth 100000 in
theorem m_Arrays_fill_1 : mtb 339 = some e_Arrays_fill_1 := rfl
def MOK (q : MT) : Prop := meOk q.1 q.2 ∧ (q.1.2.2.2.2.1 = 0 → Cond.static q.1.1 ∈ lwG) ∧ (q.1.2.2.2.2.1 = 1 → Cond.instanceMethod q.1.1 ∈ lwG ∧ Cond.selects q.1.1.cls q.1.1 q.1.1 ∈ lwG) ∧ (q.1.2.2.2.2.1 = 2 → Cond.instanceMethod q.1.1 ∈ lwG ∧ q.1.1.name = "<init>" ∧ q.1.2.2.2.1 = none)
theorem code_in {w : Cond} (k : Nat) (h : tbl k = some w) (hg : goodWord w = true) : w ∈ lwG := List.mem_filter.mpr ⟨List.mem_append_right _ (tbl_in h), hg⟩
def ckM (q : MT) : Bool := (decide (q.1.1.cls = "java/lang/Math") || plainName q.1.1.cls) && ((match q.1.2.2.2.2.2.1 with
  | b :: _ => Nat.beq b.1 0
  | [] => false) && q.1.2.2.2.2.2.1.all fun b => ckS q.1.1.cls (Nat.beq q.1.2.2.2.2.1 2) false q.1.2.2.1 q.1.2.1 mtb q.1.2.2.2.2.2.1 q.1.2.2.2.1 b.2.1 b.1 b.2.2)
set_option maxRecDepth 100000 in
theorem mTL_split : mTL = [e_Bill_init, e_Bill_drawPrice, e_Bill_draw, e_Bill_begun, e_Bill_raised, e_Bill_wetCoin, e_Bill_addRain, e_Bill_owed, e_Bill_look, e_Book_init, e_Book_take, e_Book_addBoat, e_Book_hasRoom, e_Book_addHire, e_Book_tell, e_Book_look, e_Book_dayOf, e_Book_kindOfHire, e_Book_nextOut, e_Book_reachesOfPole, e_Demand_init, e_Demand_take, e_Demand_isWhole, e_Demand_wanted, e_Demand_served, e_Demand_serveHour, e_Demand_commonDivisor, e_Demand_meanCoin, e_Demand_addLoyal, e_Demand_staying, e_Demand_bestPrice, e_Dock_init, e_Dock_take, e_Dock_setPaint, e_Dock_listDry, e_Dock_orderDry, e_Dock_isSooner, e_Dock_solvePaint, e_Dock_coinLost, e_Dock_solveRenewal] ++ ([e_Dock_saving, e_Dock_bestSet, e_Guides_init, e_Guides_take, e_Guides_addGuide, e_Guides_addParty, e_Guides_canGuide, e_Guides_solve, e_Guides_worth, e_Guides_choose, e_Guides_payOut, e_Guides_spread, e_Law_init, e_Law_clear, e_Law_addRule, e_Law_emit, e_Law_testOf, e_Law_look, e_Law_busyParts, e_Law_harmPart, e_Law_isShut, e_Law_holds, e_Law_passes, e_Reader_init, e_Reader_hasRoom, e_Reader_append, e_Reader_read, e_Reader_scan, e_Reader_isBlank, e_Reader_isLetter, e_Reader_isDigit, e_Reader_isComparison, e_Reader_tokenEnd, e_Reader_tokenOf, e_Reader_slotOf, e_Reader_isInSlot, e_Reader_numberOf, e_Reader_take, e_Reader_takeNumber, e_Reader_readRule] ++ ([e_Reader_readPrice, e_Reader_readBusy, e_Reader_readDeposit, e_Reader_readLate, e_Reader_readRight, e_Reader_readHarm, e_Reader_readShut, e_Reader_readAny, e_Reader_readAll, e_Reader_readOne, e_River_init, e_River_take, e_River_addSpell, e_River_addNest, e_River_addRegatta, e_River_rains, e_River_countWet, e_River_weedOf, e_River_nestedReaches, e_River_racedReaches, e_Roller_init, e_Roller_take, e_Roller_add, e_Roller_solve, e_Roller_place, e_State_init, e_State_take, e_View_init, e_View_see, e_View_learn, e_View_isBack, e_View_minutesOf, e_View_isAway, e_View_outBits, e_View_allBackBy, e_View_knowsAlike, e_View_freeMinutes, e_View_sharesRight, e_View_isAhead, e_View_markOut] ++ ([e_View_minutesOfBoat, e_View_hiresOfBoat, e_View_waitFor, e_P_init, e_P_feed, e_P_law, e_P_fault, e_P_rule, e_P_water, e_P_rain, e_P_boat, e_P_free, e_P_out, e_P_back, e_P_mend, e_P_swamp, e_P_cushions, e_P_weed, e_P_cut, e_P_hire, e_P_known, e_P_bill, e_P_outs, e_P_takings, e_P_differ, e_P_cost, e_P_worst, e_P_together, e_P_worn, e_P_old, e_P_doubt, e_P_queue, e_P_chance, e_P_keep, e_P_least, e_P_protect, e_P_roll, e_P_rolled, e_P_guide, e_P_party] ++ ([e_P_guided, e_P_pay, e_P_earned, e_P_pass, e_P_pole, e_P_paint, e_P_painted, e_P_fail, e_P_renew, e_P_loyal, e_P_tout, e_P_nest, e_P_regatta, e_P_barred, e_P_image, e_P_restore, e_P_count, e_P_within, e_P_isSpan, e_P_isDay, e_P_isMoment, e_P_isKind, e_P_isWho, e_P_isCoin, e_P_isBoat, e_P_isHire, e_P_isTelling, e_P_lawNumber, e_P_lawOf, e_P_canGo, e_P_canEnd, e_P_ask, e_P_seesHire, e_P_isBackOn, e_P_drawBill, e_P_boatsAheadOf, e_P_insertWait, e_M_init, e_M_isIn, e_M_one] ++ ([e_M_has, e_M_bits, e_M_isDay, e_M_isMoment, e_M_isKind, e_M_begun, e_M_feed, e_M_four, e_M_blanks, e_M_word, e_M_takes, e_M_takesSign, e_M_takesNumber, e_M_askedBy, e_M_puts, e_M_opens, e_M_any, e_M_all, e_M_single, e_M_says, e_M_eachTold, e_M_priceTold, e_M_depositTold, e_M_lateTold, e_M_rightTold, e_M_oneTold, e_M_clauseTold, e_M_rule_0, e_M_bare, e_M_reads, e_M_law, e_M_fault, e_M_lawOf, e_M_said, e_M_rule_1, e_M_water, e_M_rain, e_M_rains, e_M_weed, e_M_cut] ++ ([e_M_weedOn, e_M_boat, e_M_isBoat, e_M_isHire, e_M_isTelling, e_M_knows, e_M_isKnown, e_M_isBack, e_M_isOut, e_M_outSet, e_M_asks, e_M_isTrue, e_M_isShut, e_M_mayGo, e_M_free, e_M_tells, e_M_out, e_M_mayBe, e_M_back, e_M_mend, e_M_swamp, e_M_cushions, e_M_hire, e_M_known, e_M_lawBy, e_M_kindBy, e_M_minutes, e_M_freeOf, e_M_priceOf, e_M_lateOf, e_M_wetOf, e_M_harmOf, e_M_cushionsOf, e_M_owedOf, e_M_bill, e_M_outs, e_M_isOn, e_M_takings, e_M_keeps, e_M_differ] ++ ([e_M_cost, e_M_worst, e_M_hasOut, e_M_together, e_M_wornNow, e_M_worn, e_M_old, e_M_doubt, e_M_comes, e_M_queue, e_M_chance, e_M_areWhole, e_M_served, e_M_wantedNow, e_M_divisor, e_M_keep, e_M_least, e_M_mean, e_M_protect, e_M_roll, e_M_orders, e_M_waits, e_M_rolled, e_M_guide, e_M_party, e_M_maySing, e_M_leftBy, e_M_lookLeft, e_M_guides, e_M_guided, e_M_pay, e_M_earned, e_M_pass, e_M_pole, e_M_dries, e_M_paint, e_M_sorts, e_M_lost, e_M_byBoats, e_M_painted] ++ ([e_M_fail, e_M_renew, e_M_loyal, e_M_stays, e_M_tout, e_M_nest, e_M_regatta, e_M_barred, e_M_lays, e_M_fetches, e_M_image, e_M_restore, e_M_count, e_Integer_compare, e_Integer_bitCount, e_Math_abs, e_Math_max, e_Math_min, e_Arrays_fill_0, e_Arrays_fill_1])))))))) := rfl

section
-- ===== PART A: goes FIRST, ahead of the names: the tables' words, and 'selects' of the private methods out of them =====
/-- a private method of a class that the tables say can be made, by its rows of tables_1 -/
def lw_okq (q : MethodName × Nat) : Prop := (q.1.cls ≠ "java/lang/invoke/MethodHandle" ∧ q.1.cls ≠ "java/lang/invoke/VarHandle") ∧ Cond.instantiable q.1.cls q.2 ∈ tables_1 ∧ Cond.privateMethod q.1 ∈ tables_1 ∧ Cond.instanceMethod q.1 ∈ tables_1
theorem lw_p0 : lw_okq (⟨"PuntYard$Reader", "scan", "(I)V"⟩, 6) := ⟨⟨by decide +kernel, by decide +kernel⟩, List.mem_of_getElem? (i := 31) (by decide +kernel), List.mem_of_getElem? (i := 581) (by decide +kernel), List.mem_of_getElem? (i := 582) (by decide +kernel)⟩
theorem lw_p1 : lw_okq (⟨"PuntYard$Reader", "tokenEnd", "(II)I"⟩, 6) := ⟨⟨by decide +kernel, by decide +kernel⟩, List.mem_of_getElem? (i := 31) (by decide +kernel), List.mem_of_getElem? (i := 588) (by decide +kernel), List.mem_of_getElem? (i := 589) (by decide +kernel)⟩
theorem lw_p2 : lw_okq (⟨"PuntYard$Reader", "tokenOf", "(II)I"⟩, 6) := ⟨⟨by decide +kernel, by decide +kernel⟩, List.mem_of_getElem? (i := 31) (by decide +kernel), List.mem_of_getElem? (i := 598) (by decide +kernel), List.mem_of_getElem? (i := 599) (by decide +kernel)⟩
theorem lw_p3 : lw_okq (⟨"PuntYard$Reader", "numberOf", "(II)I"⟩, 6) := ⟨⟨by decide +kernel, by decide +kernel⟩, List.mem_of_getElem? (i := 31) (by decide +kernel), List.mem_of_getElem? (i := 602) (by decide +kernel), List.mem_of_getElem? (i := 603) (by decide +kernel)⟩
theorem lw_p4 : lw_okq (⟨"PuntYard$Reader", "slotOf", "(II)I"⟩, 6) := ⟨⟨by decide +kernel, by decide +kernel⟩, List.mem_of_getElem? (i := 31) (by decide +kernel), List.mem_of_getElem? (i := 606) (by decide +kernel), List.mem_of_getElem? (i := 607) (by decide +kernel)⟩
theorem lw_p5 : lw_okq (⟨"PuntYard$Reader", "isInSlot", "(III)Z"⟩, 6) := ⟨⟨by decide +kernel, by decide +kernel⟩, List.mem_of_getElem? (i := 31) (by decide +kernel), List.mem_of_getElem? (i := 610) (by decide +kernel), List.mem_of_getElem? (i := 611) (by decide +kernel)⟩
theorem lw_p6 : lw_okq (⟨"PuntYard$Reader", "readRule", "(LPuntYard$Law;)V"⟩, 6) := ⟨⟨by decide +kernel, by decide +kernel⟩, List.mem_of_getElem? (i := 31) (by decide +kernel), List.mem_of_getElem? (i := 658) (by decide +kernel), List.mem_of_getElem? (i := 659) (by decide +kernel)⟩
theorem lw_p7 : lw_okq (⟨"PuntYard$Reader", "take", "(I)V"⟩, 6) := ⟨⟨by decide +kernel, by decide +kernel⟩, List.mem_of_getElem? (i := 31) (by decide +kernel), List.mem_of_getElem? (i := 662) (by decide +kernel), List.mem_of_getElem? (i := 663) (by decide +kernel)⟩
theorem lw_p8 : lw_okq (⟨"PuntYard$Reader", "readPrice", "(LPuntYard$Law;)V"⟩, 6) := ⟨⟨by decide +kernel, by decide +kernel⟩, List.mem_of_getElem? (i := 31) (by decide +kernel), List.mem_of_getElem? (i := 666) (by decide +kernel), List.mem_of_getElem? (i := 667) (by decide +kernel)⟩
theorem lw_p9 : lw_okq (⟨"PuntYard$Reader", "takeNumber", "(II)I"⟩, 6) := ⟨⟨by decide +kernel, by decide +kernel⟩, List.mem_of_getElem? (i := 31) (by decide +kernel), List.mem_of_getElem? (i := 670) (by decide +kernel), List.mem_of_getElem? (i := 671) (by decide +kernel)⟩
theorem lw_p10 : lw_okq (⟨"PuntYard$Reader", "readBusy", "(LPuntYard$Law;)V"⟩, 6) := ⟨⟨by decide +kernel, by decide +kernel⟩, List.mem_of_getElem? (i := 31) (by decide +kernel), List.mem_of_getElem? (i := 674) (by decide +kernel), List.mem_of_getElem? (i := 675) (by decide +kernel)⟩
theorem lw_p11 : lw_okq (⟨"PuntYard$Reader", "readDeposit", "(LPuntYard$Law;)V"⟩, 6) := ⟨⟨by decide +kernel, by decide +kernel⟩, List.mem_of_getElem? (i := 31) (by decide +kernel), List.mem_of_getElem? (i := 682) (by decide +kernel), List.mem_of_getElem? (i := 683) (by decide +kernel)⟩
theorem lw_p12 : lw_okq (⟨"PuntYard$Reader", "readLate", "(LPuntYard$Law;)V"⟩, 6) := ⟨⟨by decide +kernel, by decide +kernel⟩, List.mem_of_getElem? (i := 31) (by decide +kernel), List.mem_of_getElem? (i := 686) (by decide +kernel), List.mem_of_getElem? (i := 687) (by decide +kernel)⟩
theorem lw_p13 : lw_okq (⟨"PuntYard$Reader", "readRight", "(LPuntYard$Law;)V"⟩, 6) := ⟨⟨by decide +kernel, by decide +kernel⟩, List.mem_of_getElem? (i := 31) (by decide +kernel), List.mem_of_getElem? (i := 690) (by decide +kernel), List.mem_of_getElem? (i := 691) (by decide +kernel)⟩
theorem lw_p14 : lw_okq (⟨"PuntYard$Reader", "readHarm", "(LPuntYard$Law;)V"⟩, 6) := ⟨⟨by decide +kernel, by decide +kernel⟩, List.mem_of_getElem? (i := 31) (by decide +kernel), List.mem_of_getElem? (i := 694) (by decide +kernel), List.mem_of_getElem? (i := 695) (by decide +kernel)⟩
theorem lw_p15 : lw_okq (⟨"PuntYard$Reader", "readAny", "(LPuntYard$Law;I)V"⟩, 6) := ⟨⟨by decide +kernel, by decide +kernel⟩, List.mem_of_getElem? (i := 31) (by decide +kernel), List.mem_of_getElem? (i := 698) (by decide +kernel), List.mem_of_getElem? (i := 699) (by decide +kernel)⟩
def lw_privs_1 : List (MethodName × Nat) := [(⟨"PuntYard$Reader", "scan", "(I)V"⟩, 6), (⟨"PuntYard$Reader", "tokenEnd", "(II)I"⟩, 6), (⟨"PuntYard$Reader", "tokenOf", "(II)I"⟩, 6), (⟨"PuntYard$Reader", "numberOf", "(II)I"⟩, 6), (⟨"PuntYard$Reader", "slotOf", "(II)I"⟩, 6), (⟨"PuntYard$Reader", "isInSlot", "(III)Z"⟩, 6), (⟨"PuntYard$Reader", "readRule", "(LPuntYard$Law;)V"⟩, 6), (⟨"PuntYard$Reader", "take", "(I)V"⟩, 6), (⟨"PuntYard$Reader", "readPrice", "(LPuntYard$Law;)V"⟩, 6), (⟨"PuntYard$Reader", "takeNumber", "(II)I"⟩, 6), (⟨"PuntYard$Reader", "readBusy", "(LPuntYard$Law;)V"⟩, 6), (⟨"PuntYard$Reader", "readDeposit", "(LPuntYard$Law;)V"⟩, 6), (⟨"PuntYard$Reader", "readLate", "(LPuntYard$Law;)V"⟩, 6), (⟨"PuntYard$Reader", "readRight", "(LPuntYard$Law;)V"⟩, 6), (⟨"PuntYard$Reader", "readHarm", "(LPuntYard$Law;)V"⟩, 6), (⟨"PuntYard$Reader", "readAny", "(LPuntYard$Law;I)V"⟩, 6)]
theorem lw_r1 : ∀ q ∈ lw_privs_1, lw_okq q := List.forall_mem_cons.mpr ⟨lw_p0, List.forall_mem_cons.mpr ⟨lw_p1, List.forall_mem_cons.mpr ⟨lw_p2, List.forall_mem_cons.mpr ⟨lw_p3, List.forall_mem_cons.mpr ⟨lw_p4, List.forall_mem_cons.mpr ⟨lw_p5, List.forall_mem_cons.mpr ⟨lw_p6, List.forall_mem_cons.mpr ⟨lw_p7, List.forall_mem_cons.mpr ⟨lw_p8, List.forall_mem_cons.mpr ⟨lw_p9, List.forall_mem_cons.mpr ⟨lw_p10, List.forall_mem_cons.mpr ⟨lw_p11, List.forall_mem_cons.mpr ⟨lw_p12, List.forall_mem_cons.mpr ⟨lw_p13, List.forall_mem_cons.mpr ⟨lw_p14, List.forall_mem_cons.mpr ⟨lw_p15, fun _ h => absurd h List.not_mem_nil⟩⟩⟩⟩⟩⟩⟩⟩⟩⟩⟩⟩⟩⟩⟩⟩
theorem lw_p16 : lw_okq (⟨"PuntYard$Reader", "readAll", "(LPuntYard$Law;I)V"⟩, 6) := ⟨⟨by decide +kernel, by decide +kernel⟩, List.mem_of_getElem? (i := 31) (by decide +kernel), List.mem_of_getElem? (i := 702) (by decide +kernel), List.mem_of_getElem? (i := 703) (by decide +kernel)⟩
theorem lw_p17 : lw_okq (⟨"PuntYard$Reader", "readOne", "(LPuntYard$Law;I)V"⟩, 6) := ⟨⟨by decide +kernel, by decide +kernel⟩, List.mem_of_getElem? (i := 31) (by decide +kernel), List.mem_of_getElem? (i := 706) (by decide +kernel), List.mem_of_getElem? (i := 707) (by decide +kernel)⟩
theorem lw_p18 : lw_okq (⟨"PuntYard$Reader", "readShut", "(LPuntYard$Law;)V"⟩, 6) := ⟨⟨by decide +kernel, by decide +kernel⟩, List.mem_of_getElem? (i := 31) (by decide +kernel), List.mem_of_getElem? (i := 717) (by decide +kernel), List.mem_of_getElem? (i := 718) (by decide +kernel)⟩
theorem lw_p19 : lw_okq (⟨"PuntYard", "lawNumber", "(I)I"⟩, 14) := ⟨⟨by decide +kernel, by decide +kernel⟩, List.mem_of_getElem? (i := 23) (by decide +kernel), List.mem_of_getElem? (i := 730) (by decide +kernel), List.mem_of_getElem? (i := 731) (by decide +kernel)⟩
theorem lw_p20 : lw_okq (⟨"PuntYard", "lawOf", "(I)LPuntYard$Law;"⟩, 14) := ⟨⟨by decide +kernel, by decide +kernel⟩, List.mem_of_getElem? (i := 23) (by decide +kernel), List.mem_of_getElem? (i := 734) (by decide +kernel), List.mem_of_getElem? (i := 735) (by decide +kernel)⟩
theorem lw_p21 : lw_okq (⟨"PuntYard", "isBoat", "(I)Z"⟩, 14) := ⟨⟨by decide +kernel, by decide +kernel⟩, List.mem_of_getElem? (i := 23) (by decide +kernel), List.mem_of_getElem? (i := 775) (by decide +kernel), List.mem_of_getElem? (i := 776) (by decide +kernel)⟩
theorem lw_p22 : lw_okq (⟨"PuntYard", "canGo", "(II)Z"⟩, 14) := ⟨⟨by decide +kernel, by decide +kernel⟩, List.mem_of_getElem? (i := 23) (by decide +kernel), List.mem_of_getElem? (i := 783) (by decide +kernel), List.mem_of_getElem? (i := 784) (by decide +kernel)⟩
theorem lw_p23 : lw_okq (⟨"PuntYard$View", "learn", "(III)V"⟩, 5) := ⟨⟨by decide +kernel, by decide +kernel⟩, List.mem_of_getElem? (i := 440) (by decide +kernel), List.mem_of_getElem? (i := 791) (by decide +kernel), List.mem_of_getElem? (i := 792) (by decide +kernel)⟩
theorem lw_p24 : lw_okq (⟨"PuntYard", "ask", "(II)V"⟩, 14) := ⟨⟨by decide +kernel, by decide +kernel⟩, List.mem_of_getElem? (i := 23) (by decide +kernel), List.mem_of_getElem? (i := 799) (by decide +kernel), List.mem_of_getElem? (i := 800) (by decide +kernel)⟩
theorem lw_p25 : lw_okq (⟨"PuntYard$View", "isAway", "(II)Z"⟩, 5) := ⟨⟨by decide +kernel, by decide +kernel⟩, List.mem_of_getElem? (i := 440) (by decide +kernel), List.mem_of_getElem? (i := 811) (by decide +kernel), List.mem_of_getElem? (i := 812) (by decide +kernel)⟩
theorem lw_p26 : lw_okq (⟨"PuntYard$Law", "holds", "(II[I)Z"⟩, 17) := ⟨⟨by decide +kernel, by decide +kernel⟩, List.mem_of_getElem? (i := 59) (by decide +kernel), List.mem_of_getElem? (i := 830) (by decide +kernel), List.mem_of_getElem? (i := 831) (by decide +kernel)⟩
theorem lw_p27 : lw_okq (⟨"PuntYard", "canEnd", "(II)Z"⟩, 14) := ⟨⟨by decide +kernel, by decide +kernel⟩, List.mem_of_getElem? (i := 23) (by decide +kernel), List.mem_of_getElem? (i := 862) (by decide +kernel), List.mem_of_getElem? (i := 863) (by decide +kernel)⟩
theorem lw_p28 : lw_okq (⟨"PuntYard", "isHire", "(I)Z"⟩, 14) := ⟨⟨by decide +kernel, by decide +kernel⟩, List.mem_of_getElem? (i := 23) (by decide +kernel), List.mem_of_getElem? (i := 866) (by decide +kernel), List.mem_of_getElem? (i := 867) (by decide +kernel)⟩
theorem lw_p29 : lw_okq (⟨"PuntYard", "seesHire", "(II)Z"⟩, 14) := ⟨⟨by decide +kernel, by decide +kernel⟩, List.mem_of_getElem? (i := 23) (by decide +kernel), List.mem_of_getElem? (i := 915) (by decide +kernel), List.mem_of_getElem? (i := 916) (by decide +kernel)⟩
theorem lw_p30 : lw_okq (⟨"PuntYard", "isTelling", "(I)Z"⟩, 14) := ⟨⟨by decide +kernel, by decide +kernel⟩, List.mem_of_getElem? (i := 23) (by decide +kernel), List.mem_of_getElem? (i := 919) (by decide +kernel), List.mem_of_getElem? (i := 920) (by decide +kernel)⟩
theorem lw_p31 : lw_okq (⟨"PuntYard", "drawBill", "(ILPuntYard$Law;)V"⟩, 14) := ⟨⟨by decide +kernel, by decide +kernel⟩, List.mem_of_getElem? (i := 23) (by decide +kernel), List.mem_of_getElem? (i := 932) (by decide +kernel), List.mem_of_getElem? (i := 933) (by decide +kernel)⟩
def lw_privs_2 : List (MethodName × Nat) := [(⟨"PuntYard$Reader", "readAll", "(LPuntYard$Law;I)V"⟩, 6), (⟨"PuntYard$Reader", "readOne", "(LPuntYard$Law;I)V"⟩, 6), (⟨"PuntYard$Reader", "readShut", "(LPuntYard$Law;)V"⟩, 6), (⟨"PuntYard", "lawNumber", "(I)I"⟩, 14), (⟨"PuntYard", "lawOf", "(I)LPuntYard$Law;"⟩, 14), (⟨"PuntYard", "isBoat", "(I)Z"⟩, 14), (⟨"PuntYard", "canGo", "(II)Z"⟩, 14), (⟨"PuntYard$View", "learn", "(III)V"⟩, 5), (⟨"PuntYard", "ask", "(II)V"⟩, 14), (⟨"PuntYard$View", "isAway", "(II)Z"⟩, 5), (⟨"PuntYard$Law", "holds", "(II[I)Z"⟩, 17), (⟨"PuntYard", "canEnd", "(II)Z"⟩, 14), (⟨"PuntYard", "isHire", "(I)Z"⟩, 14), (⟨"PuntYard", "seesHire", "(II)Z"⟩, 14), (⟨"PuntYard", "isTelling", "(I)Z"⟩, 14), (⟨"PuntYard", "drawBill", "(ILPuntYard$Law;)V"⟩, 14)]
theorem lw_r2 : ∀ q ∈ lw_privs_2, lw_okq q := List.forall_mem_cons.mpr ⟨lw_p16, List.forall_mem_cons.mpr ⟨lw_p17, List.forall_mem_cons.mpr ⟨lw_p18, List.forall_mem_cons.mpr ⟨lw_p19, List.forall_mem_cons.mpr ⟨lw_p20, List.forall_mem_cons.mpr ⟨lw_p21, List.forall_mem_cons.mpr ⟨lw_p22, List.forall_mem_cons.mpr ⟨lw_p23, List.forall_mem_cons.mpr ⟨lw_p24, List.forall_mem_cons.mpr ⟨lw_p25, List.forall_mem_cons.mpr ⟨lw_p26, List.forall_mem_cons.mpr ⟨lw_p27, List.forall_mem_cons.mpr ⟨lw_p28, List.forall_mem_cons.mpr ⟨lw_p29, List.forall_mem_cons.mpr ⟨lw_p30, List.forall_mem_cons.mpr ⟨lw_p31, fun _ h => absurd h List.not_mem_nil⟩⟩⟩⟩⟩⟩⟩⟩⟩⟩⟩⟩⟩⟩⟩⟩
theorem lw_p32 : lw_okq (⟨"PuntYard$View", "sharesRight", "(II)Z"⟩, 5) := ⟨⟨by decide +kernel, by decide +kernel⟩, List.mem_of_getElem? (i := 440) (by decide +kernel), List.mem_of_getElem? (i := 958) (by decide +kernel), List.mem_of_getElem? (i := 959) (by decide +kernel)⟩
theorem lw_p33 : lw_okq (⟨"PuntYard$View", "isAhead", "(II)Z"⟩, 5) := ⟨⟨by decide +kernel, by decide +kernel⟩, List.mem_of_getElem? (i := 440) (by decide +kernel), List.mem_of_getElem? (i := 963) (by decide +kernel), List.mem_of_getElem? (i := 964) (by decide +kernel)⟩
theorem lw_p34 : lw_okq (⟨"PuntYard$Bill", "wetCoin", "(II)I"⟩, 10) := ⟨⟨by decide +kernel, by decide +kernel⟩, List.mem_of_getElem? (i := 467) (by decide +kernel), List.mem_of_getElem? (i := 986) (by decide +kernel), List.mem_of_getElem? (i := 987) (by decide +kernel)⟩
theorem lw_p35 : lw_okq (⟨"PuntYard", "isBackOn", "(II)Z"⟩, 14) := ⟨⟨by decide +kernel, by decide +kernel⟩, List.mem_of_getElem? (i := 23) (by decide +kernel), List.mem_of_getElem? (i := 1013) (by decide +kernel), List.mem_of_getElem? (i := 1014) (by decide +kernel)⟩
theorem lw_p36 : lw_okq (⟨"PuntYard", "boatsAheadOf", "(I)I"⟩, 14) := ⟨⟨by decide +kernel, by decide +kernel⟩, List.mem_of_getElem? (i := 23) (by decide +kernel), List.mem_of_getElem? (i := 1065) (by decide +kernel), List.mem_of_getElem? (i := 1066) (by decide +kernel)⟩
theorem lw_p37 : lw_okq (⟨"PuntYard", "insertWait", "(II)V"⟩, 14) := ⟨⟨by decide +kernel, by decide +kernel⟩, List.mem_of_getElem? (i := 23) (by decide +kernel), List.mem_of_getElem? (i := 1081) (by decide +kernel), List.mem_of_getElem? (i := 1082) (by decide +kernel)⟩
theorem lw_p38 : lw_okq (⟨"PuntYard$Demand", "serveHour", "(IIII)I"⟩, 5) := ⟨⟨by decide +kernel, by decide +kernel⟩, List.mem_of_getElem? (i := 284) (by decide +kernel), List.mem_of_getElem? (i := 1106) (by decide +kernel), List.mem_of_getElem? (i := 1107) (by decide +kernel)⟩
theorem lw_p39 : lw_okq (⟨"PuntYard$Guides", "worth", "([III)I"⟩, 9) := ⟨⟨by decide +kernel, by decide +kernel⟩, List.mem_of_getElem? (i := 337) (by decide +kernel), List.mem_of_getElem? (i := 1188) (by decide +kernel), List.mem_of_getElem? (i := 1189) (by decide +kernel)⟩
theorem lw_p40 : lw_okq (⟨"PuntYard$Guides", "canGuide", "(III)Z"⟩, 9) := ⟨⟨by decide +kernel, by decide +kernel⟩, List.mem_of_getElem? (i := 337) (by decide +kernel), List.mem_of_getElem? (i := 1192) (by decide +kernel), List.mem_of_getElem? (i := 1193) (by decide +kernel)⟩
theorem lw_p41 : lw_okq (⟨"PuntYard$Guides", "choose", "([III)I"⟩, 9) := ⟨⟨by decide +kernel, by decide +kernel⟩, List.mem_of_getElem? (i := 337) (by decide +kernel), List.mem_of_getElem? (i := 1197) (by decide +kernel), List.mem_of_getElem? (i := 1198) (by decide +kernel)⟩
theorem lw_p42 : lw_okq (⟨"PuntYard$Dock", "listDry", "()V"⟩, 9) := ⟨⟨by decide +kernel, by decide +kernel⟩, List.mem_of_getElem? (i := 377) (by decide +kernel), List.mem_of_getElem? (i := 1239) (by decide +kernel), List.mem_of_getElem? (i := 1240) (by decide +kernel)⟩
theorem lw_p43 : lw_okq (⟨"PuntYard$Dock", "orderDry", "()V"⟩, 9) := ⟨⟨by decide +kernel, by decide +kernel⟩, List.mem_of_getElem? (i := 377) (by decide +kernel), List.mem_of_getElem? (i := 1251) (by decide +kernel), List.mem_of_getElem? (i := 1252) (by decide +kernel)⟩
theorem lw_p44 : lw_okq (⟨"PuntYard$Dock", "isSooner", "(II)Z"⟩, 9) := ⟨⟨by decide +kernel, by decide +kernel⟩, List.mem_of_getElem? (i := 377) (by decide +kernel), List.mem_of_getElem? (i := 1255) (by decide +kernel), List.mem_of_getElem? (i := 1256) (by decide +kernel)⟩
theorem lw_p45 : lw_okq (⟨"PuntYard$Dock", "coinLost", "(I)I"⟩, 9) := ⟨⟨by decide +kernel, by decide +kernel⟩, List.mem_of_getElem? (i := 377) (by decide +kernel), List.mem_of_getElem? (i := 1260) (by decide +kernel), List.mem_of_getElem? (i := 1261) (by decide +kernel)⟩
theorem lw_p46 : lw_okq (⟨"PuntYard$Dock", "saving", "(II)I"⟩, 9) := ⟨⟨by decide +kernel, by decide +kernel⟩, List.mem_of_getElem? (i := 377) (by decide +kernel), List.mem_of_getElem? (i := 1280) (by decide +kernel), List.mem_of_getElem? (i := 1281) (by decide +kernel)⟩
theorem lw_p47 : lw_okq (⟨"PuntYardModel", "four", "(I)V"⟩, 96) := ⟨⟨by decide +kernel, by decide +kernel⟩, List.mem_of_getElem? (i := 1379) (by decide +kernel), List.mem_of_getElem? (i := 1679) (by decide +kernel), List.mem_of_getElem? (i := 1680) (by decide +kernel)⟩
def lw_privs_3 : List (MethodName × Nat) := [(⟨"PuntYard$View", "sharesRight", "(II)Z"⟩, 5), (⟨"PuntYard$View", "isAhead", "(II)Z"⟩, 5), (⟨"PuntYard$Bill", "wetCoin", "(II)I"⟩, 10), (⟨"PuntYard", "isBackOn", "(II)Z"⟩, 14), (⟨"PuntYard", "boatsAheadOf", "(I)I"⟩, 14), (⟨"PuntYard", "insertWait", "(II)V"⟩, 14), (⟨"PuntYard$Demand", "serveHour", "(IIII)I"⟩, 5), (⟨"PuntYard$Guides", "worth", "([III)I"⟩, 9), (⟨"PuntYard$Guides", "canGuide", "(III)Z"⟩, 9), (⟨"PuntYard$Guides", "choose", "([III)I"⟩, 9), (⟨"PuntYard$Dock", "listDry", "()V"⟩, 9), (⟨"PuntYard$Dock", "orderDry", "()V"⟩, 9), (⟨"PuntYard$Dock", "isSooner", "(II)Z"⟩, 9), (⟨"PuntYard$Dock", "coinLost", "(I)I"⟩, 9), (⟨"PuntYard$Dock", "saving", "(II)I"⟩, 9), (⟨"PuntYardModel", "four", "(I)V"⟩, 96)]
theorem lw_r3 : ∀ q ∈ lw_privs_3, lw_okq q := List.forall_mem_cons.mpr ⟨lw_p32, List.forall_mem_cons.mpr ⟨lw_p33, List.forall_mem_cons.mpr ⟨lw_p34, List.forall_mem_cons.mpr ⟨lw_p35, List.forall_mem_cons.mpr ⟨lw_p36, List.forall_mem_cons.mpr ⟨lw_p37, List.forall_mem_cons.mpr ⟨lw_p38, List.forall_mem_cons.mpr ⟨lw_p39, List.forall_mem_cons.mpr ⟨lw_p40, List.forall_mem_cons.mpr ⟨lw_p41, List.forall_mem_cons.mpr ⟨lw_p42, List.forall_mem_cons.mpr ⟨lw_p43, List.forall_mem_cons.mpr ⟨lw_p44, List.forall_mem_cons.mpr ⟨lw_p45, List.forall_mem_cons.mpr ⟨lw_p46, List.forall_mem_cons.mpr ⟨lw_p47, fun _ h => absurd h List.not_mem_nil⟩⟩⟩⟩⟩⟩⟩⟩⟩⟩⟩⟩⟩⟩⟩⟩
theorem lw_p48 : lw_okq (⟨"PuntYardModel", "reads", "(I)Z"⟩, 96) := ⟨⟨by decide +kernel, by decide +kernel⟩, List.mem_of_getElem? (i := 1379) (by decide +kernel), List.mem_of_getElem? (i := 1693) (by decide +kernel), List.mem_of_getElem? (i := 1694) (by decide +kernel)⟩
theorem lw_p49 : lw_okq (⟨"PuntYardModel", "bare", "(I)V"⟩, 96) := ⟨⟨by decide +kernel, by decide +kernel⟩, List.mem_of_getElem? (i := 1379) (by decide +kernel), List.mem_of_getElem? (i := 1697) (by decide +kernel), List.mem_of_getElem? (i := 1698) (by decide +kernel)⟩
theorem lw_p50 : lw_okq (⟨"PuntYardModel", "blanks", "()V"⟩, 96) := ⟨⟨by decide +kernel, by decide +kernel⟩, List.mem_of_getElem? (i := 1379) (by decide +kernel), List.mem_of_getElem? (i := 1701) (by decide +kernel), List.mem_of_getElem? (i := 1702) (by decide +kernel)⟩
theorem lw_p51 : lw_okq (⟨"PuntYardModel", "rule", "()Z"⟩, 96) := ⟨⟨by decide +kernel, by decide +kernel⟩, List.mem_of_getElem? (i := 1379) (by decide +kernel), List.mem_of_getElem? (i := 1705) (by decide +kernel), List.mem_of_getElem? (i := 1706) (by decide +kernel)⟩
theorem lw_p52 : lw_okq (⟨"PuntYardModel", "takes", "(J)Z"⟩, 96) := ⟨⟨by decide +kernel, by decide +kernel⟩, List.mem_of_getElem? (i := 1379) (by decide +kernel), List.mem_of_getElem? (i := 1710) (by decide +kernel), List.mem_of_getElem? (i := 1711) (by decide +kernel)⟩
theorem lw_p53 : lw_okq (⟨"PuntYardModel", "word", "()J"⟩, 96) := ⟨⟨by decide +kernel, by decide +kernel⟩, List.mem_of_getElem? (i := 1379) (by decide +kernel), List.mem_of_getElem? (i := 1714) (by decide +kernel), List.mem_of_getElem? (i := 1715) (by decide +kernel)⟩
theorem lw_p54 : lw_okq (⟨"PuntYardModel", "priceTold", "()Z"⟩, 96) := ⟨⟨by decide +kernel, by decide +kernel⟩, List.mem_of_getElem? (i := 1379) (by decide +kernel), List.mem_of_getElem? (i := 1718) (by decide +kernel), List.mem_of_getElem? (i := 1719) (by decide +kernel)⟩
theorem lw_p55 : lw_okq (⟨"PuntYardModel", "takesNumber", "(II)Z"⟩, 96) := ⟨⟨by decide +kernel, by decide +kernel⟩, List.mem_of_getElem? (i := 1379) (by decide +kernel), List.mem_of_getElem? (i := 1722) (by decide +kernel), List.mem_of_getElem? (i := 1723) (by decide +kernel)⟩
theorem lw_p56 : lw_okq (⟨"PuntYardModel", "eachTold", "(I)Z"⟩, 96) := ⟨⟨by decide +kernel, by decide +kernel⟩, List.mem_of_getElem? (i := 1379) (by decide +kernel), List.mem_of_getElem? (i := 1726) (by decide +kernel), List.mem_of_getElem? (i := 1727) (by decide +kernel)⟩
theorem lw_p57 : lw_okq (⟨"PuntYardModel", "says", "(II)V"⟩, 96) := ⟨⟨by decide +kernel, by decide +kernel⟩, List.mem_of_getElem? (i := 1379) (by decide +kernel), List.mem_of_getElem? (i := 1731) (by decide +kernel), List.mem_of_getElem? (i := 1732) (by decide +kernel)⟩
theorem lw_p58 : lw_okq (⟨"PuntYardModel", "clauseTold", "(I)Z"⟩, 96) := ⟨⟨by decide +kernel, by decide +kernel⟩, List.mem_of_getElem? (i := 1379) (by decide +kernel), List.mem_of_getElem? (i := 1736) (by decide +kernel), List.mem_of_getElem? (i := 1737) (by decide +kernel)⟩
theorem lw_p59 : lw_okq (⟨"PuntYardModel", "any", "()Z"⟩, 96) := ⟨⟨by decide +kernel, by decide +kernel⟩, List.mem_of_getElem? (i := 1379) (by decide +kernel), List.mem_of_getElem? (i := 1742) (by decide +kernel), List.mem_of_getElem? (i := 1743) (by decide +kernel)⟩
theorem lw_p60 : lw_okq (⟨"PuntYardModel", "all", "()Z"⟩, 96) := ⟨⟨by decide +kernel, by decide +kernel⟩, List.mem_of_getElem? (i := 1379) (by decide +kernel), List.mem_of_getElem? (i := 1746) (by decide +kernel), List.mem_of_getElem? (i := 1747) (by decide +kernel)⟩
theorem lw_p61 : lw_okq (⟨"PuntYardModel", "single", "()Z"⟩, 96) := ⟨⟨by decide +kernel, by decide +kernel⟩, List.mem_of_getElem? (i := 1379) (by decide +kernel), List.mem_of_getElem? (i := 1750) (by decide +kernel), List.mem_of_getElem? (i := 1751) (by decide +kernel)⟩
theorem lw_p62 : lw_okq (⟨"PuntYardModel", "opens", "()Z"⟩, 96) := ⟨⟨by decide +kernel, by decide +kernel⟩, List.mem_of_getElem? (i := 1379) (by decide +kernel), List.mem_of_getElem? (i := 1755) (by decide +kernel), List.mem_of_getElem? (i := 1756) (by decide +kernel)⟩
theorem lw_p63 : lw_okq (⟨"PuntYardModel", "puts", "(III)V"⟩, 96) := ⟨⟨by decide +kernel, by decide +kernel⟩, List.mem_of_getElem? (i := 1379) (by decide +kernel), List.mem_of_getElem? (i := 1759) (by decide +kernel), List.mem_of_getElem? (i := 1760) (by decide +kernel)⟩
def lw_privs_4 : List (MethodName × Nat) := [(⟨"PuntYardModel", "reads", "(I)Z"⟩, 96), (⟨"PuntYardModel", "bare", "(I)V"⟩, 96), (⟨"PuntYardModel", "blanks", "()V"⟩, 96), (⟨"PuntYardModel", "rule", "()Z"⟩, 96), (⟨"PuntYardModel", "takes", "(J)Z"⟩, 96), (⟨"PuntYardModel", "word", "()J"⟩, 96), (⟨"PuntYardModel", "priceTold", "()Z"⟩, 96), (⟨"PuntYardModel", "takesNumber", "(II)Z"⟩, 96), (⟨"PuntYardModel", "eachTold", "(I)Z"⟩, 96), (⟨"PuntYardModel", "says", "(II)V"⟩, 96), (⟨"PuntYardModel", "clauseTold", "(I)Z"⟩, 96), (⟨"PuntYardModel", "any", "()Z"⟩, 96), (⟨"PuntYardModel", "all", "()Z"⟩, 96), (⟨"PuntYardModel", "single", "()Z"⟩, 96), (⟨"PuntYardModel", "opens", "()Z"⟩, 96), (⟨"PuntYardModel", "puts", "(III)V"⟩, 96)]
theorem lw_r4 : ∀ q ∈ lw_privs_4, lw_okq q := List.forall_mem_cons.mpr ⟨lw_p48, List.forall_mem_cons.mpr ⟨lw_p49, List.forall_mem_cons.mpr ⟨lw_p50, List.forall_mem_cons.mpr ⟨lw_p51, List.forall_mem_cons.mpr ⟨lw_p52, List.forall_mem_cons.mpr ⟨lw_p53, List.forall_mem_cons.mpr ⟨lw_p54, List.forall_mem_cons.mpr ⟨lw_p55, List.forall_mem_cons.mpr ⟨lw_p56, List.forall_mem_cons.mpr ⟨lw_p57, List.forall_mem_cons.mpr ⟨lw_p58, List.forall_mem_cons.mpr ⟨lw_p59, List.forall_mem_cons.mpr ⟨lw_p60, List.forall_mem_cons.mpr ⟨lw_p61, List.forall_mem_cons.mpr ⟨lw_p62, List.forall_mem_cons.mpr ⟨lw_p63, fun _ h => absurd h List.not_mem_nil⟩⟩⟩⟩⟩⟩⟩⟩⟩⟩⟩⟩⟩⟩⟩⟩
theorem lw_p64 : lw_okq (⟨"PuntYardModel", "takesSign", "(I)Z"⟩, 96) := ⟨⟨by decide +kernel, by decide +kernel⟩, List.mem_of_getElem? (i := 1379) (by decide +kernel), List.mem_of_getElem? (i := 1763) (by decide +kernel), List.mem_of_getElem? (i := 1764) (by decide +kernel)⟩
theorem lw_p65 : lw_okq (⟨"PuntYardModel", "depositTold", "()Z"⟩, 96) := ⟨⟨by decide +kernel, by decide +kernel⟩, List.mem_of_getElem? (i := 1379) (by decide +kernel), List.mem_of_getElem? (i := 1781) (by decide +kernel), List.mem_of_getElem? (i := 1782) (by decide +kernel)⟩
theorem lw_p66 : lw_okq (⟨"PuntYardModel", "lateTold", "()Z"⟩, 96) := ⟨⟨by decide +kernel, by decide +kernel⟩, List.mem_of_getElem? (i := 1379) (by decide +kernel), List.mem_of_getElem? (i := 1786) (by decide +kernel), List.mem_of_getElem? (i := 1787) (by decide +kernel)⟩
theorem lw_p67 : lw_okq (⟨"PuntYardModel", "oneTold", "(II)Z"⟩, 96) := ⟨⟨by decide +kernel, by decide +kernel⟩, List.mem_of_getElem? (i := 1379) (by decide +kernel), List.mem_of_getElem? (i := 1791) (by decide +kernel), List.mem_of_getElem? (i := 1792) (by decide +kernel)⟩
theorem lw_p68 : lw_okq (⟨"PuntYardModel", "rightTold", "()Z"⟩, 96) := ⟨⟨by decide +kernel, by decide +kernel⟩, List.mem_of_getElem? (i := 1379) (by decide +kernel), List.mem_of_getElem? (i := 1796) (by decide +kernel), List.mem_of_getElem? (i := 1797) (by decide +kernel)⟩
theorem lw_p69 : lw_okq (⟨"PuntYardModel", "lawOf", "(I)I"⟩, 96) := ⟨⟨by decide +kernel, by decide +kernel⟩, List.mem_of_getElem? (i := 1379) (by decide +kernel), List.mem_of_getElem? (i := 1811) (by decide +kernel), List.mem_of_getElem? (i := 1812) (by decide +kernel)⟩
theorem lw_p70 : lw_okq (⟨"PuntYardModel", "said", "(II)I"⟩, 96) := ⟨⟨by decide +kernel, by decide +kernel⟩, List.mem_of_getElem? (i := 1379) (by decide +kernel), List.mem_of_getElem? (i := 1815) (by decide +kernel), List.mem_of_getElem? (i := 1816) (by decide +kernel)⟩
theorem lw_p71 : lw_okq (⟨"PuntYardModel", "isBoat", "(I)Z"⟩, 96) := ⟨⟨by decide +kernel, by decide +kernel⟩, List.mem_of_getElem? (i := 1379) (by decide +kernel), List.mem_of_getElem? (i := 1846) (by decide +kernel), List.mem_of_getElem? (i := 1847) (by decide +kernel)⟩
theorem lw_p72 : lw_okq (⟨"PuntYardModel", "mayGo", "(II)Z"⟩, 96) := ⟨⟨by decide +kernel, by decide +kernel⟩, List.mem_of_getElem? (i := 1379) (by decide +kernel), List.mem_of_getElem? (i := 1854) (by decide +kernel), List.mem_of_getElem? (i := 1855) (by decide +kernel)⟩
theorem lw_p73 : lw_okq (⟨"PuntYardModel", "knows", "(I)V"⟩, 96) := ⟨⟨by decide +kernel, by decide +kernel⟩, List.mem_of_getElem? (i := 1379) (by decide +kernel), List.mem_of_getElem? (i := 1858) (by decide +kernel), List.mem_of_getElem? (i := 1859) (by decide +kernel)⟩
theorem lw_p74 : lw_okq (⟨"PuntYardModel", "isShut", "(II)Z"⟩, 96) := ⟨⟨by decide +kernel, by decide +kernel⟩, List.mem_of_getElem? (i := 1379) (by decide +kernel), List.mem_of_getElem? (i := 1862) (by decide +kernel), List.mem_of_getElem? (i := 1863) (by decide +kernel)⟩
theorem lw_p75 : lw_okq (⟨"PuntYardModel", "outSet", "(I)I"⟩, 96) := ⟨⟨by decide +kernel, by decide +kernel⟩, List.mem_of_getElem? (i := 1379) (by decide +kernel), List.mem_of_getElem? (i := 1866) (by decide +kernel), List.mem_of_getElem? (i := 1867) (by decide +kernel)⟩
theorem lw_p76 : lw_okq (⟨"PuntYardModel", "isOut", "(II)Z"⟩, 96) := ⟨⟨by decide +kernel, by decide +kernel⟩, List.mem_of_getElem? (i := 1379) (by decide +kernel), List.mem_of_getElem? (i := 1870) (by decide +kernel), List.mem_of_getElem? (i := 1871) (by decide +kernel)⟩
theorem lw_p77 : lw_okq (⟨"PuntYardModel", "isKnown", "(I)Z"⟩, 96) := ⟨⟨by decide +kernel, by decide +kernel⟩, List.mem_of_getElem? (i := 1379) (by decide +kernel), List.mem_of_getElem? (i := 1874) (by decide +kernel), List.mem_of_getElem? (i := 1875) (by decide +kernel)⟩
theorem lw_p78 : lw_okq (⟨"PuntYardModel", "asks", "(III)V"⟩, 96) := ⟨⟨by decide +kernel, by decide +kernel⟩, List.mem_of_getElem? (i := 1379) (by decide +kernel), List.mem_of_getElem? (i := 1881) (by decide +kernel), List.mem_of_getElem? (i := 1882) (by decide +kernel)⟩
theorem lw_p79 : lw_okq (⟨"PuntYardModel", "rains", "(II)Z"⟩, 96) := ⟨⟨by decide +kernel, by decide +kernel⟩, List.mem_of_getElem? (i := 1379) (by decide +kernel), List.mem_of_getElem? (i := 1885) (by decide +kernel), List.mem_of_getElem? (i := 1886) (by decide +kernel)⟩
def lw_privs_5 : List (MethodName × Nat) := [(⟨"PuntYardModel", "takesSign", "(I)Z"⟩, 96), (⟨"PuntYardModel", "depositTold", "()Z"⟩, 96), (⟨"PuntYardModel", "lateTold", "()Z"⟩, 96), (⟨"PuntYardModel", "oneTold", "(II)Z"⟩, 96), (⟨"PuntYardModel", "rightTold", "()Z"⟩, 96), (⟨"PuntYardModel", "lawOf", "(I)I"⟩, 96), (⟨"PuntYardModel", "said", "(II)I"⟩, 96), (⟨"PuntYardModel", "isBoat", "(I)Z"⟩, 96), (⟨"PuntYardModel", "mayGo", "(II)Z"⟩, 96), (⟨"PuntYardModel", "knows", "(I)V"⟩, 96), (⟨"PuntYardModel", "isShut", "(II)Z"⟩, 96), (⟨"PuntYardModel", "outSet", "(I)I"⟩, 96), (⟨"PuntYardModel", "isOut", "(II)Z"⟩, 96), (⟨"PuntYardModel", "isKnown", "(I)Z"⟩, 96), (⟨"PuntYardModel", "asks", "(III)V"⟩, 96), (⟨"PuntYardModel", "rains", "(II)Z"⟩, 96)]
theorem lw_r5 : ∀ q ∈ lw_privs_5, lw_okq q := List.forall_mem_cons.mpr ⟨lw_p64, List.forall_mem_cons.mpr ⟨lw_p65, List.forall_mem_cons.mpr ⟨lw_p66, List.forall_mem_cons.mpr ⟨lw_p67, List.forall_mem_cons.mpr ⟨lw_p68, List.forall_mem_cons.mpr ⟨lw_p69, List.forall_mem_cons.mpr ⟨lw_p70, List.forall_mem_cons.mpr ⟨lw_p71, List.forall_mem_cons.mpr ⟨lw_p72, List.forall_mem_cons.mpr ⟨lw_p73, List.forall_mem_cons.mpr ⟨lw_p74, List.forall_mem_cons.mpr ⟨lw_p75, List.forall_mem_cons.mpr ⟨lw_p76, List.forall_mem_cons.mpr ⟨lw_p77, List.forall_mem_cons.mpr ⟨lw_p78, List.forall_mem_cons.mpr ⟨lw_p79, fun _ h => absurd h List.not_mem_nil⟩⟩⟩⟩⟩⟩⟩⟩⟩⟩⟩⟩⟩⟩⟩⟩
theorem lw_p80 : lw_okq (⟨"PuntYardModel", "weedOn", "(I)I"⟩, 96) := ⟨⟨by decide +kernel, by decide +kernel⟩, List.mem_of_getElem? (i := 1379) (by decide +kernel), List.mem_of_getElem? (i := 1892) (by decide +kernel), List.mem_of_getElem? (i := 1893) (by decide +kernel)⟩
theorem lw_p81 : lw_okq (⟨"PuntYardModel", "isTrue", "(I)Z"⟩, 96) := ⟨⟨by decide +kernel, by decide +kernel⟩, List.mem_of_getElem? (i := 1379) (by decide +kernel), List.mem_of_getElem? (i := 1897) (by decide +kernel), List.mem_of_getElem? (i := 1898) (by decide +kernel)⟩
theorem lw_p82 : lw_okq (⟨"PuntYardModel", "tells", "(IIII)I"⟩, 96) := ⟨⟨by decide +kernel, by decide +kernel⟩, List.mem_of_getElem? (i := 1379) (by decide +kernel), List.mem_of_getElem? (i := 1905) (by decide +kernel), List.mem_of_getElem? (i := 1906) (by decide +kernel)⟩
theorem lw_p83 : lw_okq (⟨"PuntYardModel", "mayBe", "(II)Z"⟩, 96) := ⟨⟨by decide +kernel, by decide +kernel⟩, List.mem_of_getElem? (i := 1379) (by decide +kernel), List.mem_of_getElem? (i := 1913) (by decide +kernel), List.mem_of_getElem? (i := 1914) (by decide +kernel)⟩
theorem lw_p84 : lw_okq (⟨"PuntYardModel", "isHire", "(I)Z"⟩, 96) := ⟨⟨by decide +kernel, by decide +kernel⟩, List.mem_of_getElem? (i := 1379) (by decide +kernel), List.mem_of_getElem? (i := 1917) (by decide +kernel), List.mem_of_getElem? (i := 1918) (by decide +kernel)⟩
theorem lw_p85 : lw_okq (⟨"PuntYardModel", "isTelling", "(I)Z"⟩, 96) := ⟨⟨by decide +kernel, by decide +kernel⟩, List.mem_of_getElem? (i := 1379) (by decide +kernel), List.mem_of_getElem? (i := 1941) (by decide +kernel), List.mem_of_getElem? (i := 1942) (by decide +kernel)⟩
theorem lw_p86 : lw_okq (⟨"PuntYardModel", "isBack", "(I)Z"⟩, 96) := ⟨⟨by decide +kernel, by decide +kernel⟩, List.mem_of_getElem? (i := 1379) (by decide +kernel), List.mem_of_getElem? (i := 1950) (by decide +kernel), List.mem_of_getElem? (i := 1951) (by decide +kernel)⟩
theorem lw_p87 : lw_okq (⟨"PuntYardModel", "minutes", "(I)I"⟩, 96) := ⟨⟨by decide +kernel, by decide +kernel⟩, List.mem_of_getElem? (i := 1379) (by decide +kernel), List.mem_of_getElem? (i := 1954) (by decide +kernel), List.mem_of_getElem? (i := 1955) (by decide +kernel)⟩
theorem lw_p88 : lw_okq (⟨"PuntYardModel", "freeOf", "(I)I"⟩, 96) := ⟨⟨by decide +kernel, by decide +kernel⟩, List.mem_of_getElem? (i := 1379) (by decide +kernel), List.mem_of_getElem? (i := 1958) (by decide +kernel), List.mem_of_getElem? (i := 1959) (by decide +kernel)⟩
theorem lw_p89 : lw_okq (⟨"PuntYardModel", "lawBy", "(I)I"⟩, 96) := ⟨⟨by decide +kernel, by decide +kernel⟩, List.mem_of_getElem? (i := 1379) (by decide +kernel), List.mem_of_getElem? (i := 1962) (by decide +kernel), List.mem_of_getElem? (i := 1963) (by decide +kernel)⟩
theorem lw_p90 : lw_okq (⟨"PuntYardModel", "kindBy", "(I)I"⟩, 96) := ⟨⟨by decide +kernel, by decide +kernel⟩, List.mem_of_getElem? (i := 1379) (by decide +kernel), List.mem_of_getElem? (i := 1966) (by decide +kernel), List.mem_of_getElem? (i := 1967) (by decide +kernel)⟩
theorem lw_p91 : lw_okq (⟨"PuntYardModel", "priceOf", "(II)I"⟩, 96) := ⟨⟨by decide +kernel, by decide +kernel⟩, List.mem_of_getElem? (i := 1379) (by decide +kernel), List.mem_of_getElem? (i := 1971) (by decide +kernel), List.mem_of_getElem? (i := 1972) (by decide +kernel)⟩
theorem lw_p92 : lw_okq (⟨"PuntYardModel", "lateOf", "(I)I"⟩, 96) := ⟨⟨by decide +kernel, by decide +kernel⟩, List.mem_of_getElem? (i := 1379) (by decide +kernel), List.mem_of_getElem? (i := 1978) (by decide +kernel), List.mem_of_getElem? (i := 1979) (by decide +kernel)⟩
theorem lw_p93 : lw_okq (⟨"PuntYardModel", "wetOf", "(III)I"⟩, 96) := ⟨⟨by decide +kernel, by decide +kernel⟩, List.mem_of_getElem? (i := 1379) (by decide +kernel), List.mem_of_getElem? (i := 1982) (by decide +kernel), List.mem_of_getElem? (i := 1983) (by decide +kernel)⟩
theorem lw_p94 : lw_okq (⟨"PuntYardModel", "harmOf", "(I)I"⟩, 96) := ⟨⟨by decide +kernel, by decide +kernel⟩, List.mem_of_getElem? (i := 1379) (by decide +kernel), List.mem_of_getElem? (i := 1987) (by decide +kernel), List.mem_of_getElem? (i := 1988) (by decide +kernel)⟩
theorem lw_p95 : lw_okq (⟨"PuntYardModel", "owedOf", "(I)I"⟩, 96) := ⟨⟨by decide +kernel, by decide +kernel⟩, List.mem_of_getElem? (i := 1379) (by decide +kernel), List.mem_of_getElem? (i := 1991) (by decide +kernel), List.mem_of_getElem? (i := 1992) (by decide +kernel)⟩
def lw_privs_6 : List (MethodName × Nat) := [(⟨"PuntYardModel", "weedOn", "(I)I"⟩, 96), (⟨"PuntYardModel", "isTrue", "(I)Z"⟩, 96), (⟨"PuntYardModel", "tells", "(IIII)I"⟩, 96), (⟨"PuntYardModel", "mayBe", "(II)Z"⟩, 96), (⟨"PuntYardModel", "isHire", "(I)Z"⟩, 96), (⟨"PuntYardModel", "isTelling", "(I)Z"⟩, 96), (⟨"PuntYardModel", "isBack", "(I)Z"⟩, 96), (⟨"PuntYardModel", "minutes", "(I)I"⟩, 96), (⟨"PuntYardModel", "freeOf", "(I)I"⟩, 96), (⟨"PuntYardModel", "lawBy", "(I)I"⟩, 96), (⟨"PuntYardModel", "kindBy", "(I)I"⟩, 96), (⟨"PuntYardModel", "priceOf", "(II)I"⟩, 96), (⟨"PuntYardModel", "lateOf", "(I)I"⟩, 96), (⟨"PuntYardModel", "wetOf", "(III)I"⟩, 96), (⟨"PuntYardModel", "harmOf", "(I)I"⟩, 96), (⟨"PuntYardModel", "owedOf", "(I)I"⟩, 96)]
theorem lw_r6 : ∀ q ∈ lw_privs_6, lw_okq q := List.forall_mem_cons.mpr ⟨lw_p80, List.forall_mem_cons.mpr ⟨lw_p81, List.forall_mem_cons.mpr ⟨lw_p82, List.forall_mem_cons.mpr ⟨lw_p83, List.forall_mem_cons.mpr ⟨lw_p84, List.forall_mem_cons.mpr ⟨lw_p85, List.forall_mem_cons.mpr ⟨lw_p86, List.forall_mem_cons.mpr ⟨lw_p87, List.forall_mem_cons.mpr ⟨lw_p88, List.forall_mem_cons.mpr ⟨lw_p89, List.forall_mem_cons.mpr ⟨lw_p90, List.forall_mem_cons.mpr ⟨lw_p91, List.forall_mem_cons.mpr ⟨lw_p92, List.forall_mem_cons.mpr ⟨lw_p93, List.forall_mem_cons.mpr ⟨lw_p94, List.forall_mem_cons.mpr ⟨lw_p95, fun _ h => absurd h List.not_mem_nil⟩⟩⟩⟩⟩⟩⟩⟩⟩⟩⟩⟩⟩⟩⟩⟩
theorem lw_p96 : lw_okq (⟨"PuntYardModel", "cushionsOf", "(I)I"⟩, 96) := ⟨⟨by decide +kernel, by decide +kernel⟩, List.mem_of_getElem? (i := 1379) (by decide +kernel), List.mem_of_getElem? (i := 1995) (by decide +kernel), List.mem_of_getElem? (i := 1996) (by decide +kernel)⟩
theorem lw_p97 : lw_okq (⟨"PuntYardModel", "isOn", "(II)Z"⟩, 96) := ⟨⟨by decide +kernel, by decide +kernel⟩, List.mem_of_getElem? (i := 1379) (by decide +kernel), List.mem_of_getElem? (i := 2007) (by decide +kernel), List.mem_of_getElem? (i := 2008) (by decide +kernel)⟩
theorem lw_p98 : lw_okq (⟨"PuntYardModel", "keeps", "()V"⟩, 96) := ⟨⟨by decide +kernel, by decide +kernel⟩, List.mem_of_getElem? (i := 1379) (by decide +kernel), List.mem_of_getElem? (i := 2015) (by decide +kernel), List.mem_of_getElem? (i := 2016) (by decide +kernel)⟩
theorem lw_p99 : lw_okq (⟨"PuntYardModel", "hasOut", "(II)Z"⟩, 96) := ⟨⟨by decide +kernel, by decide +kernel⟩, List.mem_of_getElem? (i := 1379) (by decide +kernel), List.mem_of_getElem? (i := 2031) (by decide +kernel), List.mem_of_getElem? (i := 2032) (by decide +kernel)⟩
theorem lw_p100 : lw_okq (⟨"PuntYardModel", "wornNow", "(I)I"⟩, 96) := ⟨⟨by decide +kernel, by decide +kernel⟩, List.mem_of_getElem? (i := 1379) (by decide +kernel), List.mem_of_getElem? (i := 2039) (by decide +kernel), List.mem_of_getElem? (i := 2040) (by decide +kernel)⟩
theorem lw_p101 : lw_okq (⟨"PuntYardModel", "comes", "(III)I"⟩, 96) := ⟨⟨by decide +kernel, by decide +kernel⟩, List.mem_of_getElem? (i := 1379) (by decide +kernel), List.mem_of_getElem? (i := 2055) (by decide +kernel), List.mem_of_getElem? (i := 2056) (by decide +kernel)⟩
theorem lw_p102 : lw_okq (⟨"PuntYardModel", "areWhole", "()Z"⟩, 96) := ⟨⟨by decide +kernel, by decide +kernel⟩, List.mem_of_getElem? (i := 1379) (by decide +kernel), List.mem_of_getElem? (i := 2067) (by decide +kernel), List.mem_of_getElem? (i := 2068) (by decide +kernel)⟩
theorem lw_p103 : lw_okq (⟨"PuntYardModel", "served", "(II)J"⟩, 96) := ⟨⟨by decide +kernel, by decide +kernel⟩, List.mem_of_getElem? (i := 1379) (by decide +kernel), List.mem_of_getElem? (i := 2072) (by decide +kernel), List.mem_of_getElem? (i := 2073) (by decide +kernel)⟩
theorem lw_p104 : lw_okq (⟨"PuntYardModel", "wantedNow", "()I"⟩, 96) := ⟨⟨by decide +kernel, by decide +kernel⟩, List.mem_of_getElem? (i := 1379) (by decide +kernel), List.mem_of_getElem? (i := 2078) (by decide +kernel), List.mem_of_getElem? (i := 2079) (by decide +kernel)⟩
theorem lw_p105 : lw_okq (⟨"PuntYardModel", "mean", "(IIII)I"⟩, 96) := ⟨⟨by decide +kernel, by decide +kernel⟩, List.mem_of_getElem? (i := 1379) (by decide +kernel), List.mem_of_getElem? (i := 2097) (by decide +kernel), List.mem_of_getElem? (i := 2098) (by decide +kernel)⟩
theorem lw_p106 : lw_okq (⟨"PuntYardModel", "orders", "(II)V"⟩, 96) := ⟨⟨by decide +kernel, by decide +kernel⟩, List.mem_of_getElem? (i := 1379) (by decide +kernel), List.mem_of_getElem? (i := 2110) (by decide +kernel), List.mem_of_getElem? (i := 2111) (by decide +kernel)⟩
theorem lw_p107 : lw_okq (⟨"PuntYardModel", "waits", "()I"⟩, 96) := ⟨⟨by decide +kernel, by decide +kernel⟩, List.mem_of_getElem? (i := 1379) (by decide +kernel), List.mem_of_getElem? (i := 2117) (by decide +kernel), List.mem_of_getElem? (i := 2118) (by decide +kernel)⟩
theorem lw_p108 : lw_okq (⟨"PuntYardModel", "guides", "()V"⟩, 96) := ⟨⟨by decide +kernel, by decide +kernel⟩, List.mem_of_getElem? (i := 1379) (by decide +kernel), List.mem_of_getElem? (i := 2133) (by decide +kernel), List.mem_of_getElem? (i := 2134) (by decide +kernel)⟩
theorem lw_p109 : lw_okq (⟨"PuntYardModel", "lookLeft", "()V"⟩, 96) := ⟨⟨by decide +kernel, by decide +kernel⟩, List.mem_of_getElem? (i := 1379) (by decide +kernel), List.mem_of_getElem? (i := 2137) (by decide +kernel), List.mem_of_getElem? (i := 2138) (by decide +kernel)⟩
theorem lw_p110 : lw_okq (⟨"PuntYardModel", "leftBy", "(III)I"⟩, 96) := ⟨⟨by decide +kernel, by decide +kernel⟩, List.mem_of_getElem? (i := 1379) (by decide +kernel), List.mem_of_getElem? (i := 2141) (by decide +kernel), List.mem_of_getElem? (i := 2142) (by decide +kernel)⟩
theorem lw_p111 : lw_okq (⟨"PuntYardModel", "maySing", "(II)Z"⟩, 96) := ⟨⟨by decide +kernel, by decide +kernel⟩, List.mem_of_getElem? (i := 1379) (by decide +kernel), List.mem_of_getElem? (i := 2146) (by decide +kernel), List.mem_of_getElem? (i := 2147) (by decide +kernel)⟩
def lw_privs_7 : List (MethodName × Nat) := [(⟨"PuntYardModel", "cushionsOf", "(I)I"⟩, 96), (⟨"PuntYardModel", "isOn", "(II)Z"⟩, 96), (⟨"PuntYardModel", "keeps", "()V"⟩, 96), (⟨"PuntYardModel", "hasOut", "(II)Z"⟩, 96), (⟨"PuntYardModel", "wornNow", "(I)I"⟩, 96), (⟨"PuntYardModel", "comes", "(III)I"⟩, 96), (⟨"PuntYardModel", "areWhole", "()Z"⟩, 96), (⟨"PuntYardModel", "served", "(II)J"⟩, 96), (⟨"PuntYardModel", "wantedNow", "()I"⟩, 96), (⟨"PuntYardModel", "mean", "(IIII)I"⟩, 96), (⟨"PuntYardModel", "orders", "(II)V"⟩, 96), (⟨"PuntYardModel", "waits", "()I"⟩, 96), (⟨"PuntYardModel", "guides", "()V"⟩, 96), (⟨"PuntYardModel", "lookLeft", "()V"⟩, 96), (⟨"PuntYardModel", "leftBy", "(III)I"⟩, 96), (⟨"PuntYardModel", "maySing", "(II)Z"⟩, 96)]
theorem lw_r7 : ∀ q ∈ lw_privs_7, lw_okq q := List.forall_mem_cons.mpr ⟨lw_p96, List.forall_mem_cons.mpr ⟨lw_p97, List.forall_mem_cons.mpr ⟨lw_p98, List.forall_mem_cons.mpr ⟨lw_p99, List.forall_mem_cons.mpr ⟨lw_p100, List.forall_mem_cons.mpr ⟨lw_p101, List.forall_mem_cons.mpr ⟨lw_p102, List.forall_mem_cons.mpr ⟨lw_p103, List.forall_mem_cons.mpr ⟨lw_p104, List.forall_mem_cons.mpr ⟨lw_p105, List.forall_mem_cons.mpr ⟨lw_p106, List.forall_mem_cons.mpr ⟨lw_p107, List.forall_mem_cons.mpr ⟨lw_p108, List.forall_mem_cons.mpr ⟨lw_p109, List.forall_mem_cons.mpr ⟨lw_p110, List.forall_mem_cons.mpr ⟨lw_p111, fun _ h => absurd h List.not_mem_nil⟩⟩⟩⟩⟩⟩⟩⟩⟩⟩⟩⟩⟩⟩⟩⟩
theorem lw_p112 : lw_okq (⟨"PuntYardModel", "dries", "()V"⟩, 96) := ⟨⟨by decide +kernel, by decide +kernel⟩, List.mem_of_getElem? (i := 1379) (by decide +kernel), List.mem_of_getElem? (i := 2171) (by decide +kernel), List.mem_of_getElem? (i := 2172) (by decide +kernel)⟩
theorem lw_p113 : lw_okq (⟨"PuntYardModel", "sorts", "()V"⟩, 96) := ⟨⟨by decide +kernel, by decide +kernel⟩, List.mem_of_getElem? (i := 1379) (by decide +kernel), List.mem_of_getElem? (i := 2179) (by decide +kernel), List.mem_of_getElem? (i := 2180) (by decide +kernel)⟩
theorem lw_p114 : lw_okq (⟨"PuntYardModel", "lost", "(I)I"⟩, 96) := ⟨⟨by decide +kernel, by decide +kernel⟩, List.mem_of_getElem? (i := 1379) (by decide +kernel), List.mem_of_getElem? (i := 2183) (by decide +kernel), List.mem_of_getElem? (i := 2184) (by decide +kernel)⟩
theorem lw_p115 : lw_okq (⟨"PuntYardModel", "byBoats", "(I)I"⟩, 96) := ⟨⟨by decide +kernel, by decide +kernel⟩, List.mem_of_getElem? (i := 1379) (by decide +kernel), List.mem_of_getElem? (i := 2187) (by decide +kernel), List.mem_of_getElem? (i := 2188) (by decide +kernel)⟩
theorem lw_p116 : lw_okq (⟨"PuntYardModel", "stays", "(II)I"⟩, 96) := ⟨⟨by decide +kernel, by decide +kernel⟩, List.mem_of_getElem? (i := 1379) (by decide +kernel), List.mem_of_getElem? (i := 2207) (by decide +kernel), List.mem_of_getElem? (i := 2208) (by decide +kernel)⟩
theorem lw_p117 : lw_okq (⟨"PuntYardModel", "lays", "([II)V"⟩, 96) := ⟨⟨by decide +kernel, by decide +kernel⟩, List.mem_of_getElem? (i := 1379) (by decide +kernel), List.mem_of_getElem? (i := 2227) (by decide +kernel), List.mem_of_getElem? (i := 2228) (by decide +kernel)⟩
theorem lw_p118 : lw_okq (⟨"PuntYardModel", "fetches", "([II)V"⟩, 96) := ⟨⟨by decide +kernel, by decide +kernel⟩, List.mem_of_getElem? (i := 1379) (by decide +kernel), List.mem_of_getElem? (i := 2235) (by decide +kernel), List.mem_of_getElem? (i := 2236) (by decide +kernel)⟩
def lw_privs_8 : List (MethodName × Nat) := [(⟨"PuntYardModel", "dries", "()V"⟩, 96), (⟨"PuntYardModel", "sorts", "()V"⟩, 96), (⟨"PuntYardModel", "lost", "(I)I"⟩, 96), (⟨"PuntYardModel", "byBoats", "(I)I"⟩, 96), (⟨"PuntYardModel", "stays", "(II)I"⟩, 96), (⟨"PuntYardModel", "lays", "([II)V"⟩, 96), (⟨"PuntYardModel", "fetches", "([II)V"⟩, 96)]
theorem lw_r8 : ∀ q ∈ lw_privs_8, lw_okq q := List.forall_mem_cons.mpr ⟨lw_p112, List.forall_mem_cons.mpr ⟨lw_p113, List.forall_mem_cons.mpr ⟨lw_p114, List.forall_mem_cons.mpr ⟨lw_p115, List.forall_mem_cons.mpr ⟨lw_p116, List.forall_mem_cons.mpr ⟨lw_p117, List.forall_mem_cons.mpr ⟨lw_p118, fun _ h => absurd h List.not_mem_nil⟩⟩⟩⟩⟩⟩⟩
def lw_privs : List (MethodName × Nat) := lw_privs_1 ++ (lw_privs_2 ++ (lw_privs_3 ++ (lw_privs_4 ++ (lw_privs_5 ++ (lw_privs_6 ++ (lw_privs_7 ++ (lw_privs_8)))))))
def lw_tbl : List Cond := k2_sels lw_privs ++ tables_1
theorem lw_privs_ok : ∀ q ∈ lw_privs, lw_okq q := by
  show ∀ q ∈ lw_privs_1 ++ (lw_privs_2 ++ (lw_privs_3 ++ (lw_privs_4 ++ (lw_privs_5 ++ (lw_privs_6 ++ (lw_privs_7 ++ (lw_privs_8))))))), lw_okq q
  exact List.forall_mem_append.mpr ⟨lw_r1, List.forall_mem_append.mpr ⟨lw_r2, List.forall_mem_append.mpr ⟨lw_r3, List.forall_mem_append.mpr ⟨lw_r4, List.forall_mem_append.mpr ⟨lw_r5, List.forall_mem_append.mpr ⟨lw_r6, List.forall_mem_append.mpr ⟨lw_r7, lw_r8⟩⟩⟩⟩⟩⟩⟩
-- ===== end of PART A; then your names; then what follows =====
end
section
/-! THE SMALL MACHINE: values, heap by sites, one method's blocks, runs by depth -/
abbrev MV : Type := Int32 ⊕ (Int64 ⊕ ((Nat × Nat) ⊕ ((Nat × Nat) ⊕ Unit)))
abbrev vI (x : Int32) : MV := .inl x
abbrev vL (x : Int64) : MV := .inr (.inl x)
/-- a cell that is whole: site and instance -/
abbrev vR (s n : Nat) : MV := .inr (.inr (.inl (s, n)))
/-- a cell that is being made -/
abbrev vU (s n : Nat) : MV := .inr (.inr (.inr (.inl (s, n))))
abbrev vN : MV := .inr (.inr (.inr (.inr ())))
/-- ints, longs, references, cells made, cells whole, final fields set, cells and slots made in all -/
abbrev MH : Type := (Nat → Nat → Nat → Int32) × (Nat → Nat → Nat → Int64) × (Nat → Nat → Nat → Option Nat) × (Nat → Nat) × (Nat → Nat) × (Nat → Nat → Bool) × Nat × Nat
def hI (h : MH) (s n i : Nat) : Int32 := h.1 s n i
def hJ (h : MH) (s n i : Nat) : Int64 := h.2.1 s n i
def hR (h : MH) (s n i : Nat) : Option Nat := h.2.2.1 s n i
def hC (h : MH) (s : Nat) : Nat := h.2.2.2.1 s
def hD (h : MH) (s : Nat) : Nat := h.2.2.2.2.1 s
def hZ (h : MH) (s k : Nat) : Bool := h.2.2.2.2.2.1 s k
def hc (h : MH) : Nat := h.2.2.2.2.2.2.1
def hs (h : MH) : Nat := h.2.2.2.2.2.2.2
def sI (h : MH) (s n i : Nat) (v : Int32) : MH := (fun a b c => if a = s ∧ b = n ∧ c = i then v else h.1 a b c, h.2)
def sJ (h : MH) (s n i : Nat) (v : Int64) : MH := (h.1, fun a b c => if a = s ∧ b = n ∧ c = i then v else h.2.1 a b c, h.2.2)
def sR (h : MH) (s n i : Nat) (v : Option Nat) : MH := (h.1, h.2.1, fun a b c => if a = s ∧ b = n ∧ c = i then v else h.2.2.1 a b c, h.2.2.2)
/-- copying ints between two rows -/
def cpI (h : MH) (s n p t m q len : Nat) : MH := (fun a b c => if a = t ∧ b = m ∧ q ≤ c ∧ c < q + len then h.1 s n (p + (c - q)) else h.1 a b c, h.2)
def cpJ (h : MH) (s n p t m q len : Nat) : MH := (h.1, fun a b c => if a = t ∧ b = m ∧ q ≤ c ∧ c < q + len then h.2.1 s n (p + (c - q)) else h.2.1 a b c, h.2.2)
/-- a new object of class s (its scalars have the keys w .. w + 99), N fields -/
def newO (h : MH) (s w N : Nat) : MH :=
  (fun a b c => if w ≤ a ∧ a < w + 100 ∧ b = h.2.2.2.1 s then 0 else h.1 a b c, h.2.1, h.2.2.1, fun a => if a = s then h.2.2.2.1 a + 1 else h.2.2.2.1 a, h.2.2.2.2.1, fun a k => if a = s then false else h.2.2.2.2.2.1 a k, h.2.2.2.2.2.2.1 + 1, h.2.2.2.2.2.2.2 + N)
/-- a new row at site s -/
def newA (h : MH) (s N : Nat) : MH :=
  (fun a b c => if a = s ∧ b = h.2.2.2.1 s then 0 else h.1 a b c, fun a b c => if a = s ∧ b = h.2.2.2.1 s then 0 else h.2.1 a b c, fun a b c => if a = s ∧ b = h.2.2.2.1 s then none else h.2.2.1 a b c, fun a => if a = s then h.2.2.2.1 a + 1 else h.2.2.2.1 a, h.2.2.2.2.1, h.2.2.2.2.2.1, h.2.2.2.2.2.2.1 + 1, h.2.2.2.2.2.2.2 + N)
def setZ (h : MH) (s k : Nat) : MH := (h.1, h.2.1, h.2.2.1, h.2.2.2.1, h.2.2.2.2.1, fun a b => if a = s ∧ b = k then true else h.2.2.2.2.2.1 a b, h.2.2.2.2.2.2)
def whole (h : MH) (s n : Nat) : MH := (h.1, h.2.1, h.2.2.1, h.2.2.2.1, fun a => if a = s then n + 1 else h.2.2.2.2.1 a, h.2.2.2.2.2)
abbrev Exit : Type := (Nat × List (Option MV) × List MV × MH) ⊕ (Option MV × MH)
abbrev Cal : Type := Nat → List MV → MH → Option (Option MV × MH)
/-- an instruction: as decoded; a constant; three numbers; a number for the check; the targets of a switch -/
abbrev MI : Type := Instr × MV × Nat × Nat × Nat × Nat × List (Int32 × Nat)
abbrev Blk : Type := Nat × List MI × Nat
abbrev oob (i : Int32) (n : Nat) : Prop := i < 0 ∨ n ≤ i.toNatClampNeg
abbrev ix (i : Int32) : Nat := i.toNatClampNeg
/-- of a site: is it a row of type t; its length -/
def isRow (s t : Nat) : Bool := Nat.beq (s / 100000 % 10) t && Nat.ble 1000000 s
def lenOf (s : Nat) : Nat := s % 100000
def lk : List (Option MV) → Nat → Option MV
  | [], _ => none
  | x :: _, 0 => x
  | _ :: r, i + 1 => lk r i
def isL : Option MV → Bool
  | some (.inr (.inl _)) => true
  | _ => false
/-- a local of one word -/
def st1 : List (Option MV) → Nat → MV → List (Option MV)
  | [], _, _ => []
  | _ :: r, 0, v => some v :: r
  | x :: r, i + 1, v => cond (Nat.beq i 0 && isL x) none x :: st1 r i v
/-- a local of two words -/
def st2 : List (Option MV) → Nat → MV → List (Option MV)
  | [], _, _ => []
  | _ :: _ :: r, 0, v => some v :: none :: r
  | _ :: [], 0, _ => [none]
  | x :: r, i + 1, v => cond (Nat.beq i 0 && isL x) none x :: st2 r i v
/-- words on a stack -/
def cat : List MV → Nat
  | [] => 0
  | .inr (.inl _) :: r => cat r + 2
  | _ :: r => cat r + 1
/-- the first n of a stack, turned round, and the rest -/
def spl : Nat → List MV → List MV → Option (List MV × List MV)
  | 0, acc, st => some (acc, st)
  | _ + 1, _, [] => none
  | n + 1, acc, v :: st => spl n (v :: acc) st
section Steps
variable {X : Type}
/-- the length of a row of type t -/
def aln (t s : Nat) (k : Int32 → Option X) : Option X := if isRow s t = true then k (Int32.ofNat (lenOf s)) else none
def rdI (t : Nat) (h : MH) (s n : Nat) (i : Int32) (k : Int32 → Option X) : Option X := if isRow s t = true ∧ ¬ oob i (lenOf s) then k (hI h s n (ix i)) else none
def rdJ (h : MH) (s n : Nat) (i : Int32) (k : Int64 → Option X) : Option X := if isRow s 3 = true ∧ ¬ oob i (lenOf s) then k (hJ h s n (ix i)) else none
def rdR (t : Nat) (h : MH) (s n : Nat) (i : Int32) (k : Nat → Option X) (z : Option X) : Option X := if isRow s t = true ∧ ¬ oob i (lenOf s) then (match hR h s n (ix i) with
  | some m => k m
  | none => z) else none
def rdS (L : Nat) (scr : Nat → Int32) (i : Int32) (k : Int32 → Option X) : Option X := if oob i L then none else k (scr (ix i))
def wrI (t : Nat) (h : MH) (s n : Nat) (i v : Int32) (k : MH → Option X) : Option X := if isRow s t = true ∧ ¬ oob i (lenOf s) then k (sI h s n (ix i) v) else none
def wrJ (h : MH) (s n : Nat) (i : Int32) (v : Int64) (k : MH → Option X) : Option X := if isRow s 3 = true ∧ ¬ oob i (lenOf s) then k (sJ h s n (ix i) v) else none
def wrR (t : Nat) (h : MH) (s n : Nat) (i : Int32) (v : Nat) (k : MH → Option X) : Option X := if isRow s t = true ∧ ¬ oob i (lenOf s) then k (sR h s n (ix i) (some v)) else none
def dvI (y : Int32) (k : Option X) : Option X := if y = 0 then none else k
def dvJ (y : Int64) (k : Option X) : Option X := if y = 0 then none else k
def clV (r : Option (Option MV × MH)) (k : MH → Option X) : Option X := match r with
  | some (none, h) => k h
  | _ => none
def clI (r : Option (Option MV × MH)) (k : Int32 → MH → Option X) : Option X := match r with
  | some (some (.inl x), h) => k x h
  | _ => none
def clJ (r : Option (Option MV × MH)) (k : Int64 → MH → Option X) : Option X := match r with
  | some (some (.inr (.inl x)), h) => k x h
  | _ => none
def clR (c : Nat) (r : Option (Option MV × MH)) (k : Nat → MH → Option X) : Option X := match r with
  | some (some (.inr (.inr (.inl q))), h) => if q.1 = c then k q.2 h else none
  | _ => none
/-- System.arraycopy of ints, of longs: within both rows -/
def cpyI (h : MH) (s n : Nat) (p : Int32) (t m : Nat) (q len : Int32) (k : MH → Option X) : Option X :=
  if isRow s 0 = true ∧ isRow t 0 = true ∧ ¬ (p < 0 ∨ q < 0 ∨ len < 0 ∨ lenOf s < ix p + ix len ∨ lenOf t < ix q + ix len) then k (cpI h s n (ix p) t m (ix q) (ix len)) else none
def cpyJ (h : MH) (s n : Nat) (p : Int32) (t m : Nat) (q len : Int32) (k : MH → Option X) : Option X :=
  if isRow s 3 = true ∧ isRow t 3 = true ∧ ¬ (p < 0 ∨ q < 0 ∨ len < 0 ∨ lenOf s < ix p + ix len ∨ lenOf t < ix q + ix len) then k (cpJ h s n (ix p) t m (ix q) (ix len)) else none
end Steps
def rtZ (v : Int32) (h : MH) : Option Exit := if v = 0 ∨ v = 1 then some (.inr (some (vI v), h)) else none
/-- an instruction that goes on to the next -/
def ex1 (L : Nat) (scr : Nat → Int32) (cal : Cal) (i : MI) (l : List (Option MV)) (st : List MV) (h : MH) (k : List (Option MV) → List MV → MH → Option Exit) : Option Exit :=
  match i with
  | (ins, cst, a, b, c, d, _) => match ins with
    | .iconst _ | .bipush _ | .sipush _ | .ldc _ | .ldc_w _ | .lconst _ | .ldc2_w _ | .aconst_null => k l (cst :: st) h
    | .iload _ | .iload_n _ => match lk l a with
      | some (.inl x) => k l (vI x :: st) h
      | _ => none
    | .lload _ | .lload_n _ => match lk l a with
      | some (.inr (.inl x)) => k l (vL x :: st) h
      | _ => none
    | .aload _ | .aload_n _ => match lk l a with
      | some (.inr (.inr v)) => k l (.inr (.inr v) :: st) h
      | _ => none
    | .istore _ | .istore_n _ => match st with
      | .inl x :: r => k (st1 l a (vI x)) r h
      | _ => none
    | .lstore _ | .lstore_n _ => match st with
      | .inr (.inl x) :: r => k (st2 l a (vL x)) r h
      | _ => none
    | .astore _ | .astore_n _ => match st with
      | .inr (.inr v) :: r => k (st1 l a (.inr (.inr v))) r h
      | _ => none
    | .iinc _ _ => match cst, lk l a with
      | .inl y, some (.inl x) => k (st1 l a (vI (x + y))) st h
      | _, _ => none
    | .dup => match st with
      | .inl x :: r => k l (vI x :: vI x :: r) h
      | .inr (.inr v) :: r => k l (.inr (.inr v) :: .inr (.inr v) :: r) h
      | _ => none
    | .dup2 => match st with
      | .inl x :: .inr (.inr v) :: r => k l (vI x :: .inr (.inr v) :: vI x :: .inr (.inr v) :: r) h
      | _ => none
    | .pop => match st with
      | .inl _ :: r => k l r h
      | _ => none
    | .iadd => match st with
      | .inl y :: .inl x :: r => k l (vI (x + y) :: r) h
      | _ => none
    | .isub => match st with
      | .inl y :: .inl x :: r => k l (vI (x - y) :: r) h
      | _ => none
    | .imul => match st with
      | .inl y :: .inl x :: r => k l (vI (x * y) :: r) h
      | _ => none
    | .iand => match st with
      | .inl y :: .inl x :: r => k l (vI (x &&& y) :: r) h
      | _ => none
    | .ior => match st with
      | .inl y :: .inl x :: r => k l (vI (x ||| y) :: r) h
      | _ => none
    | .ixor => match st with
      | .inl y :: .inl x :: r => k l (vI (x ^^^ y) :: r) h
      | _ => none
    | .ishl => match st with
      | .inl y :: .inl x :: r => k l (vI (x <<< (y &&& 31)) :: r) h
      | _ => none
    | .ishr => match st with
      | .inl y :: .inl x :: r => k l (vI (x >>> (y &&& 31)) :: r) h
      | _ => none
    | .iushr => match st with
      | .inl y :: .inl x :: r => k l (vI ((x.toUInt32 >>> (y.toUInt32 &&& Int32.toUInt32 31)).toInt32) :: r) h
      | _ => none
    | .ineg => match st with
      | .inl x :: r => k l (vI (-x) :: r) h
      | _ => none
    | .idiv => match st with
      | .inl y :: .inl x :: r => dvI y (k l (vI (x / y) :: r) h)
      | _ => none
    | .irem => match st with
      | .inl y :: .inl x :: r => dvI y (k l (vI (x % y) :: r) h)
      | _ => none
    | .i2l => match st with
      | .inl x :: r => k l (vL x.toInt64 :: r) h
      | _ => none
    | .i2b => match st with
      | .inl x :: r => k l (vI x.toInt8.toInt32 :: r) h
      | _ => none
    | .l2i => match st with
      | .inr (.inl x) :: r => k l (vI x.toInt32 :: r) h
      | _ => none
    | .ladd => match st with
      | .inr (.inl y) :: .inr (.inl x) :: r => k l (vL (x + y) :: r) h
      | _ => none
    | .lmul => match st with
      | .inr (.inl y) :: .inr (.inl x) :: r => k l (vL (x * y) :: r) h
      | _ => none
    | .land => match st with
      | .inr (.inl y) :: .inr (.inl x) :: r => k l (vL (x &&& y) :: r) h
      | _ => none
    | .lor => match st with
      | .inr (.inl y) :: .inr (.inl x) :: r => k l (vL (x ||| y) :: r) h
      | _ => none
    | .lxor => match st with
      | .inr (.inl y) :: .inr (.inl x) :: r => k l (vL (x ^^^ y) :: r) h
      | _ => none
    | .lneg => match st with
      | .inr (.inl x) :: r => k l (vL (-x) :: r) h
      | _ => none
    | .lshl => match st with
      | .inl y :: .inr (.inl x) :: r => k l (vL (x <<< (y.toInt64 &&& 63)) :: r) h
      | _ => none
    | .lushr => match st with
      | .inl y :: .inr (.inl x) :: r => k l (vL ((x.toUInt64 >>> (y.toInt64.toUInt64 &&& 63)).toInt64) :: r) h
      | _ => none
    | .ldiv => match st with
      | .inr (.inl y) :: .inr (.inl x) :: r => dvJ y (k l (vL (x / y) :: r) h)
      | _ => none
    | .lrem => match st with
      | .inr (.inl y) :: .inr (.inl x) :: r => dvJ y (k l (vL (x % y) :: r) h)
      | _ => none
    | .lcmp => match st with
      | .inr (.inl y) :: .inr (.inl x) :: r => k l (vI (if x < y then -1 else if y < x then 1 else 0) :: r) h
      | _ => none
    | .arraylength => match st with
      | .inr (.inr (.inl (s, _))) :: r => (match (Nat.beq a 1) with | true => ((match (Nat.beq s 99) with | true => (k l (vI (Int32.ofNat L) :: r) h) | false => none)) | false => (aln b s fun x => k l (vI x :: r) h))
      | _ => none
    | .iaload => match st with
      | .inl i :: .inr (.inr (.inl (s, n))) :: r => (match (Nat.beq a 1) with | true => ((match (Nat.beq s 99) with | true => (rdS L scr i fun x => k l (vI x :: r) h) | false => none)) | false => (rdI 0 h s n i fun x => k l (vI x :: r) h))
      | _ => none
    | .baload => match st with
      | .inl i :: .inr (.inr (.inl (s, n))) :: r => rdI b h s n i fun x => k l (vI x :: r) h
      | _ => none
    | .laload => match st with
      | .inl i :: .inr (.inr (.inl (s, n))) :: r => rdJ h s n i fun x => k l (vL x :: r) h
      | _ => none
    | .aaload => match st with
      | .inl i :: .inr (.inr (.inl (s, n))) :: r => rdR b h s n i (fun m => k l (vR c m :: r) h) (k l (vN :: r) h)
      | _ => none
    | .iastore => match st with
      | .inl x :: .inl i :: .inr (.inr (.inl (s, n))) :: r => wrI 0 h s n i x fun h => k l r h
      | _ => none
    | .bastore => match st with
      | .inl x :: .inl i :: .inr (.inr (.inl (s, n))) :: r => (match (Nat.beq b 1) with | true => (wrI 1 h s n i x.toInt8.toInt32 fun h => k l r h) | false => (wrI 2 h s n i (x &&& 1) fun h => k l r h))
      | _ => none
    | .lastore => match st with
      | .inr (.inl x) :: .inl i :: .inr (.inr (.inl (s, n))) :: r => wrJ h s n i x fun h => k l r h
      | _ => none
    | .aastore => match st with
      | .inr (.inr (.inl (t, m))) :: .inl i :: .inr (.inr (.inl (s, n))) :: r => (match (Nat.beq t c) with | true => (wrR b h s n i m fun h => k l r h) | false => none)
      | _ => none
    | .getfield _ => match st with
      | .inr (.inr (.inl (s, n))) :: r => (match (Nat.beq s d) with | true => ((match (Nat.beq a 0) with | true => (k l (vI (hI h b n 0) :: r) h) | false => ((match (Nat.beq a 1) with | true => (k l (vR b n :: r) h) | false => (k l (vR b c :: r) h))))) | false => none)
      | .inr (.inr (.inr (.inl (s, n)))) :: r => (match (Nat.beq s d && Nat.beq a 1) with | true => (if hZ h s c = true ∧ n + 1 = hC h s then k l (vR b n :: r) h else none) | false => none)
      | _ => none
    | .putfield _ => match st with
      | .inl x :: .inr (.inr (.inl (s, n))) :: r => (match (Nat.beq s d && Nat.beq a 0) with | true => (k l r (sI h b n 0 x)) | false => none)
      | .inl x :: .inr (.inr (.inr (.inl (s, n)))) :: r => (match (Nat.beq s d && Nat.beq a 0) with | true => (k l r (sI h b n 0 x)) | false => none)
      | .inr (.inr (.inl (t, m))) :: .inr (.inr (.inr (.inl (s, n)))) :: r => (match (Nat.beq s d && Nat.beq t b) with | true => (if n + 1 = hC h s then ((match (Nat.beq a 1) with | true => (if m = n then k l r (setZ h s c) else none) | false => ((match (Nat.beq a 2) with | true => (if m = c / 100 then k l r (setZ h s (c % 100)) else none) | false => none)))) else none) | false => none)
      | _ => none
    | .new _ => if hD h a = hC h a then k l (vU a (hC h a) :: st) (newO h a b c) else none
    | .newarray _ => match st with
      | .inl x :: r => if x = Int32.ofNat (lenOf a) then k l (vR a (hC h a) :: r) (newA h a (lenOf a)) else none
      | _ => none
    | .anewarray _ => match st with
      | .inl x :: r => if x = Int32.ofNat (lenOf a) then k l (vR a (hC h a) :: r) (newA h a (lenOf a)) else none
      | _ => none
    | .invokestatic _ => match Nat.beq a 900 with
      | true => match st with
        | .inl len :: .inl q :: .inr (.inr (.inl (t, m))) :: .inl p :: .inr (.inr (.inl (s, n))) :: r => match Nat.beq b 0 with
          | true => cpyI h s n p t m q len fun h => k l r h
          | false => cpyJ h s n p t m q len fun h => k l r h
        | _ => none
      | false => match spl b [] st with
        | some (as, r) => match Nat.ble (cat r) 8 with
          | true => match c with
            | 0 => clV (cal a as h) fun h => k l r h
            | 1 => clI (cal a as h) fun x h => k l (vI x :: r) h
            | 2 => clJ (cal a as h) fun x h => k l (vL x :: r) h
            | _ => none
          | false => none
        | none => none
    | .invokevirtual _ => match spl b [] st with
      | some (as, r) => match as with
        | .inr (.inr (.inl (s, n))) :: _ => match Nat.ble (cat r) 8 && Nat.beq s d with
          | true => match c with
            | 0 => clV (cal a as h) fun h => k l r h
            | 1 => clI (cal a as h) fun x h => k l (vI x :: r) h
            | 2 => clJ (cal a as h) fun x h => k l (vL x :: r) h
            | c + 3 => clR (c + 3) (cal a as h) fun m h => k l (vR (c + 3) m :: r) h
          | false => none
        | _ => none
      | none => none
    | .invokespecial _ => match Nat.beq a 901 with
      | true => match st with
        | .inr (.inr (.inr (.inl _))) :: r => k l r h
        | _ => none
      | false => match spl b [] st with
        | some (.inr (.inr (.inr (.inl (s, n)))) :: as, .inr (.inr (.inr (.inl (t, m)))) :: r) => match Nat.ble (cat r) 7 && Nat.beq s d && Nat.beq t d with
          | true => clV (cal a (vU s n :: as) h) fun h => if m = n ∧ n + 1 = hC h s ∧ n = hD h s ∧ (∀ q ∈ List.range 100, c.testBit q = true → hZ h s q = true) then k l (vR s n :: r) (whole h s n) else none
          | false => none
        | _ => none
    | _ => none
/-- no more than a word for how deep a definition stands: what uses it is unfolded ahead of rdI and its like -/
def deepW : Nat := (fun _ => 0) (fun L scr cal i l st h k => ex1 L scr cal i l st h k)
def jm (bs : List Blk) (cs : List Nat) (t : Nat) (l : List (Option MV)) (st : List MV) (h : MH) (k : List MI → Nat → Option Exit) : Option Exit :=
  (fun (_ : Nat) => match cs.any fun q => Nat.beq q t with
    | true => some (.inl (t, l, st, h))
    | false => match bs[t]? with
      | some (_, is, nb) => k is nb
      | none => none) deepW
def swt (x : Int32) (dflt : Option Exit) (f : Nat → Option Exit) : List (Int32 × Nat) → Option Exit
  | [] => dflt
  | (c, t) :: r => if x = c then f t else swt x dflt f r
/-- from an instruction on, up to a cut or a return -/
def den (L : Nat) (scr : Nat → Int32) (cal : Cal) (bs : List Blk) (cs : List Nat) : Nat → List MI → Nat → List (Option MV) → List MV → MH → Option Exit
  | 0, _, _, _, _, _ => none
  | k + 1, [], nb, l, st, h => jm bs cs nb l st h fun is nb => den L scr cal bs cs k is nb l st h
  | k + 1, i :: is, nb, l, st, h => match i with
    | (ins, _, a, b, _, _, ts) => match ins with
      | .goto _ => jm bs cs a l st h fun is nb => den L scr cal bs cs k is nb l st h
      | .if_icmp q _ => match st with
        | .inl y :: .inl x :: r => match q with
          | .eq => if x = y then jm bs cs a l r h fun is nb => den L scr cal bs cs k is nb l r h else den L scr cal bs cs k is nb l r h
          | .ne => if x = y then den L scr cal bs cs k is nb l r h else jm bs cs a l r h fun is nb => den L scr cal bs cs k is nb l r h
          | .lt => if x < y then jm bs cs a l r h fun is nb => den L scr cal bs cs k is nb l r h else den L scr cal bs cs k is nb l r h
          | .ge => if y ≤ x then jm bs cs a l r h fun is nb => den L scr cal bs cs k is nb l r h else den L scr cal bs cs k is nb l r h
          | .gt => if y < x then jm bs cs a l r h fun is nb => den L scr cal bs cs k is nb l r h else den L scr cal bs cs k is nb l r h
          | .le => if x ≤ y then jm bs cs a l r h fun is nb => den L scr cal bs cs k is nb l r h else den L scr cal bs cs k is nb l r h
        | _ => none
      | .ifCond q _ => match st with
        | .inl x :: r => match q with
          | .eq => if x = 0 then jm bs cs a l r h fun is nb => den L scr cal bs cs k is nb l r h else den L scr cal bs cs k is nb l r h
          | .ne => if x = 0 then den L scr cal bs cs k is nb l r h else jm bs cs a l r h fun is nb => den L scr cal bs cs k is nb l r h
          | .lt => if x < 0 then jm bs cs a l r h fun is nb => den L scr cal bs cs k is nb l r h else den L scr cal bs cs k is nb l r h
          | .ge => if 0 ≤ x then jm bs cs a l r h fun is nb => den L scr cal bs cs k is nb l r h else den L scr cal bs cs k is nb l r h
          | .gt => if 0 < x then jm bs cs a l r h fun is nb => den L scr cal bs cs k is nb l r h else den L scr cal bs cs k is nb l r h
          | .le => if x ≤ 0 then jm bs cs a l r h fun is nb => den L scr cal bs cs k is nb l r h else den L scr cal bs cs k is nb l r h
        | _ => none
      | .ifnull _ => match st with
        | .inr (.inr (.inr (.inr _))) :: r => jm bs cs a l r h fun is nb => den L scr cal bs cs k is nb l r h
        | .inr (.inr (.inl _)) :: r => den L scr cal bs cs k is nb l r h
        | _ => none
      | .ifnonnull _ => match st with
        | .inr (.inr (.inr (.inr _))) :: r => den L scr cal bs cs k is nb l r h
        | .inr (.inr (.inl _)) :: r => jm bs cs a l r h fun is nb => den L scr cal bs cs k is nb l r h
        | _ => none
      | .tableswitch _ _ _ _ => match st with
        | .inl x :: r => swt x (jm bs cs a l r h fun is nb => den L scr cal bs cs k is nb l r h) (fun t => jm bs cs t l r h fun is nb => den L scr cal bs cs k is nb l r h) ts
        | _ => none
      | .ireturn => match st with
        | [.inl x] => (match (Nat.beq a 1) with | true => (rtZ x h) | false => (some (.inr (some (vI x), h))))
        | _ => none
      | .lreturn => match st with
        | [.inr (.inl x)] => some (.inr (some (vL x), h))
        | _ => none
      | .areturn => match st with
        | [.inr (.inr (.inl (s, n)))] => (match (Nat.beq s b) with | true => (some (.inr (some (vR s n), h))) | false => none)
        | _ => none
      | .return_ => match st with
        | [] => some (.inr (none, h))
        | _ => none
      | _ => ex1 L scr cal i l st h fun l st h => den L scr cal bs cs k is nb l st h
def dn (L : Nat) (scr : Nat → Int32) (cal : Cal) (bs : List Blk) (cs : List Nat) (t : Nat) (l : List (Option MV)) (st : List MV) (h : MH) : Option Exit := match bs[t]? with
  | some (_, is, nb) => den L scr cal bs cs 4000 is nb l st h
  | none => none
/-- from a cut on, to the return: at most N cuts -/
def sem (L : Nat) (scr : Nat → Int32) (cal : Cal) (bs : List Blk) (cs : List Nat) : Nat → Nat → List (Option MV) → List MV → MH → Option (Option MV × MH)
  | 0, _, _, _, _ => none
  | N + 1, t, l, st, h => match dn L scr cal bs cs t l st h with
    | some (.inl (t, l, st, h)) => sem L scr cal bs cs N t l st h
    | some (.inr r) => some r
    | none => none
/-- operands, short -/
abbrev o0 : MV × Nat × Nat × Nat × Nat × List (Int32 × Nat) := (vN, 0, 0, 0, 0, [])
abbrev oA (a : Nat) : MV × Nat × Nat × Nat × Nat × List (Int32 × Nat) := (vN, a, 0, 0, 0, [])
abbrev oC (v : MV) : MV × Nat × Nat × Nat × Nat × List (Int32 × Nat) := (v, 0, 0, 0, 0, [])
end
section
/-! The program: blocks and cuts of each method (printed by wip/whole/emit.py) -/
set_option maxRecDepth 100000 in
def B_Bill_init : List Blk := [(0, [(.aload_n 0, o0), (.invokespecial 3, vN, 901, 0, 0, 0, [(0, 471)]), (.return_, o0)], 1)]
def C_Bill_init : List Nat := []
set_option maxRecDepth 100000 in
def B_Bill_drawPrice : List Blk := [(0, [(.aload_n 1, oA 1), (.getfield 9, vN, 2, 900001, 0, 900010, [(0, 446), (0, 0)]), (.iload_n 2, oA 2), (.invokevirtual 15, vN, 17, 2, 1, 900001, [(0, 943)]), (.istore 4, oA 4), (.aload_n 0, o0), (.aload_n 1, oA 1), (.getfield 9, vN, 2, 900001, 0, 900010, [(0, 446), (0, 0)]), (.getfield 21, vN, 1, 205000120, 5, 900001, [(0, 164)]), (.iload_n 2, oA 2), (.iaload, o0), (.sipush 720, oC (vI 720)), (.irem, o0), (.putfield 25, vN, 0, 109, 9, 900000, [(0, 485)]), (.aload_n 0, o0), (.aload_n 1, oA 1), (.iload_n 2, oA 2), (.invokevirtual 31, vN, 111, 2, 1, 900010, [(0, 947)]), (.putfield 34, vN, 0, 100, 0, 900000, [(0, 472)]), (.aload_n 0, o0), (.aload_n 1, oA 1), (.iload_n 2, oA 2), (.aload_n 3, oA 3), (.invokevirtual 37, vN, 116, 3, 1, 900010, [(0, 951)]), (.putfield 41, vN, 0, 101, 1, 900000, [(0, 473)]), (.aload_n 3, oA 3), (.aload_n 0, o0), (.getfield 25, vN, 0, 109, 9, 900000, [(0, 485)]), (.invokevirtual 44, vN, 58, 2, 1, 900005, [(0, 974)]), (.istore 5, oA 5), (.aload_n 0, o0), (.aload_n 3, oA 3), (.getfield 49, vN, 1, 601000004, 1, 900005, [(0, 70)]), (.iload 4, oA 4), (.iaload, o0), (.aload_n 0, o0), (.getfield 34, vN, 0, 100, 0, 900000, [(0, 472)]), (.aload_n 0, o0), (.getfield 41, vN, 0, 101, 1, 900000, [(0, 473)]), (.isub, o0), (.aload_n 3, oA 3), (.getfield 52, vN, 1, 602000004, 2, 900005, [(0, 73)]), (.iload 4, oA 4), (.iaload, o0), (.invokestatic 55, vN, 3, 2, 1, 0, [(0, 979)]), (.imul, o0), (.iload 5, oA 5), (.invokestatic 59, vN, 4, 2, 1, 0, [(0, 982)]), (.putfield 62, vN, 0, 103, 3, 900000, [(0, 476)]), (.aload_n 0, o0), (.aload_n 3, oA 3), (.getfield 49, vN, 1, 601000004, 1, 900005, [(0, 70)]), (.iload 4, oA 4), (.iaload, o0), (.aload_n 0, o0), (.getfield 34, vN, 0, 100, 0, 900000, [(0, 472)]), (.aload_n 3, oA 3), (.getfield 52, vN, 1, 602000004, 2, 900005, [(0, 73)]), (.iload 4, oA 4), (.iaload, o0), (.invokestatic 55, vN, 3, 2, 1, 0, [(0, 979)]), (.imul, o0), (.iload 5, oA 5), (.invokestatic 59, vN, 4, 2, 1, 0, [(0, 982)]), (.putfield 64, vN, 0, 102, 2, 900000, [(0, 474)]), (.return_, o0)], 1)]
def C_Bill_drawPrice : List Nat := []
set_option maxRecDepth 100000 in
def B_Bill_draw : List Blk := [(0, [(.aload_n 0, o0), (.aload_n 1, oA 1), (.iload_n 2, oA 2), (.aload_n 3, oA 3), (.invokevirtual 67, vN, 1, 4, 0, 900000, [(0, 939)]), (.aload_n 0, o0), (.getfield 34, vN, 0, 100, 0, 900000, [(0, 472)]), (.aload_n 1, oA 1), (.getfield 9, vN, 2, 900001, 0, 900010, [(0, 446), (0, 0)]), (.getfield 71, vN, 1, 206000120, 6, 900001, [(0, 168)]), (.iload_n 2, oA 2), (.iaload, o0), (.isub, o0), (.istore 5, oA 5), (.aload_n 0, o0), (.iload 5, oA 5), (.aload_n 3, oA 3), (.getfield 74, vN, 0, 607, 7, 900005, [(0, 88)]), (.if_icmp .le 20, oA 1), (.aload_n 3, oA 3), (.getfield 77, vN, 0, 605, 5, 900005, [(0, 82)]), (.iload 5, oA 5), (.aload_n 3, oA 3), (.getfield 80, vN, 0, 606, 6, 900005, [(0, 85)]), (.invokestatic 55, vN, 3, 2, 1, 0, [(0, 979)]), (.imul, o0), (.goto 4, oA 2)], 1),
  (50, [(.iconst 0, oC (vI 0))], 2),
  (51, [(.putfield 83, vN, 0, 104, 4, 900000, [(0, 478)]), (.aload_n 0, o0), (.aload_n 0, o0), (.aload_n 3, oA 3), (.getfield 86, vN, 0, 608, 8, 900005, [(0, 91)]), (.aload 4, oA 4), (.aload_n 0, o0), (.getfield 25, vN, 0, 109, 9, 900000, [(0, 485)]), (.aload_n 0, o0), (.getfield 34, vN, 0, 100, 0, 900000, [(0, 472)]), (.iadd, o0), (.iaload, o0), (.aload 4, oA 4), (.aload_n 0, o0), (.getfield 25, vN, 0, 109, 9, 900000, [(0, 485)]), (.iaload, o0), (.isub, o0), (.invokevirtual 89, vN, 5, 3, 1, 900000, [(0, 985)]), (.putfield 92, vN, 0, 105, 5, 900000, [(0, 479)]), (.aload_n 0, o0), (.iconst 0, oC (vI 0)), (.putfield 95, vN, 0, 106, 6, 900000, [(0, 481)]), (.aload_n 1, oA 1), (.getfield 98, vN, 1, 1104000120, 4, 900010, [(0, 454)]), (.iload_n 2, oA 2), (.iaload, o0), (.bipush 10, oC (vI 10)), (.idiv, o0), (.aload_n 1, oA 1), (.getfield 98, vN, 1, 1104000120, 4, 900010, [(0, 454)]), (.iload_n 2, oA 2), (.iaload, o0), (.bipush 10, oC (vI 10)), (.irem, o0), (.isub, o0), (.istore 6, oA 6), (.aload_n 0, o0), (.aload_n 3, oA 3), (.getfield 101, vN, 0, 609, 9, 900005, [(0, 94)]), (.iload 6, oA 6), (.iconst 0, oC (vI 0)), (.invokestatic 104, vN, 336, 2, 1, 0, [(0, 990)]), (.imul, o0), (.putfield 109, vN, 0, 107, 7, 900000, [(0, 483)]), (.aload_n 0, o0), (.aload_n 3, oA 3), (.getfield 112, vN, 1, 603000004, 3, 900005, [(0, 76)]), (.aload_n 1, oA 1), (.getfield 9, vN, 2, 900001, 0, 900010, [(0, 446), (0, 0)]), (.iload_n 2, oA 2), (.invokevirtual 15, vN, 17, 2, 1, 900001, [(0, 943)]), (.iaload, o0), (.putfield 115, vN, 0, 108, 8, 900000, [(0, 484)]), (.return_, o0)], 3)]
def C_Bill_draw : List Nat := [2]
set_option maxRecDepth 100000 in
def B_Bill_begun : List Blk := [(0, [(.iload_n 1, oA 1), (.ifCond .le 17, oA 1), (.iload_n 0, o0), (.ifCond .le 13, oA 1), (.iload_n 0, o0), (.iconst 1, oC (vI 1)), (.isub, o0), (.iload_n 1, oA 1), (.idiv, o0), (.iconst 1, oC (vI 1)), (.iadd, o0), (.goto 4, oA 2)], 1),
  (18, [(.iconst 0, oC (vI 0))], 2),
  (19, [(.ireturn, o0)], 3)]
def C_Bill_begun : List Nat := []
set_option maxRecDepth 100000 in
def B_Bill_raised : List Blk := [(0, [(.iload_n 0, o0), (.iload_n 0, o0), (.iload_n 1, oA 1), (.imul, o0), (.bipush 100, oC (vI 100)), (.idiv, o0), (.iadd, o0), (.ireturn, o0)], 1)]
def C_Bill_raised : List Nat := []
set_option maxRecDepth 100000 in
def B_Bill_wetCoin : List Blk := [(0, [(.aload_n 0, o0), (.getfield 34, vN, 0, 100, 0, 900000, [(0, 472)]), (.ifCond .le 28, oA 1), (.aload_n 0, o0), (.getfield 62, vN, 0, 103, 3, 900000, [(0, 476)]), (.i2l, o0), (.iload_n 1, oA 1), (.i2l, o0), (.lmul, o0), (.iload_n 2, oA 2), (.i2l, o0), (.lmul, o0), (.ldc2_w 117, vL 100, 0, 0, 0, 0, [(0, 989)]), (.aload_n 0, o0), (.getfield 34, vN, 0, 100, 0, 900000, [(0, 472)]), (.i2l, o0), (.lmul, o0), (.ldiv, o0), (.l2i, o0), (.goto 4, oA 2)], 1),
  (32, [(.iconst 0, oC (vI 0))], 2),
  (33, [(.ireturn, o0)], 3)]
def C_Bill_wetCoin : List Nat := []
set_option maxRecDepth 100000 in
def B_Bill_addRain : List Blk := [(0, [(.aload_n 0, o0), (.getfield 25, vN, 0, 109, 9, 900000, [(0, 485)]), (.aload_n 0, o0), (.getfield 34, vN, 0, 100, 0, 900000, [(0, 472)]), (.iadd, o0), (.istore 4, oA 4), (.iconst 0, oC (vI 0)), (.aload_n 0, o0), (.getfield 25, vN, 0, 109, 9, 900000, [(0, 485)]), (.bipush 60, oC (vI 60)), (.isub, o0), (.iconst 1, oC (vI 1)), (.iadd, o0), (.invokestatic 104, vN, 336, 2, 1, 0, [(0, 990)]), (.istore 5, oA 5)], 1),
  (26, [(.iload 5, oA 5), (.iload 4, oA 4), (.if_icmp .ge 91, oA 2), (.iload 5, oA 5), (.sipush 660, oC (vI 660)), (.if_icmp .gt 83, oA 2), (.iload 5, oA 5), (.aload_n 0, o0), (.getfield 25, vN, 0, 109, 9, 900000, [(0, 485)]), (.invokestatic 104, vN, 336, 2, 1, 0, [(0, 990)]), (.istore 6, oA 6), (.iload 5, oA 5), (.bipush 60, oC (vI 60)), (.iadd, o0), (.iload 4, oA 4), (.invokestatic 119, vN, 337, 2, 1, 0, [(0, 1039)]), (.istore 7, oA 7), (.iload 7, oA 7), (.iload 6, oA 6), (.isub, o0), (.aload_n 2, oA 2), (.iload 7, oA 7), (.iaload, o0), (.aload_n 2, oA 2), (.iload 6, oA 6), (.iaload, o0), (.isub, o0), (.isub, o0), (.istore 8, oA 8), (.aload_n 3, oA 3), (.iload 5, oA 5), (.dup2, o0), (.iaload, o0), (.aload_n 0, o0), (.aload_n 1, oA 1), (.getfield 86, vN, 0, 608, 8, 900005, [(0, 91)]), (.aload_n 2, oA 2), (.iload 4, oA 4), (.iaload, o0), (.aload_n 2, oA 2), (.aload_n 0, o0), (.getfield 25, vN, 0, 109, 9, 900000, [(0, 485)]), (.iaload, o0), (.isub, o0), (.iload 8, oA 8), (.iadd, o0), (.invokevirtual 89, vN, 5, 3, 1, 900000, [(0, 985)]), (.aload_n 0, o0), (.getfield 92, vN, 0, 105, 5, 900000, [(0, 479)]), (.isub, o0), (.iadd, o0), (.iastore, o0), (.iinc 5 1, vI 1, 5, 0, 0, 0, []), (.goto (-92), oA 1)], 2),
  (121, [(.return_, o0)], 3)]
def C_Bill_addRain : List Nat := [1]
set_option maxRecDepth 100000 in
def B_Bill_owed : List Blk := [(0, [(.aload_n 0, o0), (.getfield 62, vN, 0, 103, 3, 900000, [(0, 476)]), (.aload_n 0, o0), (.getfield 83, vN, 0, 104, 4, 900000, [(0, 478)]), (.iadd, o0), (.aload_n 0, o0), (.getfield 95, vN, 0, 106, 6, 900000, [(0, 481)]), (.iadd, o0), (.aload_n 0, o0), (.getfield 109, vN, 0, 107, 7, 900000, [(0, 483)]), (.iadd, o0), (.aload_n 0, o0), (.getfield 92, vN, 0, 105, 5, 900000, [(0, 479)]), (.isub, o0), (.ireturn, o0)], 1)]
def C_Bill_owed : List Nat := []
set_option maxRecDepth 100000 in
def B_Bill_look : List Blk := [(0, [(.iload_n 1, oA 1), (.tableswitch 115 0 8 #[51, 56, 61, 66, 71, 76, 81, 86, 110], vN, 10, 0, 0, 0, [(0, 1), (1, 2), (2, 3), (3, 4), (4, 5), (5, 6), (6, 7), (7, 8), (8, 9)])], 1),
  (52, [(.aload_n 0, o0), (.getfield 34, vN, 0, 100, 0, 900000, [(0, 472)]), (.ireturn, o0)], 2),
  (57, [(.aload_n 0, o0), (.getfield 41, vN, 0, 101, 1, 900000, [(0, 473)]), (.ireturn, o0)], 3),
  (62, [(.aload_n 0, o0), (.getfield 62, vN, 0, 103, 3, 900000, [(0, 476)]), (.ireturn, o0)], 4),
  (67, [(.aload_n 0, o0), (.getfield 83, vN, 0, 104, 4, 900000, [(0, 478)]), (.ireturn, o0)], 5),
  (72, [(.aload_n 0, o0), (.getfield 92, vN, 0, 105, 5, 900000, [(0, 479)]), (.ireturn, o0)], 6),
  (77, [(.aload_n 0, o0), (.getfield 95, vN, 0, 106, 6, 900000, [(0, 481)]), (.ireturn, o0)], 7),
  (82, [(.aload_n 0, o0), (.invokevirtual 122, vN, 7, 1, 1, 900000, [(0, 999)]), (.ireturn, o0)], 8),
  (87, [(.iconst 0, oC (vI 0)), (.aload_n 0, o0), (.getfield 115, vN, 0, 108, 8, 900000, [(0, 484)]), (.aload_n 0, o0), (.getfield 83, vN, 0, 104, 4, 900000, [(0, 478)]), (.isub, o0), (.aload_n 0, o0), (.getfield 95, vN, 0, 106, 6, 900000, [(0, 481)]), (.isub, o0), (.aload_n 0, o0), (.getfield 109, vN, 0, 107, 7, 900000, [(0, 483)]), (.isub, o0), (.invokestatic 104, vN, 336, 2, 1, 0, [(0, 990)]), (.ireturn, o0)], 9),
  (111, [(.aload_n 0, o0), (.getfield 109, vN, 0, 107, 7, 900000, [(0, 483)]), (.ireturn, o0)], 10),
  (116, [(.ldc 126, vI (-1000000), 0, 0, 0, 0, [(0, 1003)]), (.ireturn, o0)], 11)]
def C_Bill_look : List Nat := []
set_option maxRecDepth 100000 in
def B_Book_init : List Blk := [(0, [(.aload_n 0, o0), (.invokespecial 3, vN, 901, 0, 0, 0, [(0, 150)]), (.aload_n 0, o0), (.bipush 20, oC (vI 20)), (.newarray .int, oA 201000020), (.putfield 9, vN, 1, 201000020, 1, 900001, [(0, 153)]), (.aload_n 0, o0), (.bipush 120, oC (vI 120)), (.newarray .int, oA 203000120), (.putfield 15, vN, 1, 203000120, 3, 900001, [(0, 157)]), (.aload_n 0, o0), (.bipush 120, oC (vI 120)), (.newarray .int, oA 204000120), (.putfield 18, vN, 1, 204000120, 4, 900001, [(0, 160)]), (.aload_n 0, o0), (.bipush 120, oC (vI 120)), (.newarray .int, oA 205000120), (.putfield 21, vN, 1, 205000120, 5, 900001, [(0, 163)]), (.aload_n 0, o0), (.bipush 120, oC (vI 120)), (.newarray .int, oA 206000120), (.putfield 24, vN, 1, 206000120, 6, 900001, [(0, 167)]), (.aload_n 0, o0), (.bipush 120, oC (vI 120)), (.newarray .int, oA 207000120), (.putfield 27, vN, 1, 207000120, 7, 900001, [(0, 170)]), (.aload_n 0, o0), (.bipush 120, oC (vI 120)), (.newarray .int, oA 208000120), (.putfield 30, vN, 1, 208000120, 8, 900001, [(0, 171)]), (.aload_n 0, o0), (.bipush 120, oC (vI 120)), (.newarray .int, oA 209000120), (.putfield 33, vN, 1, 209000120, 9, 900001, [(0, 173)]), (.aload_n 0, o0), (.sipush 400, oC (vI 400)), (.newarray .int, oA 211000400), (.putfield 36, vN, 1, 211000400, 11, 900001, [(0, 178)]), (.aload_n 0, o0), (.sipush 400, oC (vI 400)), (.newarray .int, oA 212000400), (.putfield 39, vN, 1, 212000400, 12, 900001, [(0, 180)]), (.aload_n 0, o0), (.sipush 400, oC (vI 400)), (.newarray .int, oA 213000400), (.putfield 42, vN, 1, 213000400, 13, 900001, [(0, 182)]), (.return_, o0)], 1)]
def C_Book_init : List Nat := []
set_option maxRecDepth 100000 in
def B_Book_take : List Blk := [(0, [(.aload_n 0, o0), (.aload_n 1, oA 1), (.getfield 45, vN, 0, 200, 0, 900001, [(0, 151)]), (.putfield 45, vN, 0, 200, 0, 900001, [(0, 151)]), (.aload_n 0, o0), (.aload_n 1, oA 1), (.getfield 49, vN, 0, 202, 2, 900001, [(0, 155)]), (.putfield 49, vN, 0, 202, 2, 900001, [(0, 155)]), (.aload_n 0, o0), (.aload_n 1, oA 1), (.getfield 52, vN, 0, 210, 10, 900001, [(0, 176)]), (.putfield 52, vN, 0, 210, 10, 900001, [(0, 176)]), (.aload_n 0, o0), (.aload_n 1, oA 1), (.getfield 55, vN, 0, 214, 14, 900001, [(0, 184)]), (.putfield 55, vN, 0, 214, 14, 900001, [(0, 184)]), (.aload_n 0, o0), (.aload_n 1, oA 1), (.getfield 58, vN, 0, 215, 15, 900001, [(0, 186)]), (.putfield 58, vN, 0, 215, 15, 900001, [(0, 186)]), (.aload_n 1, oA 1), (.getfield 9, vN, 1, 201000020, 1, 900001, [(0, 153)]), (.iconst 0, oC (vI 0)), (.aload_n 0, o0), (.getfield 9, vN, 1, 201000020, 1, 900001, [(0, 153)]), (.iconst 0, oC (vI 0)), (.bipush 20, oC (vI 20)), (.invokestatic 61, vN, 900, 0, 0, 0, [(0, 1346)]), (.aload_n 1, oA 1), (.getfield 15, vN, 1, 203000120, 3, 900001, [(0, 157)]), (.iconst 0, oC (vI 0)), (.aload_n 0, o0), (.getfield 15, vN, 1, 203000120, 3, 900001, [(0, 157)]), (.iconst 0, oC (vI 0)), (.bipush 120, oC (vI 120)), (.invokestatic 61, vN, 900, 0, 0, 0, [(0, 1346)]), (.aload_n 1, oA 1), (.getfield 18, vN, 1, 204000120, 4, 900001, [(0, 160)]), (.iconst 0, oC (vI 0)), (.aload_n 0, o0), (.getfield 18, vN, 1, 204000120, 4, 900001, [(0, 160)]), (.iconst 0, oC (vI 0)), (.bipush 120, oC (vI 120)), (.invokestatic 61, vN, 900, 0, 0, 0, [(0, 1346)]), (.aload_n 1, oA 1), (.getfield 21, vN, 1, 205000120, 5, 900001, [(0, 163)]), (.iconst 0, oC (vI 0)), (.aload_n 0, o0), (.getfield 21, vN, 1, 205000120, 5, 900001, [(0, 163)]), (.iconst 0, oC (vI 0)), (.bipush 120, oC (vI 120)), (.invokestatic 61, vN, 900, 0, 0, 0, [(0, 1346)]), (.aload_n 1, oA 1), (.getfield 24, vN, 1, 206000120, 6, 900001, [(0, 167)]), (.iconst 0, oC (vI 0)), (.aload_n 0, o0), (.getfield 24, vN, 1, 206000120, 6, 900001, [(0, 167)]), (.iconst 0, oC (vI 0)), (.bipush 120, oC (vI 120)), (.invokestatic 61, vN, 900, 0, 0, 0, [(0, 1346)]), (.aload_n 1, oA 1), (.getfield 27, vN, 1, 207000120, 7, 900001, [(0, 170)]), (.iconst 0, oC (vI 0)), (.aload_n 0, o0), (.getfield 27, vN, 1, 207000120, 7, 900001, [(0, 170)]), (.iconst 0, oC (vI 0)), (.bipush 120, oC (vI 120)), (.invokestatic 61, vN, 900, 0, 0, 0, [(0, 1346)]), (.aload_n 1, oA 1), (.getfield 30, vN, 1, 208000120, 8, 900001, [(0, 171)]), (.iconst 0, oC (vI 0)), (.aload_n 0, o0), (.getfield 30, vN, 1, 208000120, 8, 900001, [(0, 171)]), (.iconst 0, oC (vI 0)), (.bipush 120, oC (vI 120)), (.invokestatic 61, vN, 900, 0, 0, 0, [(0, 1346)]), (.aload_n 1, oA 1), (.getfield 33, vN, 1, 209000120, 9, 900001, [(0, 173)]), (.iconst 0, oC (vI 0)), (.aload_n 0, o0), (.getfield 33, vN, 1, 209000120, 9, 900001, [(0, 173)]), (.iconst 0, oC (vI 0)), (.bipush 120, oC (vI 120)), (.invokestatic 61, vN, 900, 0, 0, 0, [(0, 1346)]), (.aload_n 1, oA 1), (.getfield 36, vN, 1, 211000400, 11, 900001, [(0, 178)]), (.iconst 0, oC (vI 0)), (.aload_n 0, o0), (.getfield 36, vN, 1, 211000400, 11, 900001, [(0, 178)]), (.iconst 0, oC (vI 0)), (.sipush 400, oC (vI 400)), (.invokestatic 61, vN, 900, 0, 0, 0, [(0, 1346)]), (.aload_n 1, oA 1), (.getfield 39, vN, 1, 212000400, 12, 900001, [(0, 180)]), (.iconst 0, oC (vI 0)), (.aload_n 0, o0), (.getfield 39, vN, 1, 212000400, 12, 900001, [(0, 180)]), (.iconst 0, oC (vI 0)), (.sipush 400, oC (vI 400)), (.invokestatic 61, vN, 900, 0, 0, 0, [(0, 1346)]), (.aload_n 1, oA 1), (.getfield 42, vN, 1, 213000400, 13, 900001, [(0, 182)]), (.iconst 0, oC (vI 0)), (.aload_n 0, o0), (.getfield 42, vN, 1, 213000400, 13, 900001, [(0, 182)]), (.iconst 0, oC (vI 0)), (.sipush 400, oC (vI 400)), (.invokestatic 61, vN, 900, 0, 0, 0, [(0, 1346)]), (.return_, o0)], 1)]
def C_Book_take : List Nat := []
set_option maxRecDepth 100000 in
def B_Book_addBoat : List Blk := [(0, [(.aload_n 0, o0), (.getfield 45, vN, 0, 200, 0, 900001, [(0, 151)]), (.bipush 20, oC (vI 20)), (.if_icmp .lt 5, oA 1), (.iconst (-1), oC (vI (-1))), (.ireturn, o0)], 1),
  (11, [(.aload_n 0, o0), (.getfield 9, vN, 1, 201000020, 1, 900001, [(0, 153)]), (.aload_n 0, o0), (.getfield 45, vN, 0, 200, 0, 900001, [(0, 151)]), (.iload_n 1, oA 1), (.iastore, o0), (.aload_n 0, o0), (.dup, o0), (.getfield 45, vN, 0, 200, 0, 900001, [(0, 151)]), (.iconst 1, oC (vI 1)), (.iadd, o0), (.putfield 45, vN, 0, 200, 0, 900001, [(0, 151)]), (.aload_n 0, o0), (.getfield 45, vN, 0, 200, 0, 900001, [(0, 151)]), (.iconst 1, oC (vI 1)), (.isub, o0), (.ireturn, o0)], 2)]
def C_Book_addBoat : List Nat := []
set_option maxRecDepth 100000 in
def B_Book_hasRoom : List Blk := [(0, [(.aload_n 0, o0), (.getfield 49, vN, 0, 202, 2, 900001, [(0, 155)]), (.bipush 120, oC (vI 120)), (.if_icmp .ge 17, oA 1), (.aload_n 0, o0), (.getfield 52, vN, 0, 210, 10, 900001, [(0, 176)]), (.sipush 400, oC (vI 400)), (.if_icmp .ge 7, oA 1), (.iconst 1, oC (vI 1)), (.goto 4, oA 2)], 1),
  (23, [(.iconst 0, oC (vI 0))], 2),
  (24, [(.ireturn, oA 1)], 3)]
def C_Book_hasRoom : List Nat := []
set_option maxRecDepth 100000 in
def B_Book_addHire : List Blk := [(0, [(.aload_n 0, o0), (.invokevirtual 67, vN, 12, 1, 1, 900001, [(0, 852)]), (.ifCond .ne 5, oA 1), (.iconst (-1), oC (vI (-1))), (.ireturn, o0)], 1),
  (9, [(.aload_n 0, o0), (.getfield 49, vN, 0, 202, 2, 900001, [(0, 155)]), (.istore 5, oA 5), (.aload_n 0, o0), (.getfield 15, vN, 1, 203000120, 3, 900001, [(0, 157)]), (.iload 5, oA 5), (.iload_n 1, oA 1), (.iastore, o0), (.aload_n 0, o0), (.getfield 18, vN, 1, 204000120, 4, 900001, [(0, 160)]), (.iload 5, oA 5), (.iload_n 2, oA 2), (.iastore, o0), (.aload_n 0, o0), (.getfield 21, vN, 1, 205000120, 5, 900001, [(0, 163)]), (.iload 5, oA 5), (.iload_n 3, oA 3), (.iastore, o0), (.aload_n 0, o0), (.getfield 24, vN, 1, 206000120, 6, 900001, [(0, 167)]), (.iload 5, oA 5), (.iload 4, oA 4), (.iastore, o0), (.aload_n 0, o0), (.getfield 30, vN, 1, 208000120, 8, 900001, [(0, 171)]), (.iload 5, oA 5), (.iconst 0, oC (vI 0)), (.iastore, o0), (.aload_n 0, o0), (.getfield 33, vN, 1, 209000120, 9, 900001, [(0, 173)]), (.iload 5, oA 5), (.iconst 0, oC (vI 0)), (.iastore, o0), (.aload_n 0, o0), (.dup, o0), (.getfield 49, vN, 0, 202, 2, 900001, [(0, 155)]), (.iconst 1, oC (vI 1)), (.iadd, o0), (.putfield 49, vN, 0, 202, 2, 900001, [(0, 155)]), (.aload_n 0, o0), (.getfield 27, vN, 1, 207000120, 7, 900001, [(0, 170)]), (.iload 5, oA 5), (.aload_n 0, o0), (.iconst 0, oC (vI 0)), (.iload 5, oA 5), (.iload_n 3, oA 3), (.invokevirtual 71, vN, 14, 4, 1, 900001, [(0, 853)]), (.iastore, o0), (.iload 5, oA 5), (.ireturn, o0)], 2)]
def C_Book_addHire : List Nat := []
set_option maxRecDepth 100000 in
def B_Book_tell : List Blk := [(0, [(.aload_n 0, o0), (.getfield 52, vN, 0, 210, 10, 900001, [(0, 176)]), (.sipush 400, oC (vI 400)), (.if_icmp .lt 5, oA 1), (.iconst (-1), oC (vI (-1))), (.ireturn, o0)], 1),
  (12, [(.aload_n 0, o0), (.getfield 36, vN, 1, 211000400, 11, 900001, [(0, 178)]), (.aload_n 0, o0), (.getfield 52, vN, 0, 210, 10, 900001, [(0, 176)]), (.iload_n 1, oA 1), (.iastore, o0), (.aload_n 0, o0), (.getfield 39, vN, 1, 212000400, 12, 900001, [(0, 180)]), (.aload_n 0, o0), (.getfield 52, vN, 0, 210, 10, 900001, [(0, 176)]), (.iload_n 2, oA 2), (.iastore, o0), (.aload_n 0, o0), (.getfield 42, vN, 1, 213000400, 13, 900001, [(0, 182)]), (.aload_n 0, o0), (.getfield 52, vN, 0, 210, 10, 900001, [(0, 176)]), (.iload_n 3, oA 3), (.iastore, o0), (.aload_n 0, o0), (.dup, o0), (.getfield 52, vN, 0, 210, 10, 900001, [(0, 176)]), (.iconst 1, oC (vI 1)), (.iadd, o0), (.putfield 52, vN, 0, 210, 10, 900001, [(0, 176)]), (.aload_n 0, o0), (.getfield 52, vN, 0, 210, 10, 900001, [(0, 176)]), (.ireturn, o0)], 2)]
def C_Book_tell : List Nat := []
set_option maxRecDepth 100000 in
def B_Book_look : List Blk := [(0, [(.iload_n 2, oA 2), (.tableswitch 92 0 6 #[43, 50, 57, 64, 71, 78, 85], vN, 8, 0, 0, 0, [(0, 1), (1, 2), (2, 3), (3, 4), (4, 5), (5, 6), (6, 7)])], 1),
  (44, [(.aload_n 0, o0), (.getfield 15, vN, 1, 203000120, 3, 900001, [(0, 157)]), (.iload_n 1, oA 1), (.iaload, o0), (.ireturn, o0)], 2),
  (51, [(.aload_n 0, o0), (.getfield 18, vN, 1, 204000120, 4, 900001, [(0, 160)]), (.iload_n 1, oA 1), (.iaload, o0), (.ireturn, o0)], 3),
  (58, [(.aload_n 0, o0), (.getfield 21, vN, 1, 205000120, 5, 900001, [(0, 163)]), (.iload_n 1, oA 1), (.iaload, o0), (.ireturn, o0)], 4),
  (65, [(.aload_n 0, o0), (.getfield 24, vN, 1, 206000120, 6, 900001, [(0, 167)]), (.iload_n 1, oA 1), (.iaload, o0), (.ireturn, o0)], 5),
  (72, [(.aload_n 0, o0), (.getfield 27, vN, 1, 207000120, 7, 900001, [(0, 170)]), (.iload_n 1, oA 1), (.iaload, o0), (.ireturn, o0)], 6),
  (79, [(.aload_n 0, o0), (.getfield 30, vN, 1, 208000120, 8, 900001, [(0, 171)]), (.iload_n 1, oA 1), (.iaload, o0), (.ireturn, o0)], 7),
  (86, [(.aload_n 0, o0), (.getfield 33, vN, 1, 209000120, 9, 900001, [(0, 173)]), (.iload_n 1, oA 1), (.iaload, o0), (.ireturn, o0)], 8),
  (93, [(.iconst (-1), oC (vI (-1))), (.ireturn, o0)], 9)]
def C_Book_look : List Nat := []
set_option maxRecDepth 100000 in
def B_Book_dayOf : List Blk := [(0, [(.aload_n 0, o0), (.getfield 21, vN, 1, 205000120, 5, 900001, [(0, 163)]), (.iload_n 1, oA 1), (.iaload, o0), (.sipush 720, oC (vI 720)), (.idiv, o0), (.ireturn, o0)], 1)]
def C_Book_dayOf : List Nat := []
set_option maxRecDepth 100000 in
def B_Book_kindOfHire : List Blk := [(0, [(.aload_n 0, o0), (.getfield 9, vN, 1, 201000020, 1, 900001, [(0, 153)]), (.aload_n 0, o0), (.getfield 15, vN, 1, 203000120, 3, 900001, [(0, 157)]), (.iload_n 1, oA 1), (.iaload, o0), (.iaload, o0), (.ireturn, o0)], 1)]
def C_Book_kindOfHire : List Nat := []
set_option maxRecDepth 100000 in
def B_Book_nextOut : List Blk := [(0, [(.iload_n 1, oA 1), (.iconst 1, oC (vI 1)), (.iadd, o0), (.istore_n 2, oA 2)], 1),
  (4, [(.iload_n 2, oA 2), (.aload_n 0, o0), (.getfield 49, vN, 0, 202, 2, 900001, [(0, 155)]), (.if_icmp .ge 31, oA 3), (.aload_n 0, o0), (.getfield 15, vN, 1, 203000120, 3, 900001, [(0, 157)]), (.iload_n 2, oA 2), (.iaload, o0), (.aload_n 0, o0), (.getfield 15, vN, 1, 203000120, 3, 900001, [(0, 157)]), (.iload_n 1, oA 1), (.iaload, o0), (.if_icmp .ne 10, oA 2), (.aload_n 0, o0), (.getfield 21, vN, 1, 205000120, 5, 900001, [(0, 163)]), (.iload_n 2, oA 2), (.iaload, o0), (.ireturn, o0)], 2),
  (34, [(.iinc 2 1, vI 1, 2, 0, 0, 0, []), (.goto (-33), oA 1)], 3),
  (40, [(.iconst (-1), oC (vI (-1))), (.ireturn, o0)], 4)]
def C_Book_nextOut : List Nat := [1]
set_option maxRecDepth 100000 in
def B_Book_reachesOfPole : List Blk := [(0, [(.aload_n 0, o0), (.getfield 30, vN, 1, 208000120, 8, 900001, [(0, 171)]), (.iload_n 1, oA 1), (.iaload, o0), (.istore_n 2, oA 2), (.iconst 0, oC (vI 0)), (.istore_n 3, oA 3)], 1),
  (9, [(.iload_n 3, oA 3), (.aload_n 0, o0), (.getfield 49, vN, 0, 202, 2, 900001, [(0, 155)]), (.if_icmp .ge 45, oA 3), (.aload_n 0, o0), (.getfield 33, vN, 1, 209000120, 9, 900001, [(0, 173)]), (.iload_n 3, oA 3), (.iaload, o0), (.iconst 1, oC (vI 1)), (.if_icmp .ne 29, oA 2), (.aload_n 0, o0), (.getfield 21, vN, 1, 205000120, 5, 900001, [(0, 163)]), (.iload_n 3, oA 3), (.iaload, o0), (.aload_n 0, o0), (.getfield 21, vN, 1, 205000120, 5, 900001, [(0, 163)]), (.iload_n 1, oA 1), (.iaload, o0), (.if_icmp .le 14, oA 2), (.iload_n 2, oA 2), (.aload_n 0, o0), (.getfield 30, vN, 1, 208000120, 8, 900001, [(0, 171)]), (.iload_n 3, oA 3), (.iaload, o0), (.iconst (-1), oC (vI (-1))), (.ixor, o0), (.iand, o0), (.istore_n 2, oA 2)], 2),
  (53, [(.iinc 3 1, vI 1, 3, 0, 0, 0, []), (.goto (-47), oA 1)], 3),
  (59, [(.iload_n 2, oA 2), (.ireturn, o0)], 4)]
def C_Book_reachesOfPole : List Nat := [1]
set_option maxRecDepth 100000 in
def B_Demand_init : List Blk := [(0, [(.aload_n 0, o0), (.invokespecial 3, vN, 901, 0, 0, 0, [(0, 288)]), (.aload_n 0, o0), (.bipush 72, oC (vI 72)), (.newarray .int, oA 300000072), (.putfield 11, vN, 1, 300000072, 0, 900002, [(0, 289)]), (.aload_n 0, o0), (.bipush 12, oC (vI 12)), (.newarray .int, oA 302000012), (.putfield 15, vN, 1, 302000012, 2, 900002, [(0, 293)]), (.aload_n 0, o0), (.bipush 36, oC (vI 36)), (.newarray .long, oA 303300036), (.putfield 18, vN, 1, 303300036, 3, 900002, [(0, 294)]), (.aload_n 0, o0), (.bipush 36, oC (vI 36)), (.newarray .long, oA 304300036), (.putfield 22, vN, 1, 304300036, 4, 900002, [(0, 295)]), (.return_, o0)], 1)]
def C_Demand_init : List Nat := []
set_option maxRecDepth 100000 in
def B_Demand_take : List Blk := [(0, [(.aload_n 0, o0), (.aload_n 1, oA 1), (.getfield 25, vN, 0, 301, 1, 900002, [(0, 291)]), (.putfield 25, vN, 0, 301, 1, 900002, [(0, 291)]), (.aload_n 1, oA 1), (.getfield 11, vN, 1, 300000072, 0, 900002, [(0, 289)]), (.iconst 0, oC (vI 0)), (.aload_n 0, o0), (.getfield 11, vN, 1, 300000072, 0, 900002, [(0, 289)]), (.iconst 0, oC (vI 0)), (.bipush 72, oC (vI 72)), (.invokestatic 29, vN, 900, 0, 0, 0, [(0, 1111)]), (.aload_n 1, oA 1), (.getfield 15, vN, 1, 302000012, 2, 900002, [(0, 293)]), (.iconst 0, oC (vI 0)), (.aload_n 0, o0), (.getfield 15, vN, 1, 302000012, 2, 900002, [(0, 293)]), (.iconst 0, oC (vI 0)), (.bipush 12, oC (vI 12)), (.invokestatic 29, vN, 900, 0, 0, 0, [(0, 1111)]), (.return_, o0)], 1)]
def C_Demand_take : List Nat := []
set_option maxRecDepth 100000 in
def B_Demand_isWhole : List Blk := [(0, [(.iconst 0, oC (vI 0)), (.istore_n 1, oA 1)], 1),
  (2, [(.iload_n 1, oA 1), (.bipush 12, oC (vI 12)), (.if_icmp .ge 47, oA 5), (.iconst 0, oC (vI 0)), (.istore_n 2, oA 2), (.iconst 0, oC (vI 0)), (.istore_n 3, oA 3)], 2),
  (12, [(.iload_n 3, oA 3), (.bipush 6, oC (vI 6)), (.if_icmp .ge 23, oA 3), (.iload_n 2, oA 2), (.aload_n 0, o0), (.getfield 11, vN, 1, 300000072, 0, 900002, [(0, 289)]), (.iload_n 1, oA 1), (.bipush 6, oC (vI 6)), (.imul, o0), (.iload_n 3, oA 3), (.iadd, o0), (.iaload, o0), (.iadd, o0), (.istore_n 2, oA 2), (.iinc 3 1, vI 1, 3, 0, 0, 0, []), (.goto (-23), oA 2)], 3),
  (38, [(.iload_n 2, oA 2), (.bipush 10, oC (vI 10)), (.if_icmp .eq 5, oA 4), (.iconst 0, oC (vI 0)), (.ireturn, oA 1)], 4),
  (46, [(.iinc 1 1, vI 1, 1, 0, 0, 0, []), (.goto (-47), oA 1)], 5),
  (52, [(.iconst 1, oC (vI 1)), (.ireturn, oA 1)], 6)]
def C_Demand_isWhole : List Nat := [1, 2]
set_option maxRecDepth 100000 in
def B_Demand_wanted : List Blk := [(0, [(.iconst 0, oC (vI 0)), (.istore_n 1, oA 1), (.iconst 0, oC (vI 0)), (.istore_n 2, oA 2)], 1),
  (4, [(.iload_n 2, oA 2), (.bipush 72, oC (vI 72)), (.if_icmp .ge 23, oA 2), (.iload_n 1, oA 1), (.aload_n 0, o0), (.getfield 11, vN, 1, 300000072, 0, 900002, [(0, 289)]), (.iload_n 2, oA 2), (.iaload, o0), (.iload_n 2, oA 2), (.bipush 6, oC (vI 6)), (.irem, o0), (.imul, o0), (.iadd, o0), (.istore_n 1, oA 1), (.iinc 2 1, vI 1, 2, 0, 0, 0, []), (.goto (-23), oA 1)], 2),
  (30, [(.iload_n 1, oA 1), (.ireturn, o0)], 3)]
def C_Demand_wanted : List Nat := [1]
set_option maxRecDepth 100000 in
def B_Demand_served : List Blk := [(0, [(.aload_n 0, o0), (.getfield 18, vN, 1, 303300036, 3, 900002, [(0, 294)]), (.lconst 0, oC (vL 0)), (.invokestatic 35, vN, 338, 2, 0, 0, [(0, 1101)]), (.aload_n 0, o0), (.getfield 18, vN, 1, 303300036, 3, 900002, [(0, 294)]), (.iconst 0, oC (vI 0)), (.lconst 1, oC (vL 1)), (.lastore, o0), (.lconst 0, oC (vL 0)), (.lstore_n 3, oA 3), (.iconst 0, oC (vI 0)), (.istore 5, oA 5)], 1),
  (20, [(.iload 5, oA 5), (.bipush 12, oC (vI 12)), (.if_icmp .ge 88, oA 5), (.aload_n 0, o0), (.getfield 22, vN, 1, 304300036, 4, 900002, [(0, 295)]), (.lconst 0, oC (vL 0)), (.invokestatic 35, vN, 338, 2, 0, 0, [(0, 1101)]), (.lload_n 3, oA 3), (.ldc2_w 41, vL 10, 0, 0, 0, 0, [(0, 1104)]), (.lmul, o0), (.lstore_n 3, oA 3), (.iconst 0, oC (vI 0)), (.istore 6, oA 6)], 2),
  (44, [(.iload 6, oA 6), (.bipush 36, oC (vI 36)), (.if_icmp .ge 43, oA 4), (.aload_n 0, o0), (.getfield 18, vN, 1, 303300036, 3, 900002, [(0, 294)]), (.iload 6, oA 6), (.laload, o0), (.lconst 0, oC (vL 0)), (.lcmp, o0), (.ifCond .le 25, oA 3), (.lload_n 3, oA 3), (.aload_n 0, o0), (.getfield 18, vN, 1, 303300036, 3, 900002, [(0, 294)]), (.iload 6, oA 6), (.laload, o0), (.aload_n 0, o0), (.iload 5, oA 5), (.iload 6, oA 6), (.iload_n 1, oA 1), (.iload_n 2, oA 2), (.invokevirtual 43, vN, 25, 5, 1, 900002, [(0, 1105)]), (.i2l, o0), (.lmul, o0), (.ladd, o0), (.lstore_n 3, oA 3)], 3),
  (85, [(.iinc 6 1, vI 1, 6, 0, 0, 0, []), (.goto (-44), oA 2)], 4),
  (91, [(.aload_n 0, o0), (.getfield 22, vN, 1, 304300036, 4, 900002, [(0, 295)]), (.iconst 0, oC (vI 0)), (.aload_n 0, o0), (.getfield 18, vN, 1, 303300036, 3, 900002, [(0, 294)]), (.iconst 0, oC (vI 0)), (.bipush 36, oC (vI 36)), (.invokestatic 29, vN, 900, 3, 0, 0, [(0, 1111)]), (.iinc 5 1, vI 1, 5, 0, 0, 0, []), (.goto (-89), oA 1)], 5),
  (112, [(.lload_n 3, oA 3), (.lreturn, o0)], 6)]
def C_Demand_served : List Nat := [1, 2]
set_option maxRecDepth 100000 in
def B_Demand_serveHour : List Blk := [(0, [(.iload_n 2, oA 2), (.bipush 6, oC (vI 6)), (.idiv, o0), (.istore 5, oA 5), (.iconst 0, oC (vI 0)), (.iload_n 3, oA 3), (.iload 5, oA 5), (.isub, o0), (.iload_n 2, oA 2), (.bipush 6, oC (vI 6)), (.irem, o0), (.isub, o0), (.invokestatic 47, vN, 336, 2, 1, 0, [(0, 1109)]), (.istore 6, oA 6), (.iconst 0, oC (vI 0)), (.istore 7, oA 7), (.iconst 0, oC (vI 0)), (.istore 8, oA 8)], 1),
  (27, [(.iload 8, oA 8), (.bipush 6, oC (vI 6)), (.if_icmp .ge 92, oA 6), (.aload_n 0, o0), (.getfield 11, vN, 1, 300000072, 0, 900002, [(0, 289)]), (.iload_n 1, oA 1), (.bipush 6, oC (vI 6)), (.imul, o0), (.iload 8, oA 8), (.iadd, o0), (.iaload, o0), (.istore 9, oA 9), (.iload 8, oA 8), (.iload 6, oA 6), (.invokestatic 53, vN, 337, 2, 1, 0, [(0, 1110)]), (.istore 10, oA 10), (.iload 4, oA 4), (.iconst 2, oC (vI 2)), (.if_icmp .lt 11, oA 2), (.iload 10, oA 10), (.bipush 6, oC (vI 6)), (.imul, o0), (.goto 4, oA 3)], 2),
  (71, [(.iconst 0, oC (vI 0))], 3),
  (72, [(.iload 4, oA 4), (.iconst 3, oC (vI 3)), (.if_icmp .lt 8, oA 4), (.iload 5, oA 5), (.goto 4, oA 5)], 4),
  (83, [(.iconst 0, oC (vI 0))], 5),
  (84, [(.iadd, o0), (.istore 11, oA 11), (.aload_n 0, o0), (.getfield 22, vN, 1, 304300036, 4, 900002, [(0, 295)]), (.iload 11, oA 11), (.dup2, o0), (.laload, o0), (.aload_n 0, o0), (.getfield 18, vN, 1, 303300036, 3, 900002, [(0, 294)]), (.iload_n 2, oA 2), (.laload, o0), (.iload 9, oA 9), (.i2l, o0), (.lmul, o0), (.ladd, o0), (.lastore, o0), (.iload 7, oA 7), (.iload 9, oA 9), (.iload 10, oA 10), (.imul, o0), (.iadd, o0), (.istore 7, oA 7), (.iinc 8 1, vI 1, 8, 0, 0, 0, []), (.goto (-93), oA 1)], 6),
  (123, [(.iload 7, oA 7), (.ireturn, o0)], 7)]
def C_Demand_serveHour : List Nat := [1, 5]
set_option maxRecDepth 100000 in
def B_Demand_commonDivisor : List Blk := [(0, [(.lload_n 0, o0), (.lstore 4, oA 4), (.lload_n 2, oA 2), (.lstore 6, oA 6), (.iconst 0, oC (vI 0)), (.istore 8, oA 8)], 1),
  (9, [(.iload 8, oA 8), (.sipush 200, oC (vI 200)), (.if_icmp .ge 31, oA 2), (.lload 6, oA 6), (.lconst 0, oC (vL 0)), (.lcmp, o0), (.ifCond .eq 24, oA 2), (.lload 4, oA 4), (.lload 6, oA 6), (.lrem, o0), (.lstore 9, oA 9), (.lload 6, oA 6), (.lstore 4, oA 4), (.lload 9, oA 9), (.lstore 6, oA 6), (.iinc 8 1, vI 1, 8, 0, 0, 0, []), (.goto (-33), oA 1)], 2),
  (45, [(.lload 4, oA 4), (.lreturn, o0)], 3)]
def C_Demand_commonDivisor : List Nat := [1]
set_option maxRecDepth 100000 in
def B_Demand_meanCoin : List Blk := [(0, [(.iconst 0, oC (vI 0)), (.istore 5, oA 5), (.iconst 0, oC (vI 0)), (.istore 6, oA 6)], 1),
  (6, [(.iload 6, oA 6), (.bipush 6, oC (vI 6)), (.if_icmp .ge 80, oA 4), (.iload 6, oA 6), (.iload_n 1, oA 1), (.iload_n 2, oA 2), (.isub, o0), (.invokestatic 53, vN, 337, 2, 1, 0, [(0, 1110)]), (.istore 7, oA 7), (.iconst 0, oC (vI 0)), (.istore 8, oA 8)], 2),
  (26, [(.iload 8, oA 8), (.bipush 6, oC (vI 6)), (.if_icmp .ge 54, oA 3), (.iload 8, oA 8), (.iload_n 1, oA 1), (.iload 7, oA 7), (.isub, o0), (.invokestatic 53, vN, 337, 2, 1, 0, [(0, 1110)]), (.istore 9, oA 9), (.iload 5, oA 5), (.aload_n 0, o0), (.getfield 11, vN, 1, 300000072, 0, 900002, [(0, 289)]), (.iload 6, oA 6), (.iaload, o0), (.aload_n 0, o0), (.getfield 11, vN, 1, 300000072, 0, 900002, [(0, 289)]), (.bipush 6, oC (vI 6)), (.iload 8, oA 8), (.iadd, o0), (.iaload, o0), (.imul, o0), (.iload 7, oA 7), (.iload_n 3, oA 3), (.imul, o0), (.iload 9, oA 9), (.iload 4, oA 4), (.imul, o0), (.iadd, o0), (.imul, o0), (.iadd, o0), (.istore 5, oA 5), (.iinc 8 1, vI 1, 8, 0, 0, 0, []), (.goto (-55), oA 2)], 3),
  (84, [(.iinc 6 1, vI 1, 6, 0, 0, 0, []), (.goto (-81), oA 1)], 4),
  (90, [(.iload 5, oA 5), (.ireturn, o0)], 5)]
def C_Demand_meanCoin : List Nat := [1, 2]
set_option maxRecDepth 100000 in
def B_Demand_addLoyal : List Blk := [(0, [(.aload_n 0, o0), (.getfield 25, vN, 0, 301, 1, 900002, [(0, 291)]), (.bipush 12, oC (vI 12)), (.if_icmp .lt 5, oA 1), (.iconst (-1), oC (vI (-1))), (.ireturn, o0)], 1),
  (11, [(.aload_n 0, o0), (.getfield 15, vN, 1, 302000012, 2, 900002, [(0, 293)]), (.aload_n 0, o0), (.getfield 25, vN, 0, 301, 1, 900002, [(0, 291)]), (.iload_n 1, oA 1), (.iastore, o0), (.aload_n 0, o0), (.dup, o0), (.getfield 25, vN, 0, 301, 1, 900002, [(0, 291)]), (.iconst 1, oC (vI 1)), (.iadd, o0), (.putfield 25, vN, 0, 301, 1, 900002, [(0, 291)]), (.aload_n 0, o0), (.getfield 25, vN, 0, 301, 1, 900002, [(0, 291)]), (.ireturn, o0)], 2)]
def C_Demand_addLoyal : List Nat := []
set_option maxRecDepth 100000 in
def B_Demand_staying : List Blk := [(0, [(.iconst 0, oC (vI 0)), (.istore_n 3, oA 3), (.iconst 0, oC (vI 0)), (.istore 4, oA 4)], 1),
  (5, [(.iload 4, oA 4), (.aload_n 0, o0), (.getfield 25, vN, 0, 301, 1, 900002, [(0, 291)]), (.if_icmp .ge 30, oA 4), (.iload_n 3, oA 3), (.iload_n 1, oA 1), (.iload_n 2, oA 2), (.isub, o0), (.aload_n 0, o0), (.getfield 15, vN, 1, 302000012, 2, 900002, [(0, 293)]), (.iload 4, oA 4), (.iaload, o0), (.if_icmp .gt 7, oA 2), (.iconst 1, oC (vI 1)), (.goto 4, oA 3)], 2),
  (32, [(.iconst 0, oC (vI 0))], 3),
  (33, [(.iadd, o0), (.istore_n 3, oA 3), (.iinc 4 1, vI 1, 4, 0, 0, 0, []), (.goto (-33), oA 1)], 4),
  (41, [(.iload_n 3, oA 3), (.ireturn, o0)], 5)]
def C_Demand_staying : List Nat := [1]
set_option maxRecDepth 100000 in
def B_Demand_bestPrice : List Blk := [(0, [(.iconst 0, oC (vI 0)), (.istore_n 2, oA 2), (.iconst 0, oC (vI 0)), (.istore_n 3, oA 3), (.iconst 0, oC (vI 0)), (.istore 4, oA 4)], 1),
  (7, [(.iload 4, oA 4), (.sipush 999, oC (vI 999)), (.if_icmp .gt 33, oA 3), (.iload 4, oA 4), (.aload_n 0, o0), (.iload 4, oA 4), (.iload_n 1, oA 1), (.invokevirtual 56, vN, 29, 3, 1, 900002, [(0, 1299)]), (.imul, o0), (.istore 5, oA 5), (.iload 5, oA 5), (.iload_n 3, oA 3), (.if_icmp .le 9, oA 2), (.iload 5, oA 5), (.istore_n 3, oA 3), (.iload 4, oA 4), (.istore_n 2, oA 2)], 2),
  (39, [(.iinc 4 1, vI 1, 4, 0, 0, 0, []), (.goto (-35), oA 1)], 3),
  (45, [(.iload_n 2, oA 2), (.ireturn, o0)], 4)]
def C_Demand_bestPrice : List Nat := [1]
set_option maxRecDepth 100000 in
def B_Dock_init : List Blk := [(0, [(.aload_n 0, o0), (.invokespecial 3, vN, 901, 0, 0, 0, [(0, 381)]), (.aload_n 0, o0), (.bipush 20, oC (vI 20)), (.newarray .int, oA 400000020), (.putfield 9, vN, 1, 400000020, 0, 900003, [(0, 382)]), (.aload_n 0, o0), (.bipush 20, oC (vI 20)), (.newarray .int, oA 401000020), (.putfield 15, vN, 1, 401000020, 1, 900003, [(0, 383)]), (.aload_n 0, o0), (.bipush 20, oC (vI 20)), (.newarray .int, oA 402000020), (.putfield 18, vN, 1, 402000020, 2, 900003, [(0, 384)]), (.aload_n 0, o0), (.bipush 20, oC (vI 20)), (.newarray .int, oA 403000020), (.putfield 21, vN, 1, 403000020, 3, 900003, [(0, 386)]), (.aload_n 0, o0), (.bipush 10, oC (vI 10)), (.newarray .int, oA 404000010), (.putfield 24, vN, 1, 404000010, 4, 900003, [(0, 388)]), (.aload_n 0, o0), (.bipush 10, oC (vI 10)), (.newarray .int, oA 405000010), (.putfield 27, vN, 1, 405000010, 5, 900003, [(0, 389)]), (.return_, o0)], 1)]
def C_Dock_init : List Nat := []
set_option maxRecDepth 100000 in
def B_Dock_take : List Blk := [(0, [(.aload_n 1, oA 1), (.getfield 9, vN, 1, 400000020, 0, 900003, [(0, 382)]), (.iconst 0, oC (vI 0)), (.aload_n 0, o0), (.getfield 9, vN, 1, 400000020, 0, 900003, [(0, 382)]), (.iconst 0, oC (vI 0)), (.bipush 20, oC (vI 20)), (.invokestatic 30, vN, 900, 0, 0, 0, [(0, 1369)]), (.aload_n 1, oA 1), (.getfield 15, vN, 1, 401000020, 1, 900003, [(0, 383)]), (.iconst 0, oC (vI 0)), (.aload_n 0, o0), (.getfield 15, vN, 1, 401000020, 1, 900003, [(0, 383)]), (.iconst 0, oC (vI 0)), (.bipush 20, oC (vI 20)), (.invokestatic 30, vN, 900, 0, 0, 0, [(0, 1369)]), (.aload_n 1, oA 1), (.getfield 18, vN, 1, 402000020, 2, 900003, [(0, 384)]), (.iconst 0, oC (vI 0)), (.aload_n 0, o0), (.getfield 18, vN, 1, 402000020, 2, 900003, [(0, 384)]), (.iconst 0, oC (vI 0)), (.bipush 20, oC (vI 20)), (.invokestatic 30, vN, 900, 0, 0, 0, [(0, 1369)]), (.aload_n 1, oA 1), (.getfield 21, vN, 1, 403000020, 3, 900003, [(0, 386)]), (.iconst 0, oC (vI 0)), (.aload_n 0, o0), (.getfield 21, vN, 1, 403000020, 3, 900003, [(0, 386)]), (.iconst 0, oC (vI 0)), (.bipush 20, oC (vI 20)), (.invokestatic 30, vN, 900, 0, 0, 0, [(0, 1369)]), (.return_, o0)], 1)]
def C_Dock_take : List Nat := []
set_option maxRecDepth 100000 in
def B_Dock_setPaint : List Blk := [(0, [(.aload_n 0, o0), (.invokevirtual 36, vN, 34, 1, 0, 900003, [(0, 1238)]), (.iload_n 2, oA 2), (.ifCond .le 23, oA 1), (.aload_n 0, o0), (.getfield 9, vN, 1, 400000020, 0, 900003, [(0, 382)]), (.iload_n 1, oA 1), (.iaload, o0), (.ifCond .ne 14, oA 1), (.aload_n 0, o0), (.getfield 39, vN, 0, 406, 6, 900003, [(0, 390)]), (.bipush 10, oC (vI 10)), (.if_icmp .lt 5, oA 1), (.iconst 0, oC (vI 0)), (.ireturn, oA 1)], 1),
  (28, [(.aload_n 0, o0), (.getfield 9, vN, 1, 400000020, 0, 900003, [(0, 382)]), (.iload_n 1, oA 1), (.iload_n 2, oA 2), (.iastore, o0), (.aload_n 0, o0), (.getfield 15, vN, 1, 401000020, 1, 900003, [(0, 383)]), (.iload_n 1, oA 1), (.iload_n 3, oA 3), (.iastore, o0), (.iconst 1, oC (vI 1)), (.ireturn, oA 1)], 2)]
def C_Dock_setPaint : List Nat := []
set_option maxRecDepth 100000 in
def B_Dock_listDry : List Blk := [(0, [(.aload_n 0, o0), (.iconst 0, oC (vI 0)), (.putfield 39, vN, 0, 406, 6, 900003, [(0, 390)]), (.iconst 0, oC (vI 0)), (.istore_n 1, oA 1)], 1),
  (7, [(.iload_n 1, oA 1), (.bipush 20, oC (vI 20)), (.if_icmp .ge 47, oA 3), (.aload_n 0, o0), (.getfield 39, vN, 0, 406, 6, 900003, [(0, 390)]), (.bipush 10, oC (vI 10)), (.if_icmp .ge 38, oA 3), (.aload_n 0, o0), (.getfield 9, vN, 1, 400000020, 0, 900003, [(0, 382)]), (.iload_n 1, oA 1), (.iaload, o0), (.ifCond .le 23, oA 2), (.aload_n 0, o0), (.getfield 24, vN, 1, 404000010, 4, 900003, [(0, 388)]), (.aload_n 0, o0), (.getfield 39, vN, 0, 406, 6, 900003, [(0, 390)]), (.iload_n 1, oA 1), (.iastore, o0), (.aload_n 0, o0), (.dup, o0), (.getfield 39, vN, 0, 406, 6, 900003, [(0, 390)]), (.iconst 1, oC (vI 1)), (.iadd, o0), (.putfield 39, vN, 0, 406, 6, 900003, [(0, 390)])], 2),
  (51, [(.iinc 1 1, vI 1, 1, 0, 0, 0, []), (.goto (-47), oA 1)], 3),
  (57, [(.return_, o0)], 4)]
def C_Dock_listDry : List Nat := [1]
set_option maxRecDepth 100000 in
def B_Dock_orderDry : List Blk := [(0, [(.iconst 0, oC (vI 0)), (.istore_n 1, oA 1)], 1),
  (2, [(.iload_n 1, oA 1), (.aload_n 0, o0), (.getfield 39, vN, 0, 406, 6, 900003, [(0, 390)]), (.if_icmp .ge 58, oA 4), (.iload_n 1, oA 1), (.istore_n 2, oA 2)], 2),
  (12, [(.iload_n 2, oA 2), (.ifCond .le 39, oA 3), (.aload_n 0, o0), (.iload_n 1, oA 1), (.aload_n 0, o0), (.getfield 27, vN, 1, 405000010, 5, 900003, [(0, 389)]), (.iload_n 2, oA 2), (.iconst 1, oC (vI 1)), (.isub, o0), (.iaload, o0), (.invokevirtual 43, vN, 36, 3, 1, 900003, [(0, 1254)]), (.ifCond .eq 23, oA 3), (.aload_n 0, o0), (.getfield 27, vN, 1, 405000010, 5, 900003, [(0, 389)]), (.iload_n 2, oA 2), (.aload_n 0, o0), (.getfield 27, vN, 1, 405000010, 5, 900003, [(0, 389)]), (.iload_n 2, oA 2), (.iconst 1, oC (vI 1)), (.isub, o0), (.iaload, o0), (.iastore, o0), (.iinc 2 (-1), vI (-1), 2, 0, 0, 0, []), (.goto (-37), oA 2)], 3),
  (52, [(.aload_n 0, o0), (.getfield 27, vN, 1, 405000010, 5, 900003, [(0, 389)]), (.iload_n 2, oA 2), (.iload_n 1, oA 1), (.iastore, o0), (.iinc 1 1, vI 1, 1, 0, 0, 0, []), (.goto (-60), oA 1)], 4),
  (65, [(.return_, o0)], 5)]
def C_Dock_orderDry : List Nat := [1, 2]
set_option maxRecDepth 100000 in
def B_Dock_isSooner : List Blk := [(0, [(.aload_n 0, o0), (.getfield 24, vN, 1, 404000010, 4, 900003, [(0, 388)]), (.iload_n 1, oA 1), (.iaload, o0), (.istore_n 3, oA 3), (.aload_n 0, o0), (.getfield 24, vN, 1, 404000010, 4, 900003, [(0, 388)]), (.iload_n 2, oA 2), (.iaload, o0), (.istore 4, oA 4), (.aload_n 0, o0), (.getfield 9, vN, 1, 400000020, 0, 900003, [(0, 382)]), (.iload_n 3, oA 3), (.iaload, o0), (.aload_n 0, o0), (.getfield 15, vN, 1, 401000020, 1, 900003, [(0, 383)]), (.iload 4, oA 4), (.iaload, o0), (.imul, o0), (.aload_n 0, o0), (.getfield 9, vN, 1, 400000020, 0, 900003, [(0, 382)]), (.iload 4, oA 4), (.iaload, o0), (.aload_n 0, o0), (.getfield 15, vN, 1, 401000020, 1, 900003, [(0, 383)]), (.iload_n 3, oA 3), (.iaload, o0), (.imul, o0), (.if_icmp .ge 7, oA 1), (.iconst 1, oC (vI 1)), (.goto 4, oA 2)], 1),
  (50, [(.iconst 0, oC (vI 0))], 2),
  (51, [(.ireturn, oA 1)], 3)]
def C_Dock_isSooner : List Nat := []
set_option maxRecDepth 100000 in
def B_Dock_solvePaint : List Blk := [(0, [(.aload_n 0, o0), (.invokevirtual 36, vN, 34, 1, 0, 900003, [(0, 1238)]), (.aload_n 0, o0), (.invokevirtual 47, vN, 35, 1, 0, 900003, [(0, 1250)]), (.iload_n 1, oA 1), (.iconst 1, oC (vI 1)), (.if_icmp .ne 7, oA 1), (.iconst 1, oC (vI 1)), (.goto 9, oA 2)], 1),
  (17, [(.iconst 1, oC (vI 1)), (.aload_n 0, o0), (.getfield 39, vN, 0, 406, 6, 900003, [(0, 390)]), (.ishl, o0)], 2),
  (23, [(.istore_n 2, oA 2), (.aload_n 0, o0), (.ldc 52, vI 2147483647, 0, 0, 0, 0, [(0, 1258)]), (.putfield 53, vN, 0, 407, 7, 900003, [(0, 391)]), (.iconst 0, oC (vI 0)), (.istore_n 3, oA 3)], 3),
  (32, [(.iload_n 3, oA 3), (.iload_n 2, oA 2), (.if_icmp .ge 36, oA 5), (.aload_n 0, o0), (.iload_n 3, oA 3), (.invokevirtual 56, vN, 38, 2, 1, 900003, [(0, 1259)]), (.istore 4, oA 4), (.iload 4, oA 4), (.aload_n 0, o0), (.getfield 53, vN, 0, 407, 7, 900003, [(0, 391)]), (.if_icmp .ge 14, oA 4), (.aload_n 0, o0), (.iload 4, oA 4), (.putfield 53, vN, 0, 407, 7, 900003, [(0, 391)]), (.aload_n 0, o0), (.iload_n 3, oA 3), (.putfield 60, vN, 0, 408, 8, 900003, [(0, 393)])], 4),
  (64, [(.iinc 3 1, vI 1, 3, 0, 0, 0, []), (.goto (-35), oA 3)], 5),
  (70, [(.return_, o0)], 6)]
def C_Dock_solvePaint : List Nat := [3]
set_option maxRecDepth 100000 in
def B_Dock_coinLost : List Blk := [(0, [(.iconst 0, oC (vI 0)), (.istore_n 2, oA 2), (.iconst 0, oC (vI 0)), (.istore_n 3, oA 3), (.iconst 0, oC (vI 0)), (.istore 4, oA 4), (.iconst 0, oC (vI 0)), (.istore 5, oA 5)], 1),
  (10, [(.iload 5, oA 5), (.aload_n 0, o0), (.getfield 39, vN, 0, 406, 6, 900003, [(0, 390)]), (.if_icmp .ge 88, oA 4), (.aload_n 0, o0), (.getfield 24, vN, 1, 404000010, 4, 900003, [(0, 388)]), (.aload_n 0, o0), (.getfield 27, vN, 1, 405000010, 5, 900003, [(0, 389)]), (.iload 5, oA 5), (.iaload, o0), (.iaload, o0), (.istore 6, oA 6), (.iload_n 1, oA 1), (.aload_n 0, o0), (.getfield 27, vN, 1, 405000010, 5, 900003, [(0, 389)]), (.iload 5, oA 5), (.iaload, o0), (.ishr, o0), (.iconst 1, oC (vI 1)), (.iand, o0), (.ifCond .ne 30, oA 2), (.iload_n 2, oA 2), (.aload_n 0, o0), (.getfield 9, vN, 1, 400000020, 0, 900003, [(0, 382)]), (.iload 6, oA 6), (.iaload, o0), (.iadd, o0), (.istore_n 2, oA 2), (.iload 4, oA 4), (.iload_n 2, oA 2), (.aload_n 0, o0), (.getfield 15, vN, 1, 401000020, 1, 900003, [(0, 383)]), (.iload 6, oA 6), (.iaload, o0), (.imul, o0), (.iadd, o0), (.istore 4, oA 4), (.goto 27, oA 3)], 2),
  (74, [(.iload_n 3, oA 3), (.aload_n 0, o0), (.getfield 9, vN, 1, 400000020, 0, 900003, [(0, 382)]), (.iload 6, oA 6), (.iaload, o0), (.iadd, o0), (.istore_n 3, oA 3), (.iload 4, oA 4), (.iload_n 3, oA 3), (.aload_n 0, o0), (.getfield 15, vN, 1, 401000020, 1, 900003, [(0, 383)]), (.iload 6, oA 6), (.iaload, o0), (.imul, o0), (.iadd, o0), (.istore 4, oA 4)], 3),
  (98, [(.iinc 5 1, vI 1, 5, 0, 0, 0, []), (.goto (-91), oA 1)], 4),
  (104, [(.iload 4, oA 4), (.ireturn, o0)], 5)]
def C_Dock_coinLost : List Nat := [1]
set_option maxRecDepth 100000 in
def B_Dock_solveRenewal : List Blk := [(0, [(.aload_n 0, o0), (.invokevirtual 36, vN, 34, 1, 0, 900003, [(0, 1238)]), (.aload_n 0, o0), (.iconst (-1), oC (vI (-1))), (.putfield 53, vN, 0, 407, 7, 900003, [(0, 391)]), (.iconst 0, oC (vI 0)), (.istore_n 2, oA 2)], 1),
  (11, [(.iload_n 2, oA 2), (.iconst 1, oC (vI 1)), (.aload_n 0, o0), (.getfield 39, vN, 0, 406, 6, 900003, [(0, 390)]), (.ishl, o0), (.if_icmp .ge 34, oA 3), (.aload_n 0, o0), (.iload_n 2, oA 2), (.iload_n 1, oA 1), (.invokevirtual 63, vN, 40, 3, 1, 900003, [(0, 1279)]), (.istore_n 3, oA 3), (.iload_n 3, oA 3), (.aload_n 0, o0), (.getfield 53, vN, 0, 407, 7, 900003, [(0, 391)]), (.if_icmp .le 13, oA 2), (.aload_n 0, o0), (.iload_n 3, oA 3), (.putfield 53, vN, 0, 407, 7, 900003, [(0, 391)]), (.aload_n 0, o0), (.iload_n 2, oA 2), (.putfield 60, vN, 0, 408, 8, 900003, [(0, 393)])], 2),
  (46, [(.iinc 2 1, vI 1, 2, 0, 0, 0, []), (.goto (-38), oA 1)], 3),
  (52, [(.return_, o0)], 4)]
def C_Dock_solveRenewal : List Nat := [1]
set_option maxRecDepth 100000 in
def B_Dock_saving : List Blk := [(0, [(.iload_n 2, oA 2), (.istore_n 3, oA 3), (.iconst 0, oC (vI 0)), (.istore 4, oA 4), (.iconst 0, oC (vI 0)), (.istore 5, oA 5)], 1),
  (8, [(.iload 5, oA 5), (.aload_n 0, o0), (.getfield 39, vN, 0, 406, 6, 900003, [(0, 390)]), (.if_icmp .ge 64, oA 3), (.iload_n 1, oA 1), (.iload 5, oA 5), (.ishr, o0), (.iconst 1, oC (vI 1)), (.iand, o0), (.iconst 1, oC (vI 1)), (.if_icmp .ne 48, oA 2), (.iload_n 3, oA 3), (.aload_n 0, o0), (.getfield 9, vN, 1, 400000020, 0, 900003, [(0, 382)]), (.aload_n 0, o0), (.getfield 24, vN, 1, 404000010, 4, 900003, [(0, 388)]), (.iload 5, oA 5), (.iaload, o0), (.iaload, o0), (.isub, o0), (.istore_n 3, oA 3), (.iload 4, oA 4), (.aload_n 0, o0), (.getfield 18, vN, 1, 402000020, 2, 900003, [(0, 384)]), (.aload_n 0, o0), (.getfield 24, vN, 1, 404000010, 4, 900003, [(0, 388)]), (.iload 5, oA 5), (.iaload, o0), (.iaload, o0), (.aload_n 0, o0), (.getfield 21, vN, 1, 403000020, 3, 900003, [(0, 386)]), (.aload_n 0, o0), (.getfield 24, vN, 1, 404000010, 4, 900003, [(0, 388)]), (.iload 5, oA 5), (.iaload, o0), (.iaload, o0), (.imul, o0), (.iadd, o0), (.istore 4, oA 4)], 2),
  (72, [(.iinc 5 1, vI 1, 5, 0, 0, 0, []), (.goto (-67), oA 1)], 3),
  (78, [(.iload_n 3, oA 3), (.ifCond .lt 8, oA 4), (.iload 4, oA 4), (.goto 4, oA 5)], 4),
  (87, [(.iconst (-1), oC (vI (-1)))], 5),
  (88, [(.ireturn, o0)], 6)]
def C_Dock_saving : List Nat := [1]
set_option maxRecDepth 100000 in
def B_Dock_bestSet : List Blk := [(0, [(.iconst 0, oC (vI 0)), (.istore_n 1, oA 1), (.iconst 0, oC (vI 0)), (.istore_n 2, oA 2)], 1),
  (4, [(.iload_n 2, oA 2), (.aload_n 0, o0), (.getfield 39, vN, 0, 406, 6, 900003, [(0, 390)]), (.if_icmp .ge 27, oA 2), (.iload_n 1, oA 1), (.aload_n 0, o0), (.getfield 60, vN, 0, 408, 8, 900003, [(0, 393)]), (.iload_n 2, oA 2), (.ishr, o0), (.iconst 1, oC (vI 1)), (.iand, o0), (.aload_n 0, o0), (.getfield 24, vN, 1, 404000010, 4, 900003, [(0, 388)]), (.iload_n 2, oA 2), (.iaload, o0), (.ishl, o0), (.ior, o0), (.istore_n 1, oA 1), (.iinc 2 1, vI 1, 2, 0, 0, 0, []), (.goto (-29), oA 1)], 2),
  (36, [(.iload_n 1, oA 1), (.ireturn, o0)], 3)]
def C_Dock_bestSet : List Nat := [1]
set_option maxRecDepth 100000 in
def B_Guides_init : List Blk := [(0, [(.aload_n 0, o0), (.invokespecial 5, vN, 901, 0, 0, 0, [(0, 341)]), (.aload_n 0, o0), (.bipush 8, oC (vI 8)), (.newarray .int, oA 501000008), (.putfield 11, vN, 1, 501000008, 1, 900004, [(0, 344)]), (.aload_n 0, o0), (.bipush 8, oC (vI 8)), (.newarray .int, oA 502000008), (.putfield 15, vN, 1, 502000008, 2, 900004, [(0, 345)]), (.aload_n 0, o0), (.bipush 8, oC (vI 8)), (.newarray .int, oA 504000008), (.putfield 18, vN, 1, 504000008, 4, 900004, [(0, 349)]), (.aload_n 0, o0), (.bipush 8, oC (vI 8)), (.newarray .int, oA 505000008), (.putfield 21, vN, 1, 505000008, 5, 900004, [(0, 350)]), (.aload_n 0, o0), (.bipush 8, oC (vI 8)), (.newarray .int, oA 506000008), (.putfield 24, vN, 1, 506000008, 6, 900004, [(0, 351)]), (.return_, o0)], 1)]
def C_Guides_init : List Nat := []
set_option maxRecDepth 100000 in
def B_Guides_take : List Blk := [(0, [(.aload_n 0, o0), (.aload_n 1, oA 1), (.getfield 27, vN, 0, 500, 0, 900004, [(0, 342)]), (.putfield 27, vN, 0, 500, 0, 900004, [(0, 342)]), (.aload_n 0, o0), (.aload_n 1, oA 1), (.getfield 31, vN, 0, 503, 3, 900004, [(0, 347)]), (.putfield 31, vN, 0, 503, 3, 900004, [(0, 347)]), (.aload_n 1, oA 1), (.getfield 11, vN, 1, 501000008, 1, 900004, [(0, 344)]), (.iconst 0, oC (vI 0)), (.aload_n 0, o0), (.getfield 11, vN, 1, 501000008, 1, 900004, [(0, 344)]), (.iconst 0, oC (vI 0)), (.bipush 8, oC (vI 8)), (.invokestatic 34, vN, 900, 0, 0, 0, [(0, 1364)]), (.aload_n 1, oA 1), (.getfield 15, vN, 1, 502000008, 2, 900004, [(0, 345)]), (.iconst 0, oC (vI 0)), (.aload_n 0, o0), (.getfield 15, vN, 1, 502000008, 2, 900004, [(0, 345)]), (.iconst 0, oC (vI 0)), (.bipush 8, oC (vI 8)), (.invokestatic 34, vN, 900, 0, 0, 0, [(0, 1364)]), (.aload_n 1, oA 1), (.getfield 18, vN, 1, 504000008, 4, 900004, [(0, 349)]), (.iconst 0, oC (vI 0)), (.aload_n 0, o0), (.getfield 18, vN, 1, 504000008, 4, 900004, [(0, 349)]), (.iconst 0, oC (vI 0)), (.bipush 8, oC (vI 8)), (.invokestatic 34, vN, 900, 0, 0, 0, [(0, 1364)]), (.aload_n 1, oA 1), (.getfield 21, vN, 1, 505000008, 5, 900004, [(0, 350)]), (.iconst 0, oC (vI 0)), (.aload_n 0, o0), (.getfield 21, vN, 1, 505000008, 5, 900004, [(0, 350)]), (.iconst 0, oC (vI 0)), (.bipush 8, oC (vI 8)), (.invokestatic 34, vN, 900, 0, 0, 0, [(0, 1364)]), (.return_, o0)], 1)]
def C_Guides_take : List Nat := []
set_option maxRecDepth 100000 in
def B_Guides_addGuide : List Blk := [(0, [(.aload_n 0, o0), (.getfield 27, vN, 0, 500, 0, 900004, [(0, 342)]), (.bipush 8, oC (vI 8)), (.if_icmp .lt 5, oA 1), (.iconst (-1), oC (vI (-1))), (.ireturn, o0)], 1),
  (11, [(.aload_n 0, o0), (.getfield 11, vN, 1, 501000008, 1, 900004, [(0, 344)]), (.aload_n 0, o0), (.getfield 27, vN, 0, 500, 0, 900004, [(0, 342)]), (.iload_n 1, oA 1), (.iastore, o0), (.aload_n 0, o0), (.getfield 15, vN, 1, 502000008, 2, 900004, [(0, 345)]), (.aload_n 0, o0), (.getfield 27, vN, 0, 500, 0, 900004, [(0, 342)]), (.iconst 0, oC (vI 0)), (.iastore, o0), (.aload_n 0, o0), (.dup, o0), (.getfield 27, vN, 0, 500, 0, 900004, [(0, 342)]), (.iconst 1, oC (vI 1)), (.iadd, o0), (.putfield 27, vN, 0, 500, 0, 900004, [(0, 342)]), (.aload_n 0, o0), (.getfield 27, vN, 0, 500, 0, 900004, [(0, 342)]), (.iconst 1, oC (vI 1)), (.isub, o0), (.ireturn, o0)], 2)]
def C_Guides_addGuide : List Nat := []
set_option maxRecDepth 100000 in
def B_Guides_addParty : List Blk := [(0, [(.aload_n 0, o0), (.getfield 31, vN, 0, 503, 3, 900004, [(0, 347)]), (.bipush 8, oC (vI 8)), (.if_icmp .lt 5, oA 1), (.iconst (-1), oC (vI (-1))), (.ireturn, o0)], 1),
  (11, [(.aload_n 0, o0), (.getfield 18, vN, 1, 504000008, 4, 900004, [(0, 349)]), (.aload_n 0, o0), (.getfield 31, vN, 0, 503, 3, 900004, [(0, 347)]), (.iload_n 1, oA 1), (.iastore, o0), (.aload_n 0, o0), (.getfield 21, vN, 1, 505000008, 5, 900004, [(0, 350)]), (.aload_n 0, o0), (.getfield 31, vN, 0, 503, 3, 900004, [(0, 347)]), (.iload_n 2, oA 2), (.iastore, o0), (.aload_n 0, o0), (.dup, o0), (.getfield 31, vN, 0, 503, 3, 900004, [(0, 347)]), (.iconst 1, oC (vI 1)), (.iadd, o0), (.putfield 31, vN, 0, 503, 3, 900004, [(0, 347)]), (.aload_n 0, o0), (.getfield 31, vN, 0, 503, 3, 900004, [(0, 347)]), (.iconst 1, oC (vI 1)), (.isub, o0), (.ireturn, o0)], 2)]
def C_Guides_addParty : List Nat := []
set_option maxRecDepth 100000 in
def B_Guides_canGuide : List Blk := [(0, [(.iload_n 3, oA 3), (.iload_n 1, oA 1), (.ishr, o0), (.iconst 1, oC (vI 1)), (.iand, o0), (.ifCond .ne 25, oA 1), (.aload_n 0, o0), (.getfield 18, vN, 1, 504000008, 4, 900004, [(0, 349)]), (.iload_n 2, oA 2), (.iaload, o0), (.aload_n 0, o0), (.getfield 11, vN, 1, 501000008, 1, 900004, [(0, 344)]), (.iload_n 1, oA 1), (.iaload, o0), (.iconst (-1), oC (vI (-1))), (.ixor, o0), (.iand, o0), (.ifCond .ne 7, oA 1), (.iconst 1, oC (vI 1)), (.goto 4, oA 2)], 1),
  (30, [(.iconst 0, oC (vI 0))], 2),
  (31, [(.ireturn, oA 1)], 3)]
def C_Guides_canGuide : List Nat := []
set_option maxRecDepth 100000 in
def B_Guides_solve : List Blk := [(0, [(.aload_n 0, o0), (.iconst 0, oC (vI 0)), (.putfield 40, vN, 0, 507, 7, 900004, [(0, 353)]), (.aload_n 0, o0), (.iconst 0, oC (vI 0)), (.putfield 43, vN, 0, 508, 8, 900004, [(0, 355)]), (.aload_n 1, oA 1), (.arraylength, o0), (.sipush 2304, oC (vI 2304)), (.if_icmp .ge 4, oA 1), (.return_, o0)], 1),
  (19, [(.aload_n 1, oA 1), (.iconst 0, oC (vI 0)), (.invokestatic 46, vN, 339, 2, 0, 0, [(0, 1186)]), (.iconst 1, oC (vI 1)), (.aload_n 0, o0), (.getfield 27, vN, 0, 500, 0, 900004, [(0, 342)]), (.ishl, o0), (.istore_n 2, oA 2), (.aload_n 0, o0), (.getfield 31, vN, 0, 503, 3, 900004, [(0, 347)]), (.iconst 1, oC (vI 1)), (.isub, o0), (.istore_n 3, oA 3)], 2),
  (38, [(.iload_n 3, oA 3), (.ifCond .lt 42, oA 5), (.iconst 0, oC (vI 0)), (.istore 4, oA 4)], 3),
  (45, [(.iload 4, oA 4), (.iload_n 2, oA 2), (.if_icmp .ge 27, oA 4), (.aload_n 1, oA 1), (.iload_n 3, oA 3), (.sipush 256, oC (vI 256)), (.imul, o0), (.iload 4, oA 4), (.iadd, o0), (.aload_n 0, o0), (.aload_n 1, oA 1), (.iload_n 3, oA 3), (.iload 4, oA 4), (.invokevirtual 52, vN, 48, 4, 1, 900004, [(0, 1187)]), (.iastore, o0), (.iinc 4 1, vI 1, 4, 0, 0, 0, []), (.goto (-27), oA 3)], 4),
  (75, [(.iinc 3 (-1), vI (-1), 3, 0, 0, 0, []), (.goto (-40), oA 2)], 5),
  (81, [(.iconst 0, oC (vI 0)), (.istore_n 3, oA 3), (.iconst 0, oC (vI 0)), (.istore 4, oA 4)], 6),
  (86, [(.iload 4, oA 4), (.aload_n 0, o0), (.getfield 31, vN, 0, 503, 3, 900004, [(0, 347)]), (.if_icmp .ge 73, oA 8), (.aload_n 0, o0), (.getfield 24, vN, 1, 506000008, 6, 900004, [(0, 351)]), (.iload 4, oA 4), (.aload_n 0, o0), (.aload_n 1, oA 1), (.iload 4, oA 4), (.iload_n 3, oA 3), (.invokevirtual 56, vN, 49, 4, 1, 900004, [(0, 1196)]), (.iastore, o0), (.aload_n 0, o0), (.getfield 24, vN, 1, 506000008, 6, 900004, [(0, 351)]), (.iload 4, oA 4), (.iaload, o0), (.iconst (-1), oC (vI (-1))), (.if_icmp .eq 41, oA 7), (.iload_n 3, oA 3), (.iconst 1, oC (vI 1)), (.aload_n 0, o0), (.getfield 24, vN, 1, 506000008, 6, 900004, [(0, 351)]), (.iload 4, oA 4), (.iaload, o0), (.ishl, o0), (.ior, o0), (.istore_n 3, oA 3), (.aload_n 0, o0), (.dup, o0), (.getfield 40, vN, 0, 507, 7, 900004, [(0, 353)]), (.iconst 1, oC (vI 1)), (.iadd, o0), (.putfield 40, vN, 0, 507, 7, 900004, [(0, 353)]), (.aload_n 0, o0), (.dup, o0), (.getfield 43, vN, 0, 508, 8, 900004, [(0, 355)]), (.aload_n 0, o0), (.getfield 21, vN, 1, 505000008, 5, 900004, [(0, 350)]), (.iload 4, oA 4), (.iaload, o0), (.iadd, o0), (.putfield 43, vN, 0, 508, 8, 900004, [(0, 355)])], 7),
  (159, [(.iinc 4 1, vI 1, 4, 0, 0, 0, []), (.goto (-76), oA 6)], 8),
  (165, [(.return_, o0)], 9)]
def C_Guides_solve : List Nat := [2, 3, 6]
set_option maxRecDepth 100000 in
def B_Guides_worth : List Blk := [(0, [(.iload_n 2, oA 2), (.iconst 1, oC (vI 1)), (.iadd, o0), (.sipush 256, oC (vI 256)), (.imul, o0), (.istore 4, oA 4), (.aload_n 1, oA 1), (.iload 4, oA 4), (.iload_n 3, oA 3), (.iadd, o0), (.iaload, o0), (.istore 5, oA 5), (.iconst 0, oC (vI 0)), (.istore 6, oA 6)], 1),
  (20, [(.iload 6, oA 6), (.aload_n 0, o0), (.getfield 27, vN, 0, 500, 0, 900004, [(0, 342)]), (.if_icmp .ge 49, oA 3), (.aload_n 0, o0), (.iload 6, oA 6), (.iload_n 2, oA 2), (.iload_n 3, oA 3), (.invokevirtual 59, vN, 46, 4, 1, 900004, [(0, 1191)]), (.ifCond .eq 32, oA 2), (.iload 5, oA 5), (.aload_n 1, oA 1), (.iload 4, oA 4), (.iload_n 3, oA 3), (.iconst 1, oC (vI 1)), (.iload 6, oA 6), (.ishl, o0), (.ior, o0), (.iadd, o0), (.iaload, o0), (.sipush 10000, oC (vI 10000)), (.iadd, o0), (.aload_n 0, o0), (.getfield 21, vN, 1, 505000008, 5, 900004, [(0, 350)]), (.iload_n 2, oA 2), (.iaload, o0), (.iadd, o0), (.invokestatic 63, vN, 336, 2, 1, 0, [(0, 1195)]), (.istore 5, oA 5)], 2),
  (69, [(.iinc 6 1, vI 1, 6, 0, 0, 0, []), (.goto (-52), oA 1)], 3),
  (75, [(.iload 5, oA 5), (.ireturn, o0)], 4)]
def C_Guides_worth : List Nat := [1]
set_option maxRecDepth 100000 in
def B_Guides_choose : List Blk := [(0, [(.aload_n 1, oA 1), (.iload_n 2, oA 2), (.sipush 256, oC (vI 256)), (.imul, o0), (.iload_n 3, oA 3), (.iadd, o0), (.iaload, o0), (.sipush 10000, oC (vI 10000)), (.isub, o0), (.aload_n 0, o0), (.getfield 21, vN, 1, 505000008, 5, 900004, [(0, 350)]), (.iload_n 2, oA 2), (.iaload, o0), (.isub, o0), (.istore 4, oA 4), (.iconst (-1), oC (vI (-1))), (.istore 5, oA 5), (.iconst 0, oC (vI 0)), (.istore 6, oA 6)], 1),
  (28, [(.iload 6, oA 6), (.aload_n 0, o0), (.getfield 27, vN, 0, 500, 0, 900004, [(0, 342)]), (.if_icmp .ge 73, oA 6), (.aload_n 0, o0), (.iload 6, oA 6), (.iload_n 2, oA 2), (.iload_n 3, oA 3), (.invokevirtual 59, vN, 46, 4, 1, 900004, [(0, 1191)]), (.ifCond .eq 56, oA 5), (.aload_n 1, oA 1), (.iload_n 2, oA 2), (.iconst 1, oC (vI 1)), (.iadd, o0), (.sipush 256, oC (vI 256)), (.imul, o0), (.iload_n 3, oA 3), (.iconst 1, oC (vI 1)), (.iload 6, oA 6), (.ishl, o0), (.ior, o0), (.iadd, o0), (.iaload, o0), (.iload 4, oA 4), (.if_icmp .ne 35, oA 5), (.iload 5, oA 5), (.iconst (-1), oC (vI (-1))), (.if_icmp .eq 20, oA 2), (.aload_n 0, o0), (.getfield 15, vN, 1, 502000008, 2, 900004, [(0, 345)]), (.iload 6, oA 6), (.iaload, o0), (.aload_n 0, o0), (.getfield 15, vN, 1, 502000008, 2, 900004, [(0, 345)]), (.iload 5, oA 5), (.iaload, o0), (.if_icmp .ge 8, oA 3)], 2),
  (92, [(.iload 6, oA 6), (.goto 5, oA 4)], 3),
  (97, [(.iload 5, oA 5)], 4),
  (99, [(.istore 5, oA 5)], 5),
  (101, [(.iinc 6 1, vI 1, 6, 0, 0, 0, []), (.goto (-76), oA 1)], 6),
  (107, [(.iload 5, oA 5), (.ireturn, o0)], 7)]
def C_Guides_choose : List Nat := [1]
set_option maxRecDepth 100000 in
def B_Guides_payOut : List Blk := [(0, [(.iconst 0, oC (vI 0)), (.istore_n 2, oA 2)], 1),
  (2, [(.iload_n 2, oA 2), (.aload_n 0, o0), (.getfield 31, vN, 0, 503, 3, 900004, [(0, 347)]), (.if_icmp .ge 43, oA 3), (.aload_n 0, o0), (.getfield 24, vN, 1, 506000008, 6, 900004, [(0, 351)]), (.iload_n 2, oA 2), (.iaload, o0), (.ifCond .lt 28, oA 2), (.aload_n 0, o0), (.getfield 15, vN, 1, 502000008, 2, 900004, [(0, 345)]), (.aload_n 0, o0), (.getfield 24, vN, 1, 506000008, 6, 900004, [(0, 351)]), (.iload_n 2, oA 2), (.iaload, o0), (.dup2, o0), (.iaload, o0), (.aload_n 0, o0), (.getfield 21, vN, 1, 505000008, 5, 900004, [(0, 350)]), (.iload_n 2, oA 2), (.iaload, o0), (.iload_n 1, oA 1), (.imul, o0), (.bipush 100, oC (vI 100)), (.idiv, o0), (.iadd, o0), (.iastore, o0)], 2),
  (44, [(.iinc 2 1, vI 1, 2, 0, 0, 0, []), (.goto (-45), oA 1)], 3),
  (50, [(.aload_n 0, o0), (.iconst 0, oC (vI 0)), (.putfield 31, vN, 0, 503, 3, 900004, [(0, 347)]), (.return_, o0)], 4)]
def C_Guides_payOut : List Nat := [1]
set_option maxRecDepth 100000 in
def B_Guides_spread : List Blk := [(0, [(.aload_n 0, o0), (.getfield 27, vN, 0, 500, 0, 900004, [(0, 342)]), (.ifCond .ne 5, oA 1), (.iconst 0, oC (vI 0)), (.ireturn, o0)], 1),
  (9, [(.aload_n 0, o0), (.getfield 15, vN, 1, 502000008, 2, 900004, [(0, 345)]), (.iconst 0, oC (vI 0)), (.iaload, o0), (.istore_n 1, oA 1), (.aload_n 0, o0), (.getfield 15, vN, 1, 502000008, 2, 900004, [(0, 345)]), (.iconst 0, oC (vI 0)), (.iaload, o0), (.istore_n 2, oA 2), (.iconst 1, oC (vI 1)), (.istore_n 3, oA 3)], 2),
  (25, [(.iload_n 3, oA 3), (.aload_n 0, o0), (.getfield 27, vN, 0, 500, 0, 900004, [(0, 342)]), (.if_icmp .ge 31, oA 3), (.iload_n 1, oA 1), (.aload_n 0, o0), (.getfield 15, vN, 1, 502000008, 2, 900004, [(0, 345)]), (.iload_n 3, oA 3), (.iaload, o0), (.invokestatic 69, vN, 337, 2, 1, 0, [(0, 1216)]), (.istore_n 1, oA 1), (.iload_n 2, oA 2), (.aload_n 0, o0), (.getfield 15, vN, 1, 502000008, 2, 900004, [(0, 345)]), (.iload_n 3, oA 3), (.iaload, o0), (.invokestatic 63, vN, 336, 2, 1, 0, [(0, 1195)]), (.istore_n 2, oA 2), (.iinc 3 1, vI 1, 3, 0, 0, 0, []), (.goto (-33), oA 2)], 3),
  (61, [(.iload_n 2, oA 2), (.iload_n 1, oA 1), (.isub, o0), (.ireturn, o0)], 4)]
def C_Guides_spread : List Nat := [2]
set_option maxRecDepth 100000 in
def B_Law_init : List Blk := [(0, [(.aload_n 0, o0), (.invokespecial 3, vN, 901, 0, 0, 0, [(0, 63)]), (.aload_n 0, o0), (.iconst 4, oC (vI 4)), (.newarray .int, oA 601000004), (.putfield 9, vN, 1, 601000004, 1, 900005, [(0, 69)]), (.aload_n 0, o0), (.iconst 4, oC (vI 4)), (.newarray .int, oA 602000004), (.putfield 15, vN, 1, 602000004, 2, 900005, [(0, 72)]), (.aload_n 0, o0), (.iconst 4, oC (vI 4)), (.newarray .int, oA 603000004), (.putfield 18, vN, 1, 603000004, 3, 900005, [(0, 75)]), (.aload_n 0, o0), (.bipush 40, oC (vI 40)), (.newarray .int, oA 604000040), (.putfield 21, vN, 1, 604000040, 4, 900005, [(0, 78)]), (.aload_n 0, o0), (.bipush 60, oC (vI 60)), (.putfield 24, vN, 0, 606, 6, 900005, [(0, 84)]), (.aload_n 0, o0), (.bipush 40, oC (vI 40)), (.newarray .int, oA 611000040), (.putfield 28, vN, 1, 611000040, 11, 900005, [(0, 97)]), (.aload_n 0, o0), (.bipush 40, oC (vI 40)), (.newarray .int, oA 612000040), (.putfield 31, vN, 1, 612000040, 12, 900005, [(0, 98)]), (.aload_n 0, o0), (.bipush 40, oC (vI 40)), (.newarray .int, oA 613000040), (.putfield 34, vN, 1, 613000040, 13, 900005, [(0, 99)]), (.aload_n 0, o0), (.bipush 40, oC (vI 40)), (.newarray .int, oA 614000040), (.putfield 37, vN, 1, 614000040, 14, 900005, [(0, 100)]), (.aload_n 0, o0), (.sipush 300, oC (vI 300)), (.newarray .int, oA 616000300), (.putfield 40, vN, 1, 616000300, 16, 900005, [(0, 103)]), (.aload_n 0, o0), (.getfield 15, vN, 1, 602000004, 2, 900005, [(0, 72)]), (.bipush 60, oC (vI 60)), (.invokestatic 43, vN, 339, 2, 0, 0, [(0, 64)]), (.return_, o0)], 1)]
def C_Law_init : List Nat := []
set_option maxRecDepth 100000 in
def B_Law_clear : List Blk := [(0, [(.aload_n 0, o0), (.iload_n 1, oA 1), (.putfield 49, vN, 0, 600, 0, 900005, [(0, 67)]), (.aload_n 0, o0), (.getfield 9, vN, 1, 601000004, 1, 900005, [(0, 69)]), (.iconst 0, oC (vI 0)), (.invokestatic 43, vN, 339, 2, 0, 0, [(0, 64)]), (.aload_n 0, o0), (.getfield 15, vN, 1, 602000004, 2, 900005, [(0, 72)]), (.bipush 60, oC (vI 60)), (.invokestatic 43, vN, 339, 2, 0, 0, [(0, 64)]), (.aload_n 0, o0), (.getfield 18, vN, 1, 603000004, 3, 900005, [(0, 75)]), (.iconst 0, oC (vI 0)), (.invokestatic 43, vN, 339, 2, 0, 0, [(0, 64)]), (.aload_n 0, o0), (.getfield 21, vN, 1, 604000040, 4, 900005, [(0, 78)]), (.iconst 0, oC (vI 0)), (.invokestatic 43, vN, 339, 2, 0, 0, [(0, 64)]), (.aload_n 0, o0), (.iconst 0, oC (vI 0)), (.putfield 52, vN, 0, 605, 5, 900005, [(0, 81)]), (.aload_n 0, o0), (.bipush 60, oC (vI 60)), (.putfield 24, vN, 0, 606, 6, 900005, [(0, 84)]), (.aload_n 0, o0), (.iconst 0, oC (vI 0)), (.putfield 55, vN, 0, 607, 7, 900005, [(0, 87)]), (.aload_n 0, o0), (.iconst 0, oC (vI 0)), (.putfield 58, vN, 0, 608, 8, 900005, [(0, 90)]), (.aload_n 0, o0), (.iconst 0, oC (vI 0)), (.putfield 61, vN, 0, 609, 9, 900005, [(0, 93)]), (.aload_n 0, o0), (.iconst 0, oC (vI 0)), (.putfield 64, vN, 0, 610, 10, 900005, [(0, 96)]), (.aload_n 0, o0), (.iconst 0, oC (vI 0)), (.putfield 67, vN, 0, 615, 15, 900005, [(0, 101)]), (.return_, o0)], 1)]
def C_Law_clear : List Nat := []
set_option maxRecDepth 100000 in
def B_Law_addRule : List Blk := [(0, [(.aload_n 0, o0), (.getfield 64, vN, 0, 610, 10, 900005, [(0, 96)]), (.bipush 40, oC (vI 40)), (.if_icmp .ge 54, oA 1), (.aload_n 0, o0), (.getfield 28, vN, 1, 611000040, 11, 900005, [(0, 97)]), (.aload_n 0, o0), (.getfield 64, vN, 0, 610, 10, 900005, [(0, 96)]), (.iload_n 1, oA 1), (.iastore, o0), (.aload_n 0, o0), (.getfield 31, vN, 1, 612000040, 12, 900005, [(0, 98)]), (.aload_n 0, o0), (.getfield 64, vN, 0, 610, 10, 900005, [(0, 96)]), (.iload_n 2, oA 2), (.iastore, o0), (.aload_n 0, o0), (.getfield 34, vN, 1, 613000040, 13, 900005, [(0, 99)]), (.aload_n 0, o0), (.getfield 64, vN, 0, 610, 10, 900005, [(0, 96)]), (.iload_n 3, oA 3), (.iastore, o0), (.aload_n 0, o0), (.getfield 37, vN, 1, 614000040, 14, 900005, [(0, 100)]), (.aload_n 0, o0), (.getfield 64, vN, 0, 610, 10, 900005, [(0, 96)]), (.iload 4, oA 4), (.iastore, o0), (.aload_n 0, o0), (.dup, o0), (.getfield 64, vN, 0, 610, 10, 900005, [(0, 96)]), (.iconst 1, oC (vI 1)), (.iadd, o0), (.putfield 64, vN, 0, 610, 10, 900005, [(0, 96)])], 1),
  (60, [(.return_, o0)], 2)]
def C_Law_addRule : List Nat := []
set_option maxRecDepth 100000 in
def B_Law_emit : List Blk := [(0, [(.aload_n 0, o0), (.getfield 67, vN, 0, 615, 15, 900005, [(0, 101)]), (.sipush 300, oC (vI 300)), (.if_icmp .ge 23, oA 1), (.aload_n 0, o0), (.getfield 40, vN, 1, 616000300, 16, 900005, [(0, 103)]), (.aload_n 0, o0), (.getfield 67, vN, 0, 615, 15, 900005, [(0, 101)]), (.iload_n 1, oA 1), (.iastore, o0), (.aload_n 0, o0), (.dup, o0), (.getfield 67, vN, 0, 615, 15, 900005, [(0, 101)]), (.iconst 1, oC (vI 1)), (.iadd, o0), (.putfield 67, vN, 0, 615, 15, 900005, [(0, 101)])], 1),
  (30, [(.return_, o0)], 2)]
def C_Law_emit : List Nat := []
set_option maxRecDepth 100000 in
def B_Law_testOf : List Blk := [(0, [(.iload_n 0, o0), (.iconst 3, oC (vI 3)), (.imul, o0), (.iload_n 1, oA 1), (.iadd, o0), (.sipush 1000, oC (vI 1000)), (.imul, o0), (.iload_n 2, oA 2), (.iadd, o0), (.ireturn, o0)], 1)]
def C_Law_testOf : List Nat := []
set_option maxRecDepth 100000 in
def B_Law_look : List Blk := [(0, [(.iload_n 1, oA 1), (.bipush 10, oC (vI 10)), (.irem, o0), (.istore_n 2, oA 2), (.iload_n 1, oA 1), (.bipush 100, oC (vI 100)), (.if_icmp .lt 36, oA 3), (.iload_n 1, oA 1), (.sipush 200, oC (vI 200)), (.if_icmp .ge 29, oA 3), (.iload_n 2, oA 2), (.iconst 4, oC (vI 4)), (.if_icmp .ge 22, oA 1), (.aload_n 0, o0), (.getfield 21, vN, 1, 604000040, 4, 900005, [(0, 78)]), (.iload_n 1, oA 1), (.bipush 10, oC (vI 10)), (.idiv, o0), (.bipush 10, oC (vI 10)), (.isub, o0), (.iconst 4, oC (vI 4)), (.imul, o0), (.iload_n 2, oA 2), (.iadd, o0), (.iaload, o0), (.goto 4, oA 2)], 1),
  (42, [(.iconst (-1), oC (vI (-1)))], 2),
  (43, [(.ireturn, o0)], 3),
  (44, [(.iload_n 1, oA 1), (.bipush 10, oC (vI 10)), (.if_icmp .lt 53, oA 8), (.iload_n 1, oA 1), (.bipush 40, oC (vI 40)), (.if_icmp .ge 47, oA 8), (.iload_n 2, oA 2), (.iconst 4, oC (vI 4)), (.if_icmp .lt 5, oA 4), (.iconst (-1), oC (vI (-1))), (.ireturn, o0)], 4),
  (63, [(.iload_n 1, oA 1), (.bipush 20, oC (vI 20)), (.if_icmp .ge 12, oA 5), (.aload_n 0, o0), (.getfield 9, vN, 1, 601000004, 1, 900005, [(0, 69)]), (.iload_n 2, oA 2), (.iaload, o0), (.goto 24, oA 7)], 5),
  (78, [(.iload_n 1, oA 1), (.bipush 30, oC (vI 30)), (.if_icmp .ge 12, oA 6), (.aload_n 0, o0), (.getfield 15, vN, 1, 602000004, 2, 900005, [(0, 72)]), (.iload_n 2, oA 2), (.iaload, o0), (.goto 9, oA 7)], 6),
  (93, [(.aload_n 0, o0), (.getfield 18, vN, 1, 603000004, 3, 900005, [(0, 75)]), (.iload_n 2, oA 2), (.iaload, o0)], 7),
  (99, [(.ireturn, o0)], 8),
  (100, [(.iload_n 1, oA 1), (.tableswitch 60 40 44 #[35, 40, 45, 50, 55], vN, 14, 0, 0, 0, [(40, 9), (41, 10), (42, 11), (43, 12), (44, 13)])], 9),
  (136, [(.aload_n 0, o0), (.getfield 52, vN, 0, 605, 5, 900005, [(0, 81)]), (.ireturn, o0)], 10),
  (141, [(.aload_n 0, o0), (.getfield 24, vN, 0, 606, 6, 900005, [(0, 84)]), (.ireturn, o0)], 11),
  (146, [(.aload_n 0, o0), (.getfield 55, vN, 0, 607, 7, 900005, [(0, 87)]), (.ireturn, o0)], 12),
  (151, [(.aload_n 0, o0), (.getfield 58, vN, 0, 608, 8, 900005, [(0, 90)]), (.ireturn, o0)], 13),
  (156, [(.aload_n 0, o0), (.getfield 61, vN, 0, 609, 9, 900005, [(0, 93)]), (.ireturn, o0)], 14),
  (161, [(.iconst (-1), oC (vI (-1))), (.ireturn, o0)], 15)]
def C_Law_look : List Nat := [3]
set_option maxRecDepth 100000 in
def B_Law_busyParts : List Blk := [(0, [(.iconst 0, oC (vI 0)), (.istore_n 2, oA 2), (.iconst 0, oC (vI 0)), (.istore_n 3, oA 3)], 1),
  (4, [(.iload_n 3, oA 3), (.aload_n 0, o0), (.getfield 64, vN, 0, 610, 10, 900005, [(0, 96)]), (.if_icmp .ge 47, oA 3), (.aload_n 0, o0), (.getfield 28, vN, 1, 611000040, 11, 900005, [(0, 97)]), (.iload_n 3, oA 3), (.iaload, o0), (.ifCond .ne 32, oA 2), (.aload_n 0, o0), (.getfield 34, vN, 1, 613000040, 13, 900005, [(0, 99)]), (.iload_n 3, oA 3), (.iaload, o0), (.iload_n 1, oA 1), (.if_icmp .gt 22, oA 2), (.iload_n 1, oA 1), (.aload_n 0, o0), (.getfield 37, vN, 1, 614000040, 14, 900005, [(0, 100)]), (.iload_n 3, oA 3), (.iaload, o0), (.if_icmp .gt 12, oA 2), (.iload_n 2, oA 2), (.aload_n 0, o0), (.getfield 31, vN, 1, 612000040, 12, 900005, [(0, 98)]), (.iload_n 3, oA 3), (.iaload, o0), (.iadd, o0), (.istore_n 2, oA 2)], 2),
  (50, [(.iinc 3 1, vI 1, 3, 0, 0, 0, []), (.goto (-49), oA 1)], 3),
  (56, [(.iload_n 2, oA 2), (.sipush 900, oC (vI 900)), (.invokestatic 70, vN, 337, 2, 1, 0, [(0, 978)]), (.ireturn, o0)], 4)]
def C_Law_busyParts : List Nat := [1]
set_option maxRecDepth 100000 in
def B_Law_harmPart : List Blk := [(0, [(.iconst 0, oC (vI 0)), (.istore_n 2, oA 2)], 1),
  (2, [(.iload_n 2, oA 2), (.aload_n 0, o0), (.getfield 64, vN, 0, 610, 10, 900005, [(0, 96)]), (.if_icmp .ge 46, oA 3), (.aload_n 0, o0), (.getfield 28, vN, 1, 611000040, 11, 900005, [(0, 97)]), (.iload_n 2, oA 2), (.iaload, o0), (.iconst 1, oC (vI 1)), (.if_icmp .ne 30, oA 2), (.aload_n 0, o0), (.aload_n 0, o0), (.getfield 34, vN, 1, 613000040, 13, 900005, [(0, 99)]), (.iload_n 2, oA 2), (.iaload, o0), (.aload_n 0, o0), (.getfield 37, vN, 1, 614000040, 14, 900005, [(0, 100)]), (.iload_n 2, oA 2), (.iaload, o0), (.aload_n 1, oA 1), (.invokevirtual 76, vN, 61, 4, 1, 900005, [(0, 829)]), (.ifCond .eq 10, oA 2), (.aload_n 0, o0), (.getfield 31, vN, 1, 612000040, 12, 900005, [(0, 98)]), (.iload_n 2, oA 2), (.iaload, o0), (.ireturn, o0)], 2),
  (47, [(.iinc 2 1, vI 1, 2, 0, 0, 0, []), (.goto (-48), oA 1)], 3),
  (53, [(.bipush 100, oC (vI 100)), (.ireturn, o0)], 4)]
def C_Law_harmPart : List Nat := [1]
set_option maxRecDepth 100000 in
def B_Law_isShut : List Blk := [(0, [(.iconst 0, oC (vI 0)), (.istore_n 2, oA 2)], 1),
  (2, [(.iload_n 2, oA 2), (.aload_n 0, o0), (.getfield 64, vN, 0, 610, 10, 900005, [(0, 96)]), (.if_icmp .ge 41, oA 3), (.aload_n 0, o0), (.getfield 28, vN, 1, 611000040, 11, 900005, [(0, 97)]), (.iload_n 2, oA 2), (.iaload, o0), (.iconst 2, oC (vI 2)), (.if_icmp .ne 25, oA 2), (.aload_n 0, o0), (.aload_n 0, o0), (.getfield 34, vN, 1, 613000040, 13, 900005, [(0, 99)]), (.iload_n 2, oA 2), (.iaload, o0), (.aload_n 0, o0), (.getfield 37, vN, 1, 614000040, 14, 900005, [(0, 100)]), (.iload_n 2, oA 2), (.iaload, o0), (.aload_n 1, oA 1), (.invokevirtual 76, vN, 61, 4, 1, 900005, [(0, 829)]), (.ifCond .eq 5, oA 2), (.iconst 1, oC (vI 1)), (.ireturn, oA 1)], 2),
  (42, [(.iinc 2 1, vI 1, 2, 0, 0, 0, []), (.goto (-43), oA 1)], 3),
  (48, [(.iconst 0, oC (vI 0)), (.ireturn, oA 1)], 4)]
def C_Law_isShut : List Nat := [1]
set_option maxRecDepth 100000 in
def B_Law_holds : List Blk := [(0, [(.iload_n 1, oA 1), (.iload_n 2, oA 2), (.if_icmp .lt 5, oA 1), (.iconst 1, oC (vI 1)), (.ireturn, oA 1)], 1),
  (7, [(.lconst 0, oC (vL 0)), (.lstore 4, oA 4), (.iload_n 1, oA 1), (.istore 6, oA 6)], 2),
  (13, [(.iload 6, oA 6), (.iload_n 2, oA 2), (.if_icmp .ge 110, oA 10), (.iload 6, oA 6), (.aload_n 0, o0), (.getfield 67, vN, 0, 615, 15, 900005, [(0, 101)]), (.if_icmp .ge 101, oA 10), (.aload_n 0, o0), (.getfield 40, vN, 1, 616000300, 16, 900005, [(0, 103)]), (.iload 6, oA 6), (.iaload, o0), (.istore 7, oA 7), (.iload 7, oA 7), (.ifCond .lt 28, oA 5), (.lload 4, oA 4), (.iconst 1, oC (vI 1)), (.lshl, o0), (.iload 7, oA 7), (.aload_n 3, oA 3), (.invokestatic 80, vN, 62, 2, 1, 0, [(0, 833)]), (.ifCond .eq 7, oA 3), (.iconst 1, oC (vI 1)), (.goto 4, oA 4)], 3),
  (59, [(.iconst 0, oC (vI 0))], 4),
  (60, [(.i2l, o0), (.lor, o0), (.lstore 4, oA 4), (.goto 56, oA 9)], 5),
  (67, [(.iload 7, oA 7), (.iconst (-1), oC (vI (-1))), (.if_icmp .ne 12, oA 6), (.lload 4, oA 4), (.lconst 1, oC (vL 1)), (.lxor, o0), (.lstore 4, oA 4), (.goto 41, oA 9)], 6),
  (82, [(.lload 4, oA 4), (.lconst 1, oC (vL 1)), (.land, o0), (.lstore 8, oA 8), (.lload 4, oA 4), (.iconst 1, oC (vI 1)), (.lushr, o0), (.lstore 4, oA 4), (.iload 7, oA 7), (.bipush (-3), oC (vI (-3))), (.if_icmp .ne 11, oA 7), (.lload 4, oA 4), (.lload 8, oA 8), (.lor, o0), (.goto 12, oA 8)], 7),
  (109, [(.lload 4, oA 4), (.lload 8, oA 8), (.ldc2_w 84, vL (-2), 0, 0, 0, 0, [(0, 836)]), (.lor, o0), (.land, o0)], 8),
  (118, [(.lstore 4, oA 4)], 9),
  (120, [(.iinc 6 1, vI 1, 6, 0, 0, 0, []), (.goto (-110), oA 2)], 10),
  (126, [(.lload 4, oA 4), (.lconst 1, oC (vL 1)), (.land, o0), (.lconst 1, oC (vL 1)), (.lcmp, o0), (.ifCond .ne 7, oA 11), (.iconst 1, oC (vI 1)), (.goto 4, oA 12)], 11),
  (139, [(.iconst 0, oC (vI 0))], 12),
  (140, [(.ireturn, oA 1)], 13)]
def C_Law_holds : List Nat := [2]
set_option maxRecDepth 100000 in
def B_Law_passes : List Blk := [(0, [(.iload_n 0, o0), (.sipush 3000, oC (vI 3000)), (.idiv, o0), (.istore_n 2, oA 2), (.iload_n 2, oA 2), (.aload_n 1, oA 1), (.arraylength, o0), (.if_icmp .lt 5, oA 1), (.iconst 0, oC (vI 0)), (.ireturn, oA 1)], 1),
  (14, [(.iload_n 0, o0), (.sipush 1000, oC (vI 1000)), (.irem, o0), (.istore_n 3, oA 3), (.iload_n 0, o0), (.sipush 1000, oC (vI 1000)), (.idiv, o0), (.iconst 3, oC (vI 3)), (.irem, o0), (.istore 4, oA 4), (.iload 4, oA 4), (.ifCond .ne 18, oA 3), (.aload_n 1, oA 1), (.iload_n 2, oA 2), (.iaload, o0), (.iload_n 3, oA 3), (.if_icmp .ge 7, oA 2), (.iconst 1, oC (vI 1)), (.goto 40, oA 7)], 2),
  (45, [(.iconst 0, oC (vI 0)), (.goto 36, oA 7)], 3),
  (49, [(.iload 4, oA 4), (.iconst 1, oC (vI 1)), (.if_icmp .ne 18, oA 5), (.aload_n 1, oA 1), (.iload_n 2, oA 2), (.iaload, o0), (.iload_n 3, oA 3), (.if_icmp .ne 7, oA 4), (.iconst 1, oC (vI 1)), (.goto 19, oA 7)], 4),
  (66, [(.iconst 0, oC (vI 0)), (.goto 15, oA 7)], 5),
  (70, [(.aload_n 1, oA 1), (.iload_n 2, oA 2), (.iaload, o0), (.iload_n 3, oA 3), (.if_icmp .le 7, oA 6), (.iconst 1, oC (vI 1)), (.goto 4, oA 7)], 6),
  (81, [(.iconst 0, oC (vI 0))], 7),
  (82, [(.ireturn, oA 1)], 8)]
def C_Law_passes : List Nat := []
set_option maxRecDepth 100000 in
def B_Reader_init : List Blk := [(0, [(.aload_n 0, o0), (.invokespecial 3, vN, 901, 0, 0, 0, [(0, 35)]), (.aload_n 0, o0), (.sipush 900, oC (vI 900)), (.newarray .int, oA 700000900), (.putfield 11, vN, 1, 700000900, 0, 900006, [(0, 36)]), (.aload_n 0, o0), (.sipush 901, oC (vI 901)), (.newarray .int, oA 702000901), (.putfield 15, vN, 1, 702000901, 2, 900006, [(0, 39)]), (.aload_n 0, o0), (.sipush 901, oC (vI 901)), (.newarray .int, oA 703000901), (.putfield 18, vN, 1, 703000901, 3, 900006, [(0, 40)]), (.return_, o0)], 1)]
def C_Reader_init : List Nat := []
set_option maxRecDepth 100000 in
def B_Reader_hasRoom : List Blk := [(0, [(.aload_n 0, o0), (.getfield 21, vN, 0, 701, 1, 900006, [(0, 37)]), (.iload_n 1, oA 1), (.iadd, o0), (.sipush 900, oC (vI 900)), (.if_icmp .gt 7, oA 1), (.iconst 1, oC (vI 1)), (.goto 4, oA 2)], 1),
  (16, [(.iconst 0, oC (vI 0))], 2),
  (17, [(.ireturn, oA 1)], 3)]
def C_Reader_hasRoom : List Nat := []
set_option maxRecDepth 100000 in
def B_Reader_append : List Blk := [(0, [(.bipush 24, oC (vI 24)), (.istore_n 2, oA 2)], 1),
  (3, [(.iload_n 2, oA 2), (.ifCond .lt 45, oA 2), (.aload_n 0, o0), (.getfield 21, vN, 0, 701, 1, 900006, [(0, 37)]), (.sipush 900, oC (vI 900)), (.if_icmp .ge 35, oA 2), (.aload_n 0, o0), (.getfield 11, vN, 1, 700000900, 0, 900006, [(0, 36)]), (.aload_n 0, o0), (.getfield 21, vN, 0, 701, 1, 900006, [(0, 37)]), (.iload_n 1, oA 1), (.iload_n 2, oA 2), (.ishr, o0), (.sipush 255, oC (vI 255)), (.iand, o0), (.iastore, o0), (.aload_n 0, o0), (.dup, o0), (.getfield 21, vN, 0, 701, 1, 900006, [(0, 37)]), (.iconst 1, oC (vI 1)), (.iadd, o0), (.putfield 21, vN, 0, 701, 1, 900006, [(0, 37)]), (.iinc 2 (-8), vI (-8), 2, 0, 0, 0, []), (.goto (-43), oA 1)], 2),
  (49, [(.return_, o0)], 3)]
def C_Reader_append : List Nat := [1]
set_option maxRecDepth 100000 in
def B_Reader_read : List Blk := [(0, [(.aload_n 0, o0), (.iload_n 1, oA 1), (.aload_n 0, o0), (.getfield 21, vN, 0, 701, 1, 900006, [(0, 37)]), (.invokestatic 25, vN, 337, 2, 1, 0, [(0, 577)]), (.invokevirtual 31, vN, 67, 2, 0, 900006, [(0, 580)]), (.aload_n 0, o0), (.iconst 0, oC (vI 0)), (.putfield 35, vN, 0, 704, 4, 900006, [(0, 41)]), (.aload_n 0, o0), (.iconst (-1), oC (vI (-1))), (.putfield 38, vN, 0, 705, 5, 900006, [(0, 42)]), (.iconst 0, oC (vI 0)), (.istore_n 3, oA 3)], 1),
  (24, [(.iload_n 3, oA 3), (.bipush 40, oC (vI 40)), (.if_icmp .ge 41, oA 2), (.aload_n 0, o0), (.getfield 38, vN, 0, 705, 5, 900006, [(0, 42)]), (.iconst (-1), oC (vI (-1))), (.if_icmp .ne 33, oA 2), (.aload_n 0, o0), (.getfield 15, vN, 1, 702000901, 2, 900006, [(0, 39)]), (.aload_n 0, o0), (.getfield 35, vN, 0, 704, 4, 900006, [(0, 41)]), (.iaload, o0), (.iconst (-1), oC (vI (-1))), (.if_icmp .eq 20, oA 2), (.aload_n 0, o0), (.aload_n 2, oA 2), (.invokevirtual 43, vN, 79, 2, 0, 900006, [(0, 657)]), (.aload_n 0, o0), (.bipush 59, oC (vI 59)), (.invokevirtual 47, vN, 77, 2, 0, 900006, [(0, 661)]), (.iinc 3 1, vI 1, 3, 0, 0, 0, []), (.goto (-41), oA 1)], 2),
  (68, [(.aload_n 0, o0), (.iconst (-1), oC (vI (-1))), (.invokevirtual 47, vN, 77, 2, 0, 900006, [(0, 661)]), (.aload_n 0, o0), (.iconst 0, oC (vI 0)), (.putfield 21, vN, 0, 701, 1, 900006, [(0, 37)]), (.aload_n 0, o0), (.getfield 38, vN, 0, 705, 5, 900006, [(0, 42)]), (.ireturn, o0)], 3)]
def C_Reader_read : List Nat := [1]
set_option maxRecDepth 100000 in
def B_Reader_scan : List Blk := [(0, [(.iconst 0, oC (vI 0)), (.istore_n 2, oA 2), (.iconst 0, oC (vI 0)), (.istore_n 3, oA 3), (.iconst 0, oC (vI 0)), (.istore 4, oA 4)], 1),
  (7, [(.iload 4, oA 4), (.sipush 900, oC (vI 900)), (.if_icmp .ge 66, oA 4), (.iload_n 3, oA 3), (.iload_n 1, oA 1), (.if_icmp .ge 61, oA 4), (.aload_n 0, o0), (.getfield 11, vN, 1, 700000900, 0, 900006, [(0, 36)]), (.iload_n 3, oA 3), (.iaload, o0), (.invokestatic 50, vN, 68, 1, 1, 0, [(0, 584)]), (.ifCond .eq 9, oA 2), (.iinc 3 1, vI 1, 3, 0, 0, 0, []), (.goto 37, oA 3)], 2),
  (38, [(.aload_n 0, o0), (.iload_n 3, oA 3), (.iload_n 1, oA 1), (.invokevirtual 54, vN, 72, 3, 1, 900006, [(0, 587)]), (.istore 5, oA 5), (.aload_n 0, o0), (.getfield 18, vN, 1, 703000901, 3, 900006, [(0, 40)]), (.iload_n 2, oA 2), (.iload_n 3, oA 3), (.iastore, o0), (.aload_n 0, o0), (.getfield 15, vN, 1, 702000901, 2, 900006, [(0, 39)]), (.iload_n 2, oA 2), (.aload_n 0, o0), (.iload_n 3, oA 3), (.iload 5, oA 5), (.invokevirtual 57, vN, 73, 3, 1, 900006, [(0, 597)]), (.iastore, o0), (.iinc 2 1, vI 1, 2, 0, 0, 0, []), (.iload 5, oA 5), (.istore_n 3, oA 3)], 3),
  (72, [(.iinc 4 1, vI 1, 4, 0, 0, 0, []), (.goto (-68), oA 1)], 4),
  (78, [(.aload_n 0, o0), (.getfield 15, vN, 1, 702000901, 2, 900006, [(0, 39)]), (.iload_n 2, oA 2), (.iconst (-1), oC (vI (-1))), (.iastore, o0), (.aload_n 0, o0), (.getfield 18, vN, 1, 703000901, 3, 900006, [(0, 40)]), (.iload_n 2, oA 2), (.iload_n 1, oA 1), (.iastore, o0), (.return_, o0)], 5)]
def C_Reader_scan : List Nat := [1]
set_option maxRecDepth 100000 in
def B_Reader_isBlank : List Blk := [(0, [(.iload_n 0, o0), (.bipush 32, oC (vI 32)), (.if_icmp .eq 9, oA 1), (.iload_n 0, o0), (.bipush 10, oC (vI 10)), (.if_icmp .ne 7, oA 2)], 1),
  (12, [(.iconst 1, oC (vI 1)), (.goto 4, oA 3)], 2),
  (16, [(.iconst 0, oC (vI 0))], 3),
  (17, [(.ireturn, oA 1)], 4)]
def C_Reader_isBlank : List Nat := []
set_option maxRecDepth 100000 in
def B_Reader_isLetter : List Blk := [(0, [(.iload_n 0, o0), (.bipush 97, oC (vI 97)), (.if_icmp .lt 13, oA 1), (.iload_n 0, o0), (.bipush 122, oC (vI 122)), (.if_icmp .gt 7, oA 1), (.iconst 1, oC (vI 1)), (.goto 4, oA 2)], 1),
  (16, [(.iconst 0, oC (vI 0))], 2),
  (17, [(.ireturn, oA 1)], 3)]
def C_Reader_isLetter : List Nat := []
set_option maxRecDepth 100000 in
def B_Reader_isDigit : List Blk := [(0, [(.iload_n 0, o0), (.bipush 48, oC (vI 48)), (.if_icmp .lt 13, oA 1), (.iload_n 0, o0), (.bipush 57, oC (vI 57)), (.if_icmp .gt 7, oA 1), (.iconst 1, oC (vI 1)), (.goto 4, oA 2)], 1),
  (16, [(.iconst 0, oC (vI 0))], 2),
  (17, [(.ireturn, oA 1)], 3)]
def C_Reader_isDigit : List Nat := []
set_option maxRecDepth 100000 in
def B_Reader_isComparison : List Blk := [(0, [(.iload_n 0, o0), (.bipush 60, oC (vI 60)), (.if_icmp .eq 15, oA 1), (.iload_n 0, o0), (.bipush 61, oC (vI 61)), (.if_icmp .eq 9, oA 1), (.iload_n 0, o0), (.bipush 62, oC (vI 62)), (.if_icmp .ne 7, oA 2)], 1),
  (18, [(.iconst 1, oC (vI 1)), (.goto 4, oA 3)], 2),
  (22, [(.iconst 0, oC (vI 0))], 3),
  (23, [(.ireturn, oA 1)], 4)]
def C_Reader_isComparison : List Nat := []
set_option maxRecDepth 100000 in
def B_Reader_tokenEnd : List Blk := [(0, [(.aload_n 0, o0), (.getfield 11, vN, 1, 700000900, 0, 900006, [(0, 36)]), (.iload_n 1, oA 1), (.iaload, o0), (.invokestatic 60, vN, 69, 1, 1, 0, [(0, 591)]), (.istore_n 3, oA 3), (.aload_n 0, o0), (.getfield 11, vN, 1, 700000900, 0, 900006, [(0, 36)]), (.iload_n 1, oA 1), (.iaload, o0), (.invokestatic 63, vN, 70, 1, 1, 0, [(0, 594)]), (.istore 4, oA 4), (.iload_n 1, oA 1), (.iconst 1, oC (vI 1)), (.iadd, o0), (.istore 5, oA 5)], 1),
  (26, [(.iload 5, oA 5), (.iload_n 2, oA 2), (.if_icmp .ge 59, oA 7), (.iload_n 3, oA 3), (.ifCond .eq 16, oA 2), (.aload_n 0, o0), (.getfield 11, vN, 1, 700000900, 0, 900006, [(0, 36)]), (.iload 5, oA 5), (.iaload, o0), (.invokestatic 60, vN, 69, 1, 1, 0, [(0, 591)]), (.ifCond .ne 21, oA 3)], 2),
  (49, [(.iload 4, oA 4), (.ifCond .eq 20, oA 4), (.aload_n 0, o0), (.getfield 11, vN, 1, 700000900, 0, 900006, [(0, 36)]), (.iload 5, oA 5), (.iaload, o0), (.invokestatic 63, vN, 70, 1, 1, 0, [(0, 594)]), (.ifCond .eq 7, oA 4)], 3),
  (67, [(.iconst 1, oC (vI 1)), (.goto 4, oA 5)], 4),
  (71, [(.iconst 0, oC (vI 0))], 5),
  (72, [(.istore 6, oA 6), (.iload 6, oA 6), (.ifCond .ne 6, oA 6), (.iload 5, oA 5), (.ireturn, o0)], 6),
  (82, [(.iinc 5 1, vI 1, 5, 0, 0, 0, []), (.goto (-59), oA 1)], 7),
  (88, [(.iload_n 2, oA 2), (.ireturn, o0)], 8)]
def C_Reader_tokenEnd : List Nat := [1]
set_option maxRecDepth 100000 in
def B_Reader_tokenOf : List Blk := [(0, [(.aload_n 0, o0), (.getfield 11, vN, 1, 700000900, 0, 900006, [(0, 36)]), (.iload_n 1, oA 1), (.iaload, o0), (.istore_n 3, oA 3), (.iload_n 3, oA 3), (.invokestatic 63, vN, 70, 1, 1, 0, [(0, 594)]), (.ifCond .eq 10, oA 1), (.aload_n 0, o0), (.iload_n 1, oA 1), (.iload_n 2, oA 2), (.invokevirtual 66, vN, 76, 3, 1, 900006, [(0, 601)]), (.ireturn, o0)], 1),
  (21, [(.iload_n 3, oA 3), (.invokestatic 60, vN, 69, 1, 1, 0, [(0, 591)]), (.ifCond .eq 10, oA 2), (.aload_n 0, o0), (.iload_n 1, oA 1), (.iload_n 2, oA 2), (.invokevirtual 69, vN, 74, 3, 1, 900006, [(0, 605)]), (.ireturn, o0)], 2),
  (35, [(.iload_n 3, oA 3), (.bipush 59, oC (vI 59)), (.if_icmp .eq 22, oA 3), (.iload_n 3, oA 3), (.bipush 40, oC (vI 40)), (.if_icmp .eq 16, oA 3), (.iload_n 3, oA 3), (.bipush 41, oC (vI 41)), (.if_icmp .eq 10, oA 3), (.iload_n 3, oA 3), (.invokestatic 72, vN, 71, 1, 1, 0, [(0, 654)]), (.ifCond .eq 7, oA 4)], 3),
  (60, [(.iload_n 3, oA 3), (.goto 5, oA 5)], 4),
  (64, [(.bipush (-2), oC (vI (-2)))], 5),
  (66, [(.ireturn, o0)], 6)]
def C_Reader_tokenOf : List Nat := []
set_option maxRecDepth 100000 in
def B_Reader_slotOf : List Blk := [(0, [(.iload_n 2, oA 2), (.iload_n 1, oA 1), (.isub, o0), (.bipush 8, oC (vI 8)), (.if_icmp .lt 6, oA 1), (.bipush (-2), oC (vI (-2))), (.ireturn, o0)], 1),
  (11, [(.iconst 0, oC (vI 0)), (.istore_n 3, oA 3)], 2),
  (13, [(.iload_n 3, oA 3), (.bipush 23, oC (vI 23)), (.if_icmp .ge 21, oA 4), (.aload_n 0, o0), (.iload_n 3, oA 3), (.iload_n 1, oA 1), (.iload_n 2, oA 2), (.invokevirtual 75, vN, 75, 4, 1, 900006, [(0, 609)]), (.ifCond .eq 5, oA 3), (.iload_n 3, oA 3), (.ireturn, o0)], 3),
  (31, [(.iinc 3 1, vI 1, 3, 0, 0, 0, []), (.goto (-21), oA 2)], 4),
  (37, [(.bipush (-2), oC (vI (-2))), (.ireturn, o0)], 5)]
def C_Reader_slotOf : List Nat := [2]
set_option maxRecDepth 100000 in
def B_Reader_isInSlot : List Blk := [(0, [(.iconst 0, oC (vI 0)), (.istore 4, oA 4)], 1),
  (3, [(.iload 4, oA 4), (.bipush 8, oC (vI 8)), (.if_icmp .ge 52, oA 5), (.iload_n 2, oA 2), (.iload 4, oA 4), (.iadd, o0), (.iload_n 3, oA 3), (.if_icmp .ge 15, oA 2), (.aload_n 0, o0), (.getfield 11, vN, 1, 700000900, 0, 900006, [(0, 36)]), (.iload_n 2, oA 2), (.iload 4, oA 4), (.iadd, o0), (.iaload, o0), (.goto 5, oA 3)], 2),
  (30, [(.bipush 32, oC (vI 32))], 3),
  (32, [(.istore 5, oA 5), (.ldc 79, vR 98 0, 1, 0, 0, 0, [(0, 613)]), (.iload_n 1, oA 1), (.bipush 8, oC (vI 8)), (.imul, o0), (.iload 4, oA 4), (.iadd, o0), (.invokevirtual 81, vN, 902, 2, 1, 98, [(0, 614)]), (.iload 5, oA 5), (.if_icmp .eq 5, oA 4), (.iconst 0, oC (vI 0)), (.ireturn, oA 1)], 4),
  (53, [(.iinc 4 1, vI 1, 4, 0, 0, 0, []), (.goto (-53), oA 1)], 5),
  (59, [(.iconst 1, oC (vI 1)), (.ireturn, oA 1)], 6)]
def C_Reader_isInSlot : List Nat := [1]
set_option maxRecDepth 100000 in
def B_Reader_numberOf : List Blk := [(0, [(.iload_n 2, oA 2), (.iload_n 1, oA 1), (.isub, o0), (.iconst 3, oC (vI 3)), (.if_icmp .le 6, oA 1), (.bipush (-2), oC (vI (-2))), (.ireturn, o0)], 1),
  (10, [(.iconst 0, oC (vI 0)), (.istore_n 3, oA 3), (.iload_n 1, oA 1), (.istore 4, oA 4)], 2),
  (15, [(.iload 4, oA 4), (.iload_n 2, oA 2), (.if_icmp .ge 25, oA 3), (.iload_n 3, oA 3), (.bipush 10, oC (vI 10)), (.imul, o0), (.aload_n 0, o0), (.getfield 11, vN, 1, 700000900, 0, 900006, [(0, 36)]), (.iload 4, oA 4), (.iaload, o0), (.iadd, o0), (.bipush 48, oC (vI 48)), (.isub, o0), (.istore_n 3, oA 3), (.iinc 4 1, vI 1, 4, 0, 0, 0, []), (.goto (-25), oA 2)], 3),
  (43, [(.sipush 1000, oC (vI 1000)), (.iload_n 3, oA 3), (.iadd, o0), (.ireturn, o0)], 4)]
def C_Reader_numberOf : List Nat := [2]
set_option maxRecDepth 100000 in
def B_Reader_take : List Blk := [(0, [(.aload_n 0, o0), (.getfield 38, vN, 0, 705, 5, 900006, [(0, 42)]), (.iconst (-1), oC (vI (-1))), (.if_icmp .ne 32, oA 1), (.aload_n 0, o0), (.getfield 15, vN, 1, 702000901, 2, 900006, [(0, 39)]), (.aload_n 0, o0), (.getfield 35, vN, 0, 704, 4, 900006, [(0, 41)]), (.iaload, o0), (.iload_n 1, oA 1), (.if_icmp .eq 19, oA 1), (.aload_n 0, o0), (.aload_n 0, o0), (.getfield 18, vN, 1, 703000901, 3, 900006, [(0, 40)]), (.aload_n 0, o0), (.getfield 35, vN, 0, 704, 4, 900006, [(0, 41)]), (.iaload, o0), (.putfield 38, vN, 0, 705, 5, 900006, [(0, 42)]), (.goto 26, oA 2)], 1),
  (37, [(.aload_n 0, o0), (.getfield 38, vN, 0, 705, 5, 900006, [(0, 42)]), (.iconst (-1), oC (vI (-1))), (.if_icmp .ne 18, oA 2), (.iload_n 1, oA 1), (.iconst (-1), oC (vI (-1))), (.if_icmp .eq 13, oA 2), (.aload_n 0, o0), (.dup, o0), (.getfield 35, vN, 0, 704, 4, 900006, [(0, 41)]), (.iconst 1, oC (vI 1)), (.iadd, o0), (.putfield 35, vN, 0, 704, 4, 900006, [(0, 41)])], 2),
  (60, [(.return_, o0)], 3)]
def C_Reader_take : List Nat := []
set_option maxRecDepth 100000 in
def B_Reader_takeNumber : List Blk := [(0, [(.aload_n 0, o0), (.getfield 15, vN, 1, 702000901, 2, 900006, [(0, 39)]), (.aload_n 0, o0), (.getfield 35, vN, 0, 704, 4, 900006, [(0, 41)]), (.iaload, o0), (.sipush 1000, oC (vI 1000)), (.isub, o0), (.istore_n 3, oA 3), (.iload_n 3, oA 3), (.iload_n 1, oA 1), (.if_icmp .lt 12, oA 1), (.iload_n 3, oA 3), (.iload_n 2, oA 2), (.if_icmp .gt 7, oA 1), (.iconst 1, oC (vI 1)), (.goto 4, oA 2)], 1),
  (28, [(.iconst 0, oC (vI 0))], 2),
  (29, [(.istore 4, oA 4), (.aload_n 0, o0), (.iload 4, oA 4), (.ifCond .eq 15, oA 3), (.aload_n 0, o0), (.getfield 15, vN, 1, 702000901, 2, 900006, [(0, 39)]), (.aload_n 0, o0), (.getfield 35, vN, 0, 704, 4, 900006, [(0, 41)]), (.iaload, o0), (.goto 5, oA 4)], 3),
  (49, [(.bipush (-3), oC (vI (-3)))], 4),
  (51, [(.invokevirtual 47, vN, 77, 2, 0, 900006, [(0, 661)]), (.iload 4, oA 4), (.ifCond .eq 7, oA 5), (.iload_n 3, oA 3), (.goto 4, oA 6)], 5),
  (63, [(.iload_n 1, oA 1)], 6),
  (64, [(.ireturn, o0)], 7)]
def C_Reader_takeNumber : List Nat := []
set_option maxRecDepth 100000 in
def B_Reader_readRule : List Blk := [(0, [(.aload_n 0, o0), (.getfield 15, vN, 1, 702000901, 2, 900006, [(0, 39)]), (.aload_n 0, o0), (.getfield 35, vN, 0, 704, 4, 900006, [(0, 41)]), (.iaload, o0), (.istore_n 2, oA 2), (.iload_n 2, oA 2), (.iconst 1, oC (vI 1)), (.if_icmp .eq 15, oA 1), (.iload_n 2, oA 2), (.bipush 8, oC (vI 8)), (.if_icmp .lt 13, oA 2), (.iload_n 2, oA 2), (.bipush 15, oC (vI 15)), (.if_icmp .gt 7, oA 2)], 1),
  (27, [(.iconst 1, oC (vI 1)), (.goto 4, oA 3)], 2),
  (31, [(.iconst 0, oC (vI 0))], 3),
  (32, [(.istore_n 3, oA 3), (.aload_n 0, o0), (.iload_n 3, oA 3), (.ifCond .eq 7, oA 4), (.iload_n 2, oA 2), (.goto 5, oA 5)], 4),
  (42, [(.bipush (-3), oC (vI (-3)))], 5),
  (44, [(.invokevirtual 47, vN, 77, 2, 0, 900006, [(0, 661)]), (.iload_n 2, oA 2), (.tableswitch 161 1 15 #[108, 161, 161, 161, 161, 161, 161, 76, 84, 92, 100, 122, 130, 145, 153], vN, 15, 0, 0, 0, [(1, 10), (2, 15), (3, 15), (4, 15), (5, 15), (6, 15), (7, 15), (8, 6), (9, 7), (10, 8), (11, 9), (12, 11), (13, 12), (14, 13), (15, 14)])], 6),
  (124, [(.aload_n 0, o0), (.aload_n 1, oA 1), (.invokevirtual 87, vN, 80, 2, 0, 900006, [(0, 665)]), (.goto 80, oA 15)], 7),
  (132, [(.aload_n 0, o0), (.aload_n 1, oA 1), (.invokevirtual 90, vN, 81, 2, 0, 900006, [(0, 673)]), (.goto 72, oA 15)], 8),
  (140, [(.aload_n 0, o0), (.aload_n 1, oA 1), (.invokevirtual 93, vN, 82, 2, 0, 900006, [(0, 681)]), (.goto 64, oA 15)], 9),
  (148, [(.aload_n 0, o0), (.aload_n 1, oA 1), (.invokevirtual 96, vN, 83, 2, 0, 900006, [(0, 685)]), (.goto 56, oA 15)], 10),
  (156, [(.aload_n 1, oA 1), (.aload_n 0, o0), (.iconst 0, oC (vI 0)), (.bipush 100, oC (vI 100)), (.invokevirtual 99, vN, 78, 3, 1, 900006, [(0, 669)]), (.putfield 102, vN, 0, 608, 8, 900005, [(0, 92)]), (.goto 42, oA 15)], 11),
  (170, [(.aload_n 0, o0), (.aload_n 1, oA 1), (.invokevirtual 105, vN, 84, 2, 0, 900006, [(0, 689)]), (.goto 34, oA 15)], 12),
  (178, [(.aload_n 1, oA 1), (.aload_n 0, o0), (.iconst 0, oC (vI 0)), (.sipush 999, oC (vI 999)), (.invokevirtual 99, vN, 78, 3, 1, 900006, [(0, 669)]), (.putfield 108, vN, 0, 609, 9, 900005, [(0, 95)]), (.goto 19, oA 15)], 13),
  (193, [(.aload_n 0, o0), (.aload_n 1, oA 1), (.invokevirtual 111, vN, 85, 2, 0, 900006, [(0, 693)]), (.goto 11, oA 15)], 14),
  (201, [(.aload_n 0, o0), (.aload_n 1, oA 1), (.invokevirtual 114, vN, 86, 2, 0, 900006, [(0, 716)]), (.goto 3, oA 15)], 15),
  (209, [(.return_, o0)], 16)]
def C_Reader_readRule : List Nat := [5]
set_option maxRecDepth 100000 in
def B_Reader_readPrice : List Blk := [(0, [(.aload_n 0, o0), (.iconst 0, oC (vI 0)), (.iconst 3, oC (vI 3)), (.invokevirtual 99, vN, 78, 3, 1, 900006, [(0, 669)]), (.istore_n 2, oA 2), (.aload_n 1, oA 1), (.getfield 117, vN, 1, 601000004, 1, 900005, [(0, 71)]), (.iload_n 2, oA 2), (.aload_n 0, o0), (.iconst 0, oC (vI 0)), (.sipush 999, oC (vI 999)), (.invokevirtual 99, vN, 78, 3, 1, 900006, [(0, 669)]), (.iastore, o0), (.aload_n 0, o0), (.bipush 16, oC (vI 16)), (.invokevirtual 47, vN, 77, 2, 0, 900006, [(0, 661)]), (.aload_n 1, oA 1), (.getfield 120, vN, 1, 602000004, 2, 900005, [(0, 74)]), (.iload_n 2, oA 2), (.aload_n 0, o0), (.iconst 1, oC (vI 1)), (.sipush 240, oC (vI 240)), (.invokevirtual 99, vN, 78, 3, 1, 900006, [(0, 669)]), (.iastore, o0), (.return_, o0)], 1)]
def C_Reader_readPrice : List Nat := []
set_option maxRecDepth 100000 in
def B_Reader_readBusy : List Blk := [(0, [(.aload_n 0, o0), (.iconst 0, oC (vI 0)), (.sipush 719, oC (vI 719)), (.invokevirtual 99, vN, 78, 3, 1, 900006, [(0, 669)]), (.istore_n 2, oA 2), (.aload_n 0, o0), (.bipush 17, oC (vI 17)), (.invokevirtual 47, vN, 77, 2, 0, 900006, [(0, 661)]), (.aload_n 0, o0), (.iload_n 2, oA 2), (.sipush 719, oC (vI 719)), (.invokevirtual 99, vN, 78, 3, 1, 900006, [(0, 669)]), (.istore_n 3, oA 3), (.aload_n 1, oA 1), (.iconst 0, oC (vI 0)), (.aload_n 0, o0), (.iconst 0, oC (vI 0)), (.bipush 100, oC (vI 100)), (.invokevirtual 99, vN, 78, 3, 1, 900006, [(0, 669)]), (.iload_n 2, oA 2), (.iload_n 3, oA 3), (.invokevirtual 123, vN, 54, 5, 0, 900005, [(0, 677)]), (.return_, o0)], 1)]
def C_Reader_readBusy : List Nat := []
set_option maxRecDepth 100000 in
def B_Reader_readDeposit : List Blk := [(0, [(.aload_n 0, o0), (.iconst 0, oC (vI 0)), (.iconst 3, oC (vI 3)), (.invokevirtual 99, vN, 78, 3, 1, 900006, [(0, 669)]), (.istore_n 2, oA 2), (.aload_n 1, oA 1), (.getfield 127, vN, 1, 603000004, 3, 900005, [(0, 77)]), (.iload_n 2, oA 2), (.aload_n 0, o0), (.iconst 0, oC (vI 0)), (.sipush 999, oC (vI 999)), (.invokevirtual 99, vN, 78, 3, 1, 900006, [(0, 669)]), (.iastore, o0), (.return_, o0)], 1)]
def C_Reader_readDeposit : List Nat := []
set_option maxRecDepth 100000 in
def B_Reader_readLate : List Blk := [(0, [(.aload_n 1, oA 1), (.aload_n 0, o0), (.iconst 0, oC (vI 0)), (.sipush 999, oC (vI 999)), (.invokevirtual 99, vN, 78, 3, 1, 900006, [(0, 669)]), (.putfield 130, vN, 0, 605, 5, 900005, [(0, 83)]), (.aload_n 0, o0), (.bipush 16, oC (vI 16)), (.invokevirtual 47, vN, 77, 2, 0, 900006, [(0, 661)]), (.aload_n 1, oA 1), (.aload_n 0, o0), (.iconst 1, oC (vI 1)), (.sipush 240, oC (vI 240)), (.invokevirtual 99, vN, 78, 3, 1, 900006, [(0, 669)]), (.putfield 133, vN, 0, 606, 6, 900005, [(0, 86)]), (.aload_n 0, o0), (.bipush 18, oC (vI 18)), (.invokevirtual 47, vN, 77, 2, 0, 900006, [(0, 661)]), (.aload_n 1, oA 1), (.aload_n 0, o0), (.iconst 0, oC (vI 0)), (.sipush 240, oC (vI 240)), (.invokevirtual 99, vN, 78, 3, 1, 900006, [(0, 669)]), (.putfield 136, vN, 0, 607, 7, 900005, [(0, 89)]), (.return_, o0)], 1)]
def C_Reader_readLate : List Nat := []
set_option maxRecDepth 100000 in
def B_Reader_readRight : List Blk := [(0, [(.aload_n 0, o0), (.iconst 0, oC (vI 0)), (.bipush 9, oC (vI 9)), (.invokevirtual 99, vN, 78, 3, 1, 900006, [(0, 669)]), (.istore_n 2, oA 2), (.aload_n 0, o0), (.iconst 0, oC (vI 0)), (.iconst 3, oC (vI 3)), (.invokevirtual 99, vN, 78, 3, 1, 900006, [(0, 669)]), (.istore_n 3, oA 3), (.aload_n 1, oA 1), (.getfield 139, vN, 1, 604000040, 4, 900005, [(0, 80)]), (.iload_n 2, oA 2), (.iconst 4, oC (vI 4)), (.imul, o0), (.iload_n 3, oA 3), (.iadd, o0), (.aload_n 0, o0), (.iconst 1, oC (vI 1)), (.sipush 240, oC (vI 240)), (.invokevirtual 99, vN, 78, 3, 1, 900006, [(0, 669)]), (.iastore, o0), (.return_, o0)], 1)]
def C_Reader_readRight : List Nat := []
set_option maxRecDepth 100000 in
def B_Reader_readHarm : List Blk := [(0, [(.aload_n 0, o0), (.iconst 0, oC (vI 0)), (.bipush 100, oC (vI 100)), (.invokevirtual 99, vN, 78, 3, 1, 900006, [(0, 669)]), (.istore_n 2, oA 2), (.aload_n 1, oA 1), (.getfield 142, vN, 0, 615, 15, 900005, [(0, 102)]), (.istore_n 3, oA 3), (.aload_n 0, o0), (.getfield 15, vN, 1, 702000901, 2, 900006, [(0, 39)]), (.aload_n 0, o0), (.getfield 35, vN, 0, 704, 4, 900006, [(0, 41)]), (.iaload, o0), (.bipush 19, oC (vI 19)), (.if_icmp .ne 15, oA 1), (.aload_n 0, o0), (.bipush 19, oC (vI 19)), (.invokevirtual 47, vN, 77, 2, 0, 900006, [(0, 661)]), (.aload_n 0, o0), (.aload_n 1, oA 1), (.iconst 0, oC (vI 0)), (.invokevirtual 145, vN, 87, 3, 0, 900006, [(0, 697)])], 1),
  (39, [(.aload_n 1, oA 1), (.iconst 1, oC (vI 1)), (.iload_n 2, oA 2), (.iload_n 3, oA 3), (.aload_n 1, oA 1), (.getfield 142, vN, 0, 615, 15, 900005, [(0, 102)]), (.invokevirtual 123, vN, 54, 5, 0, 900005, [(0, 677)]), (.return_, o0)], 2)]
def C_Reader_readHarm : List Nat := []
set_option maxRecDepth 100000 in
def B_Reader_readShut : List Blk := [(0, [(.aload_n 1, oA 1), (.getfield 142, vN, 0, 615, 15, 900005, [(0, 102)]), (.istore_n 2, oA 2), (.aload_n 0, o0), (.bipush 19, oC (vI 19)), (.invokevirtual 47, vN, 77, 2, 0, 900006, [(0, 661)]), (.aload_n 0, o0), (.aload_n 1, oA 1), (.iconst 0, oC (vI 0)), (.invokevirtual 145, vN, 87, 3, 0, 900006, [(0, 697)]), (.aload_n 1, oA 1), (.iconst 2, oC (vI 2)), (.iconst 0, oC (vI 0)), (.iload_n 2, oA 2), (.aload_n 1, oA 1), (.getfield 142, vN, 0, 615, 15, 900005, [(0, 102)]), (.invokevirtual 123, vN, 54, 5, 0, 900005, [(0, 677)]), (.return_, o0)], 1)]
def C_Reader_readShut : List Nat := []
set_option maxRecDepth 100000 in
def B_Reader_readAny : List Blk := [(0, [(.aload_n 0, o0), (.aload_n 1, oA 1), (.iload_n 2, oA 2), (.invokevirtual 149, vN, 88, 3, 0, 900006, [(0, 701)]), (.iconst 0, oC (vI 0)), (.istore_n 3, oA 3)], 1),
  (8, [(.iload_n 3, oA 3), (.sipush 900, oC (vI 900)), (.if_icmp .ge 49, oA 2), (.aload_n 0, o0), (.getfield 38, vN, 0, 705, 5, 900006, [(0, 42)]), (.iconst (-1), oC (vI (-1))), (.if_icmp .ne 41, oA 2), (.aload_n 0, o0), (.getfield 15, vN, 1, 702000901, 2, 900006, [(0, 39)]), (.aload_n 0, o0), (.getfield 35, vN, 0, 704, 4, 900006, [(0, 41)]), (.iaload, o0), (.bipush 20, oC (vI 20)), (.if_icmp .ne 27, oA 2), (.aload_n 0, o0), (.bipush 20, oC (vI 20)), (.invokevirtual 47, vN, 77, 2, 0, 900006, [(0, 661)]), (.aload_n 0, o0), (.aload_n 1, oA 1), (.iload_n 2, oA 2), (.invokevirtual 149, vN, 88, 3, 0, 900006, [(0, 701)]), (.aload_n 1, oA 1), (.bipush (-3), oC (vI (-3))), (.invokevirtual 152, vN, 55, 2, 0, 900005, [(0, 712)]), (.iinc 3 1, vI 1, 3, 0, 0, 0, []), (.goto (-50), oA 1)], 2),
  (61, [(.return_, o0)], 3)]
def C_Reader_readAny : List Nat := [1]
set_option maxRecDepth 100000 in
def B_Reader_readAll : List Blk := [(0, [(.aload_n 0, o0), (.aload_n 1, oA 1), (.iload_n 2, oA 2), (.invokevirtual 155, vN, 89, 3, 0, 900006, [(0, 705)]), (.iconst 0, oC (vI 0)), (.istore_n 3, oA 3)], 1),
  (8, [(.iload_n 3, oA 3), (.sipush 900, oC (vI 900)), (.if_icmp .ge 49, oA 2), (.aload_n 0, o0), (.getfield 38, vN, 0, 705, 5, 900006, [(0, 42)]), (.iconst (-1), oC (vI (-1))), (.if_icmp .ne 41, oA 2), (.aload_n 0, o0), (.getfield 15, vN, 1, 702000901, 2, 900006, [(0, 39)]), (.aload_n 0, o0), (.getfield 35, vN, 0, 704, 4, 900006, [(0, 41)]), (.iaload, o0), (.bipush 21, oC (vI 21)), (.if_icmp .ne 27, oA 2), (.aload_n 0, o0), (.bipush 21, oC (vI 21)), (.invokevirtual 47, vN, 77, 2, 0, 900006, [(0, 661)]), (.aload_n 0, o0), (.aload_n 1, oA 1), (.iload_n 2, oA 2), (.invokevirtual 155, vN, 89, 3, 0, 900006, [(0, 705)]), (.aload_n 1, oA 1), (.bipush (-2), oC (vI (-2))), (.invokevirtual 152, vN, 55, 2, 0, 900005, [(0, 712)]), (.iinc 3 1, vI 1, 3, 0, 0, 0, []), (.goto (-50), oA 1)], 2),
  (61, [(.return_, o0)], 3)]
def C_Reader_readAll : List Nat := [1]
set_option maxRecDepth 100000 in
def B_Reader_readOne : List Blk := [(0, [(.iload_n 2, oA 2), (.istore_n 3, oA 3)], 1),
  (2, [(.iload_n 3, oA 3), (.bipush 8, oC (vI 8)), (.if_icmp .ge 37, oA 2), (.aload_n 0, o0), (.getfield 38, vN, 0, 705, 5, 900006, [(0, 42)]), (.iconst (-1), oC (vI (-1))), (.if_icmp .ne 29, oA 2), (.aload_n 0, o0), (.getfield 15, vN, 1, 702000901, 2, 900006, [(0, 39)]), (.aload_n 0, o0), (.getfield 35, vN, 0, 704, 4, 900006, [(0, 41)]), (.iaload, o0), (.bipush 22, oC (vI 22)), (.if_icmp .ne 15, oA 2), (.aload_n 0, o0), (.bipush 22, oC (vI 22)), (.invokevirtual 47, vN, 77, 2, 0, 900006, [(0, 661)]), (.iinc 3 1, vI 1, 3, 0, 0, 0, []), (.goto (-37), oA 1)], 2),
  (42, [(.iload_n 3, oA 3), (.bipush 8, oC (vI 8)), (.if_icmp .ge 48, oA 3), (.aload_n 0, o0), (.getfield 38, vN, 0, 705, 5, 900006, [(0, 42)]), (.iconst (-1), oC (vI (-1))), (.if_icmp .ne 40, oA 3), (.aload_n 0, o0), (.getfield 15, vN, 1, 702000901, 2, 900006, [(0, 39)]), (.aload_n 0, o0), (.getfield 35, vN, 0, 704, 4, 900006, [(0, 41)]), (.iaload, o0), (.bipush 40, oC (vI 40)), (.if_icmp .ne 26, oA 3), (.aload_n 0, o0), (.bipush 40, oC (vI 40)), (.invokevirtual 47, vN, 77, 2, 0, 900006, [(0, 661)]), (.aload_n 0, o0), (.aload_n 1, oA 1), (.iload_n 3, oA 3), (.iconst 1, oC (vI 1)), (.iadd, o0), (.invokevirtual 145, vN, 87, 3, 0, 900006, [(0, 697)]), (.aload_n 0, o0), (.bipush 41, oC (vI 41)), (.invokevirtual 47, vN, 77, 2, 0, 900006, [(0, 661)]), (.goto 117, oA 10)], 3),
  (93, [(.aload_n 0, o0), (.getfield 15, vN, 1, 702000901, 2, 900006, [(0, 39)]), (.aload_n 0, o0), (.getfield 35, vN, 0, 704, 4, 900006, [(0, 41)]), (.iaload, o0), (.istore 4, oA 4), (.aload_n 0, o0), (.iload 4, oA 4), (.ifCond .lt 15, oA 4), (.iload 4, oA 4), (.bipush 8, oC (vI 8)), (.if_icmp .ge 8, oA 4), (.iload 4, oA 4), (.goto 5, oA 5)], 4),
  (122, [(.bipush (-3), oC (vI (-3)))], 5),
  (124, [(.invokevirtual 47, vN, 77, 2, 0, 900006, [(0, 661)]), (.aload_n 0, o0), (.getfield 15, vN, 1, 702000901, 2, 900006, [(0, 39)]), (.aload_n 0, o0), (.getfield 35, vN, 0, 704, 4, 900006, [(0, 41)]), (.iaload, o0), (.istore 5, oA 5), (.aload_n 0, o0), (.iload 5, oA 5), (.invokestatic 72, vN, 71, 1, 1, 0, [(0, 654)]), (.ifCond .eq 8, oA 6), (.iload 5, oA 5), (.goto 5, oA 7)], 6),
  (152, [(.bipush (-3), oC (vI (-3)))], 7),
  (154, [(.invokevirtual 47, vN, 77, 2, 0, 900006, [(0, 661)]), (.aload_n 0, o0), (.getfield 15, vN, 1, 702000901, 2, 900006, [(0, 39)]), (.aload_n 0, o0), (.getfield 35, vN, 0, 704, 4, 900006, [(0, 41)]), (.iaload, o0), (.istore 6, oA 6), (.aload_n 0, o0), (.iload 6, oA 6), (.sipush 1000, oC (vI 1000)), (.if_icmp .lt 8, oA 8), (.iload 6, oA 6), (.goto 5, oA 9)], 8),
  (182, [(.bipush (-3), oC (vI (-3)))], 9),
  (184, [(.invokevirtual 47, vN, 77, 2, 0, 900006, [(0, 661)]), (.aload_n 1, oA 1), (.iload 4, oA 4), (.iload 5, oA 5), (.bipush 60, oC (vI 60)), (.isub, o0), (.iload 6, oA 6), (.sipush 1000, oC (vI 1000)), (.isub, o0), (.invokestatic 158, vN, 56, 3, 1, 0, [(0, 709)]), (.invokevirtual 152, vN, 55, 2, 0, 900005, [(0, 712)])], 10),
  (207, [(.iload_n 3, oA 3), (.iload_n 2, oA 2), (.isub, o0), (.iconst 2, oC (vI 2)), (.irem, o0), (.iconst 1, oC (vI 1)), (.if_icmp .ne 8, oA 11), (.aload_n 1, oA 1), (.iconst (-1), oC (vI (-1))), (.invokevirtual 152, vN, 55, 2, 0, 900005, [(0, 712)])], 11),
  (221, [(.return_, o0)], 12)]
def C_Reader_readOne : List Nat := [1, 2, 5, 9]
set_option maxRecDepth 100000 in
def B_River_init : List Blk := [(0, [(.aload_n 0, o0), (.invokespecial 3, vN, 901, 0, 0, 0, [(0, 226)]), (.aload_n 0, o0), (.bipush 100, oC (vI 100)), (.newarray .int, oA 800000100), (.putfield 9, vN, 1, 800000100, 0, 900007, [(0, 228)]), (.aload_n 0, o0), (.bipush 40, oC (vI 40)), (.newarray .int, oA 802000040), (.putfield 15, vN, 1, 802000040, 2, 900007, [(0, 232)]), (.aload_n 0, o0), (.bipush 40, oC (vI 40)), (.newarray .int, oA 803000040), (.putfield 18, vN, 1, 803000040, 3, 900007, [(0, 233)]), (.aload_n 0, o0), (.bipush 40, oC (vI 40)), (.newarray .int, oA 804000040), (.putfield 21, vN, 1, 804000040, 4, 900007, [(0, 234)]), (.aload_n 0, o0), (.bipush 100, oC (vI 100)), (.newarray .int, oA 806000100), (.putfield 24, vN, 1, 806000100, 6, 900007, [(0, 237)]), (.aload_n 0, o0), (.bipush 20, oC (vI 20)), (.newarray .int, oA 808000020), (.putfield 27, vN, 1, 808000020, 8, 900007, [(0, 241)]), (.aload_n 0, o0), (.bipush 20, oC (vI 20)), (.newarray .int, oA 809000020), (.putfield 30, vN, 1, 809000020, 9, 900007, [(0, 242)]), (.aload_n 0, o0), (.bipush 20, oC (vI 20)), (.newarray .int, oA 810000020), (.putfield 33, vN, 1, 810000020, 10, 900007, [(0, 243)]), (.aload_n 0, o0), (.bipush 10, oC (vI 10)), (.newarray .int, oA 812000010), (.putfield 36, vN, 1, 812000010, 12, 900007, [(0, 246)]), (.aload_n 0, o0), (.bipush 10, oC (vI 10)), (.newarray .int, oA 813000010), (.putfield 39, vN, 1, 813000010, 13, 900007, [(0, 247)]), (.aload_n 0, o0), (.bipush 10, oC (vI 10)), (.newarray .int, oA 814000010), (.putfield 42, vN, 1, 814000010, 14, 900007, [(0, 248)]), (.aload_n 0, o0), (.bipush 10, oC (vI 10)), (.newarray .int, oA 815000010), (.putfield 45, vN, 1, 815000010, 15, 900007, [(0, 249)]), (.aload_n 0, o0), (.getfield 9, vN, 1, 800000100, 0, 900007, [(0, 228)]), (.bipush 50, oC (vI 50)), (.invokestatic 48, vN, 339, 2, 0, 0, [(0, 227)]), (.return_, o0)], 1)]
def C_River_init : List Nat := []
set_option maxRecDepth 100000 in
def B_River_take : List Blk := [(0, [(.aload_n 0, o0), (.aload_n 1, oA 1), (.getfield 54, vN, 0, 801, 1, 900007, [(0, 230)]), (.putfield 54, vN, 0, 801, 1, 900007, [(0, 230)]), (.aload_n 0, o0), (.aload_n 1, oA 1), (.getfield 58, vN, 0, 805, 5, 900007, [(0, 235)]), (.putfield 58, vN, 0, 805, 5, 900007, [(0, 235)]), (.aload_n 0, o0), (.aload_n 1, oA 1), (.getfield 61, vN, 0, 807, 7, 900007, [(0, 239)]), (.putfield 61, vN, 0, 807, 7, 900007, [(0, 239)]), (.aload_n 0, o0), (.aload_n 1, oA 1), (.getfield 64, vN, 0, 811, 11, 900007, [(0, 244)]), (.putfield 64, vN, 0, 811, 11, 900007, [(0, 244)]), (.aload_n 1, oA 1), (.getfield 9, vN, 1, 800000100, 0, 900007, [(0, 228)]), (.iconst 0, oC (vI 0)), (.aload_n 0, o0), (.getfield 9, vN, 1, 800000100, 0, 900007, [(0, 228)]), (.iconst 0, oC (vI 0)), (.bipush 100, oC (vI 100)), (.invokestatic 67, vN, 900, 0, 0, 0, [(0, 1351)]), (.aload_n 1, oA 1), (.getfield 24, vN, 1, 806000100, 6, 900007, [(0, 237)]), (.iconst 0, oC (vI 0)), (.aload_n 0, o0), (.getfield 24, vN, 1, 806000100, 6, 900007, [(0, 237)]), (.iconst 0, oC (vI 0)), (.bipush 100, oC (vI 100)), (.invokestatic 67, vN, 900, 0, 0, 0, [(0, 1351)]), (.aload_n 1, oA 1), (.getfield 15, vN, 1, 802000040, 2, 900007, [(0, 232)]), (.iconst 0, oC (vI 0)), (.aload_n 0, o0), (.getfield 15, vN, 1, 802000040, 2, 900007, [(0, 232)]), (.iconst 0, oC (vI 0)), (.bipush 40, oC (vI 40)), (.invokestatic 67, vN, 900, 0, 0, 0, [(0, 1351)]), (.aload_n 1, oA 1), (.getfield 18, vN, 1, 803000040, 3, 900007, [(0, 233)]), (.iconst 0, oC (vI 0)), (.aload_n 0, o0), (.getfield 18, vN, 1, 803000040, 3, 900007, [(0, 233)]), (.iconst 0, oC (vI 0)), (.bipush 40, oC (vI 40)), (.invokestatic 67, vN, 900, 0, 0, 0, [(0, 1351)]), (.aload_n 1, oA 1), (.getfield 21, vN, 1, 804000040, 4, 900007, [(0, 234)]), (.iconst 0, oC (vI 0)), (.aload_n 0, o0), (.getfield 21, vN, 1, 804000040, 4, 900007, [(0, 234)]), (.iconst 0, oC (vI 0)), (.bipush 40, oC (vI 40)), (.invokestatic 67, vN, 900, 0, 0, 0, [(0, 1351)]), (.aload_n 1, oA 1), (.getfield 27, vN, 1, 808000020, 8, 900007, [(0, 241)]), (.iconst 0, oC (vI 0)), (.aload_n 0, o0), (.getfield 27, vN, 1, 808000020, 8, 900007, [(0, 241)]), (.iconst 0, oC (vI 0)), (.bipush 20, oC (vI 20)), (.invokestatic 67, vN, 900, 0, 0, 0, [(0, 1351)]), (.aload_n 1, oA 1), (.getfield 30, vN, 1, 809000020, 9, 900007, [(0, 242)]), (.iconst 0, oC (vI 0)), (.aload_n 0, o0), (.getfield 30, vN, 1, 809000020, 9, 900007, [(0, 242)]), (.iconst 0, oC (vI 0)), (.bipush 20, oC (vI 20)), (.invokestatic 67, vN, 900, 0, 0, 0, [(0, 1351)]), (.aload_n 1, oA 1), (.getfield 33, vN, 1, 810000020, 10, 900007, [(0, 243)]), (.iconst 0, oC (vI 0)), (.aload_n 0, o0), (.getfield 33, vN, 1, 810000020, 10, 900007, [(0, 243)]), (.iconst 0, oC (vI 0)), (.bipush 20, oC (vI 20)), (.invokestatic 67, vN, 900, 0, 0, 0, [(0, 1351)]), (.aload_n 1, oA 1), (.getfield 36, vN, 1, 812000010, 12, 900007, [(0, 246)]), (.iconst 0, oC (vI 0)), (.aload_n 0, o0), (.getfield 36, vN, 1, 812000010, 12, 900007, [(0, 246)]), (.iconst 0, oC (vI 0)), (.bipush 10, oC (vI 10)), (.invokestatic 67, vN, 900, 0, 0, 0, [(0, 1351)]), (.aload_n 1, oA 1), (.getfield 39, vN, 1, 813000010, 13, 900007, [(0, 247)]), (.iconst 0, oC (vI 0)), (.aload_n 0, o0), (.getfield 39, vN, 1, 813000010, 13, 900007, [(0, 247)]), (.iconst 0, oC (vI 0)), (.bipush 10, oC (vI 10)), (.invokestatic 67, vN, 900, 0, 0, 0, [(0, 1351)]), (.aload_n 1, oA 1), (.getfield 42, vN, 1, 814000010, 14, 900007, [(0, 248)]), (.iconst 0, oC (vI 0)), (.aload_n 0, o0), (.getfield 42, vN, 1, 814000010, 14, 900007, [(0, 248)]), (.iconst 0, oC (vI 0)), (.bipush 10, oC (vI 10)), (.invokestatic 67, vN, 900, 0, 0, 0, [(0, 1351)]), (.aload_n 1, oA 1), (.getfield 45, vN, 1, 815000010, 15, 900007, [(0, 249)]), (.iconst 0, oC (vI 0)), (.aload_n 0, o0), (.getfield 45, vN, 1, 815000010, 15, 900007, [(0, 249)]), (.iconst 0, oC (vI 0)), (.bipush 10, oC (vI 10)), (.invokestatic 67, vN, 900, 0, 0, 0, [(0, 1351)]), (.return_, o0)], 1)]
def C_River_take : List Nat := []
set_option maxRecDepth 100000 in
def B_River_addSpell : List Blk := [(0, [(.aload_n 0, o0), (.getfield 54, vN, 0, 801, 1, 900007, [(0, 230)]), (.bipush 40, oC (vI 40)), (.if_icmp .lt 5, oA 1), (.iconst (-1), oC (vI (-1))), (.ireturn, o0)], 1),
  (11, [(.aload_n 0, o0), (.getfield 15, vN, 1, 802000040, 2, 900007, [(0, 232)]), (.aload_n 0, o0), (.getfield 54, vN, 0, 801, 1, 900007, [(0, 230)]), (.iload_n 1, oA 1), (.iastore, o0), (.aload_n 0, o0), (.getfield 18, vN, 1, 803000040, 3, 900007, [(0, 233)]), (.aload_n 0, o0), (.getfield 54, vN, 0, 801, 1, 900007, [(0, 230)]), (.iload_n 2, oA 2), (.iastore, o0), (.aload_n 0, o0), (.getfield 21, vN, 1, 804000040, 4, 900007, [(0, 234)]), (.aload_n 0, o0), (.getfield 54, vN, 0, 801, 1, 900007, [(0, 230)]), (.iload_n 3, oA 3), (.iastore, o0), (.aload_n 0, o0), (.dup, o0), (.getfield 54, vN, 0, 801, 1, 900007, [(0, 230)]), (.iconst 1, oC (vI 1)), (.iadd, o0), (.putfield 54, vN, 0, 801, 1, 900007, [(0, 230)]), (.aload_n 0, o0), (.getfield 54, vN, 0, 801, 1, 900007, [(0, 230)]), (.ireturn, o0)], 2)]
def C_River_addSpell : List Nat := []
set_option maxRecDepth 100000 in
def B_River_addNest : List Blk := [(0, [(.aload_n 0, o0), (.getfield 61, vN, 0, 807, 7, 900007, [(0, 239)]), (.bipush 20, oC (vI 20)), (.if_icmp .lt 5, oA 1), (.iconst (-1), oC (vI (-1))), (.ireturn, o0)], 1),
  (11, [(.aload_n 0, o0), (.getfield 27, vN, 1, 808000020, 8, 900007, [(0, 241)]), (.aload_n 0, o0), (.getfield 61, vN, 0, 807, 7, 900007, [(0, 239)]), (.iload_n 1, oA 1), (.iastore, o0), (.aload_n 0, o0), (.getfield 30, vN, 1, 809000020, 9, 900007, [(0, 242)]), (.aload_n 0, o0), (.getfield 61, vN, 0, 807, 7, 900007, [(0, 239)]), (.iload_n 2, oA 2), (.iastore, o0), (.aload_n 0, o0), (.getfield 33, vN, 1, 810000020, 10, 900007, [(0, 243)]), (.aload_n 0, o0), (.getfield 61, vN, 0, 807, 7, 900007, [(0, 239)]), (.iload_n 3, oA 3), (.iastore, o0), (.aload_n 0, o0), (.dup, o0), (.getfield 61, vN, 0, 807, 7, 900007, [(0, 239)]), (.iconst 1, oC (vI 1)), (.iadd, o0), (.putfield 61, vN, 0, 807, 7, 900007, [(0, 239)]), (.aload_n 0, o0), (.getfield 61, vN, 0, 807, 7, 900007, [(0, 239)]), (.ireturn, o0)], 2)]
def C_River_addNest : List Nat := []
set_option maxRecDepth 100000 in
def B_River_addRegatta : List Blk := [(0, [(.aload_n 0, o0), (.getfield 64, vN, 0, 811, 11, 900007, [(0, 244)]), (.bipush 10, oC (vI 10)), (.if_icmp .lt 5, oA 1), (.iconst (-1), oC (vI (-1))), (.ireturn, o0)], 1),
  (11, [(.aload_n 0, o0), (.getfield 36, vN, 1, 812000010, 12, 900007, [(0, 246)]), (.aload_n 0, o0), (.getfield 64, vN, 0, 811, 11, 900007, [(0, 244)]), (.iload_n 1, oA 1), (.iastore, o0), (.aload_n 0, o0), (.getfield 39, vN, 1, 813000010, 13, 900007, [(0, 247)]), (.aload_n 0, o0), (.getfield 64, vN, 0, 811, 11, 900007, [(0, 244)]), (.iload_n 2, oA 2), (.iastore, o0), (.aload_n 0, o0), (.getfield 42, vN, 1, 814000010, 14, 900007, [(0, 248)]), (.aload_n 0, o0), (.getfield 64, vN, 0, 811, 11, 900007, [(0, 244)]), (.iload_n 3, oA 3), (.iastore, o0), (.aload_n 0, o0), (.getfield 45, vN, 1, 815000010, 15, 900007, [(0, 249)]), (.aload_n 0, o0), (.getfield 64, vN, 0, 811, 11, 900007, [(0, 244)]), (.iload 4, oA 4), (.iastore, o0), (.aload_n 0, o0), (.dup, o0), (.getfield 64, vN, 0, 811, 11, 900007, [(0, 244)]), (.iconst 1, oC (vI 1)), (.iadd, o0), (.putfield 64, vN, 0, 811, 11, 900007, [(0, 244)]), (.aload_n 0, o0), (.getfield 64, vN, 0, 811, 11, 900007, [(0, 244)]), (.ireturn, o0)], 2)]
def C_River_addRegatta : List Nat := []
set_option maxRecDepth 100000 in
def B_River_rains : List Blk := [(0, [(.iconst 0, oC (vI 0)), (.istore_n 3, oA 3)], 1),
  (2, [(.iload_n 3, oA 3), (.aload_n 0, o0), (.getfield 54, vN, 0, 801, 1, 900007, [(0, 230)]), (.if_icmp .ge 41, oA 3), (.aload_n 0, o0), (.getfield 15, vN, 1, 802000040, 2, 900007, [(0, 232)]), (.iload_n 3, oA 3), (.iaload, o0), (.iload_n 1, oA 1), (.if_icmp .ne 25, oA 2), (.aload_n 0, o0), (.getfield 18, vN, 1, 803000040, 3, 900007, [(0, 233)]), (.iload_n 3, oA 3), (.iaload, o0), (.iload_n 2, oA 2), (.if_icmp .gt 15, oA 2), (.iload_n 2, oA 2), (.aload_n 0, o0), (.getfield 21, vN, 1, 804000040, 4, 900007, [(0, 234)]), (.iload_n 3, oA 3), (.iaload, o0), (.if_icmp .gt 5, oA 2), (.iconst 1, oC (vI 1)), (.ireturn, oA 1)], 2),
  (42, [(.iinc 3 1, vI 1, 3, 0, 0, 0, []), (.goto (-43), oA 1)], 3),
  (48, [(.iconst 0, oC (vI 0)), (.ireturn, oA 1)], 4)]
def C_River_rains : List Nat := [1]
set_option maxRecDepth 100000 in
def B_River_countWet : List Blk := [(0, [(.aload_n 2, oA 2), (.iconst 0, oC (vI 0)), (.invokestatic 48, vN, 339, 2, 0, 0, [(0, 227)]), (.iconst 0, oC (vI 0)), (.istore_n 3, oA 3)], 1),
  (7, [(.iload_n 3, oA 3), (.aload_n 0, o0), (.getfield 54, vN, 0, 801, 1, 900007, [(0, 230)]), (.if_icmp .ge 51, oA 4), (.aload_n 0, o0), (.getfield 15, vN, 1, 802000040, 2, 900007, [(0, 232)]), (.iload_n 3, oA 3), (.iaload, o0), (.iload_n 1, oA 1), (.if_icmp .ne 35, oA 3), (.aload_n 0, o0), (.getfield 18, vN, 1, 803000040, 3, 900007, [(0, 233)]), (.iload_n 3, oA 3), (.iaload, o0), (.istore 4, oA 4)], 2),
  (33, [(.iload 4, oA 4), (.aload_n 0, o0), (.getfield 21, vN, 1, 804000040, 4, 900007, [(0, 234)]), (.iload_n 3, oA 3), (.iaload, o0), (.if_icmp .gt 16, oA 3), (.aload_n 2, oA 2), (.iload 4, oA 4), (.iconst 1, oC (vI 1)), (.iadd, o0), (.iconst 1, oC (vI 1)), (.iastore, o0), (.iinc 4 1, vI 1, 4, 0, 0, 0, []), (.goto (-21), oA 2)], 3),
  (57, [(.iinc 3 1, vI 1, 3, 0, 0, 0, []), (.goto (-53), oA 1)], 4),
  (63, [(.iconst 1, oC (vI 1)), (.istore_n 3, oA 3)], 5),
  (65, [(.iload_n 3, oA 3), (.aload_n 2, oA 2), (.arraylength, o0), (.if_icmp .ge 20, oA 6), (.aload_n 2, oA 2), (.iload_n 3, oA 3), (.dup2, o0), (.iaload, o0), (.aload_n 2, oA 2), (.iload_n 3, oA 3), (.iconst 1, oC (vI 1)), (.isub, o0), (.iaload, o0), (.iadd, o0), (.iastore, o0), (.iinc 3 1, vI 1, 3, 0, 0, 0, []), (.goto (-20), oA 5)], 6),
  (88, [(.return_, o0)], 7)]
def C_River_countWet : List Nat := [1, 2, 5]
set_option maxRecDepth 100000 in
def B_River_weedOf : List Blk := [(0, [(.iconst 0, oC (vI 0)), (.istore_n 2, oA 2), (.iload_n 1, oA 1), (.istore_n 3, oA 3)], 1),
  (4, [(.iload_n 3, oA 3), (.ifCond .le 21, oA 2), (.aload_n 0, o0), (.getfield 24, vN, 1, 806000100, 6, 900007, [(0, 237)]), (.iload_n 3, oA 3), (.iaload, o0), (.ifCond .ne 12, oA 2), (.iinc 2 1, vI 1, 2, 0, 0, 0, []), (.iinc 3 (-1), vI (-1), 3, 0, 0, 0, []), (.goto (-19), oA 1)], 2),
  (26, [(.aload_n 0, o0), (.getfield 58, vN, 0, 805, 5, 900007, [(0, 235)]), (.iload_n 2, oA 2), (.imul, o0), (.sipush 999, oC (vI 999)), (.invokestatic 73, vN, 337, 2, 1, 0, [(0, 824)]), (.ireturn, o0)], 3)]
def C_River_weedOf : List Nat := [1]
set_option maxRecDepth 100000 in
def B_River_nestedReaches : List Blk := [(0, [(.iconst 0, oC (vI 0)), (.istore_n 2, oA 2), (.iconst 0, oC (vI 0)), (.istore_n 3, oA 3)], 1),
  (4, [(.iload_n 3, oA 3), (.aload_n 0, o0), (.getfield 61, vN, 0, 807, 7, 900007, [(0, 239)]), (.if_icmp .ge 40, oA 3), (.aload_n 0, o0), (.getfield 30, vN, 1, 809000020, 9, 900007, [(0, 242)]), (.iload_n 3, oA 3), (.iaload, o0), (.iload_n 1, oA 1), (.if_icmp .gt 24, oA 2), (.iload_n 1, oA 1), (.aload_n 0, o0), (.getfield 33, vN, 1, 810000020, 10, 900007, [(0, 243)]), (.iload_n 3, oA 3), (.iaload, o0), (.if_icmp .gt 14, oA 2), (.iload_n 2, oA 2), (.iconst 1, oC (vI 1)), (.aload_n 0, o0), (.getfield 27, vN, 1, 808000020, 8, 900007, [(0, 241)]), (.iload_n 3, oA 3), (.iaload, o0), (.ishl, o0), (.ior, o0), (.istore_n 2, oA 2)], 2),
  (43, [(.iinc 3 1, vI 1, 3, 0, 0, 0, []), (.goto (-42), oA 1)], 3),
  (49, [(.iload_n 2, oA 2), (.ireturn, o0)], 4)]
def C_River_nestedReaches : List Nat := [1]
set_option maxRecDepth 100000 in
def B_River_racedReaches : List Blk := [(0, [(.iconst 0, oC (vI 0)), (.istore 4, oA 4), (.iconst 0, oC (vI 0)), (.istore 5, oA 5)], 1),
  (6, [(.iload 5, oA 5), (.aload_n 0, o0), (.getfield 64, vN, 0, 811, 11, 900007, [(0, 244)]), (.if_icmp .ge 59, oA 3), (.aload_n 0, o0), (.getfield 36, vN, 1, 812000010, 12, 900007, [(0, 246)]), (.iload 5, oA 5), (.iaload, o0), (.iload_n 1, oA 1), (.if_icmp .ne 42, oA 2), (.aload_n 0, o0), (.getfield 39, vN, 1, 813000010, 13, 900007, [(0, 247)]), (.iload 5, oA 5), (.iaload, o0), (.iload_n 2, oA 2), (.invokestatic 79, vN, 336, 2, 1, 0, [(0, 1333)]), (.aload_n 0, o0), (.getfield 42, vN, 1, 814000010, 14, 900007, [(0, 248)]), (.iload 5, oA 5), (.iaload, o0), (.iconst 1, oC (vI 1)), (.iadd, o0), (.iload_n 3, oA 3), (.invokestatic 73, vN, 337, 2, 1, 0, [(0, 824)]), (.if_icmp .ge 15, oA 2), (.iload 4, oA 4), (.aload_n 0, o0), (.getfield 45, vN, 1, 815000010, 15, 900007, [(0, 249)]), (.iload 5, oA 5), (.iaload, o0), (.ior, o0), (.istore 4, oA 4)], 2),
  (65, [(.iinc 5 1, vI 1, 5, 0, 0, 0, []), (.goto (-62), oA 1)], 3),
  (71, [(.iload 4, oA 4), (.ireturn, o0)], 4)]
def C_River_racedReaches : List Nat := [1]
set_option maxRecDepth 100000 in
def B_Roller_init : List Blk := [(0, [(.aload_n 0, o0), (.invokespecial 3, vN, 901, 0, 0, 0, [(0, 313)]), (.aload_n 0, o0), (.bipush 7, oC (vI 7)), (.newarray .int, oA 901000007), (.putfield 11, vN, 1, 901000007, 1, 900008, [(0, 316)]), (.aload_n 0, o0), (.bipush 7, oC (vI 7)), (.newarray .int, oA 902000007), (.putfield 15, vN, 1, 902000007, 2, 900008, [(0, 317)]), (.aload_n 0, o0), (.bipush 7, oC (vI 7)), (.newarray .int, oA 904000007), (.putfield 18, vN, 1, 904000007, 4, 900008, [(0, 320)]), (.aload_n 0, o0), (.bipush 7, oC (vI 7)), (.newarray .int, oA 905000007), (.putfield 21, vN, 1, 905000007, 5, 900008, [(0, 322)]), (.return_, o0)], 1)]
def C_Roller_init : List Nat := []
set_option maxRecDepth 100000 in
def B_Roller_take : List Blk := [(0, [(.aload_n 0, o0), (.aload_n 1, oA 1), (.getfield 24, vN, 0, 900, 0, 900008, [(0, 314)]), (.putfield 24, vN, 0, 900, 0, 900008, [(0, 314)]), (.aload_n 1, oA 1), (.getfield 11, vN, 1, 901000007, 1, 900008, [(0, 316)]), (.iconst 0, oC (vI 0)), (.aload_n 0, o0), (.getfield 11, vN, 1, 901000007, 1, 900008, [(0, 316)]), (.iconst 0, oC (vI 0)), (.bipush 7, oC (vI 7)), (.invokestatic 28, vN, 900, 0, 0, 0, [(0, 1160)]), (.aload_n 1, oA 1), (.getfield 15, vN, 1, 902000007, 2, 900008, [(0, 317)]), (.iconst 0, oC (vI 0)), (.aload_n 0, o0), (.getfield 15, vN, 1, 902000007, 2, 900008, [(0, 317)]), (.iconst 0, oC (vI 0)), (.bipush 7, oC (vI 7)), (.invokestatic 28, vN, 900, 0, 0, 0, [(0, 1160)]), (.return_, o0)], 1)]
def C_Roller_take : List Nat := []
set_option maxRecDepth 100000 in
def B_Roller_add : List Blk := [(0, [(.aload_n 0, o0), (.getfield 24, vN, 0, 900, 0, 900008, [(0, 314)]), (.bipush 7, oC (vI 7)), (.if_icmp .lt 5, oA 1), (.iconst (-1), oC (vI (-1))), (.ireturn, o0)], 1),
  (11, [(.aload_n 0, o0), (.getfield 11, vN, 1, 901000007, 1, 900008, [(0, 316)]), (.aload_n 0, o0), (.getfield 24, vN, 0, 900, 0, 900008, [(0, 314)]), (.iload_n 1, oA 1), (.iastore, o0), (.aload_n 0, o0), (.getfield 15, vN, 1, 902000007, 2, 900008, [(0, 317)]), (.aload_n 0, o0), (.getfield 24, vN, 0, 900, 0, 900008, [(0, 314)]), (.iload_n 2, oA 2), (.iastore, o0), (.aload_n 0, o0), (.dup, o0), (.getfield 24, vN, 0, 900, 0, 900008, [(0, 314)]), (.iconst 1, oC (vI 1)), (.iadd, o0), (.putfield 24, vN, 0, 900, 0, 900008, [(0, 314)]), (.aload_n 0, o0), (.getfield 24, vN, 0, 900, 0, 900008, [(0, 314)]), (.ireturn, o0)], 2)]
def C_Roller_add : List Nat := []
set_option maxRecDepth 100000 in
def B_Roller_solve : List Blk := [(0, [(.aload_n 0, o0), (.ldc 36, vI 2147483647, 0, 0, 0, 0, [(0, 1156)]), (.putfield 37, vN, 0, 903, 3, 900008, [(0, 318)]), (.aload_n 0, o0), (.iconst 0, oC (vI 0)), (.iconst 0, oC (vI 0)), (.iconst 0, oC (vI 0)), (.iconst 0, oC (vI 0)), (.invokestatic 40, vN, 104, 5, 0, 0, [(0, 1157)]), (.return_, o0)], 1)]
def C_Roller_solve : List Nat := []
set_option maxRecDepth 100000 in
def B_Roller_place : List Blk := [(0, [(.iload 4, oA 4), (.aload_n 0, o0), (.getfield 37, vN, 0, 903, 3, 900008, [(0, 318)]), (.if_icmp .ge 11, oA 1), (.iload_n 1, oA 1), (.aload_n 0, o0), (.getfield 24, vN, 0, 900, 0, 900008, [(0, 314)]), (.if_icmp .le 4, oA 2)], 1),
  (17, [(.return_, o0)], 2),
  (18, [(.iload_n 1, oA 1), (.aload_n 0, o0), (.getfield 24, vN, 0, 900, 0, 900008, [(0, 314)]), (.if_icmp .ne 24, oA 3), (.aload_n 0, o0), (.iload 4, oA 4), (.putfield 37, vN, 0, 903, 3, 900008, [(0, 318)]), (.aload_n 0, o0), (.getfield 21, vN, 1, 905000007, 5, 900008, [(0, 322)]), (.iconst 0, oC (vI 0)), (.aload_n 0, o0), (.getfield 18, vN, 1, 904000007, 4, 900008, [(0, 320)]), (.iconst 0, oC (vI 0)), (.iload_n 1, oA 1), (.invokestatic 28, vN, 900, 0, 0, 0, [(0, 1160)]), (.return_, o0)], 3),
  (47, [(.iconst 0, oC (vI 0)), (.istore 5, oA 5)], 4),
  (50, [(.iload 5, oA 5), (.aload_n 0, o0), (.getfield 24, vN, 0, 900, 0, 900008, [(0, 314)]), (.if_icmp .ge 75, oA 6), (.iload_n 2, oA 2), (.iload 5, oA 5), (.ishr, o0), (.iconst 1, oC (vI 1)), (.iand, o0), (.ifCond .ne 60, oA 5), (.iload_n 3, oA 3), (.aload_n 0, o0), (.getfield 11, vN, 1, 901000007, 1, 900008, [(0, 316)]), (.iload 5, oA 5), (.iaload, o0), (.invokestatic 44, vN, 336, 2, 1, 0, [(0, 1161)]), (.istore 6, oA 6), (.aload_n 0, o0), (.getfield 21, vN, 1, 905000007, 5, 900008, [(0, 322)]), (.iload_n 1, oA 1), (.iload 5, oA 5), (.iastore, o0), (.aload_n 0, o0), (.iload_n 1, oA 1), (.iconst 1, oC (vI 1)), (.iadd, o0), (.iload_n 2, oA 2), (.iconst 1, oC (vI 1)), (.iload 5, oA 5), (.ishl, o0), (.ior, o0), (.iload 6, oA 6), (.aload_n 0, o0), (.getfield 15, vN, 1, 902000007, 2, 900008, [(0, 317)]), (.iload 5, oA 5), (.iaload, o0), (.iadd, o0), (.iload 4, oA 4), (.iload 6, oA 6), (.iadd, o0), (.aload_n 0, o0), (.getfield 11, vN, 1, 901000007, 1, 900008, [(0, 316)]), (.iload 5, oA 5), (.iaload, o0), (.isub, o0), (.invokestatic 40, vN, 104, 5, 0, 0, [(0, 1157)])], 5),
  (125, [(.iinc 5 1, vI 1, 5, 0, 0, 0, []), (.goto (-78), oA 4)], 6),
  (131, [(.return_, o0)], 7)]
def C_Roller_place : List Nat := [4]
set_option maxRecDepth 100000 in
def B_State_init : List Blk := [(0, [(.aload_n 0, o0), (.invokespecial 1, vN, 901, 0, 0, 0, [(0, 144)]), (.aload_n 0, o0), (.new 7, vN, 900001, 200, 16, 0, [(0, 145)]), (.dup, o0), (.invokespecial 9, vN, 9, 1, 15354, 900001, [(0, 147)]), (.putfield 10, vN, 1, 900001, 0, 900009, [(0, 413)]), (.aload_n 0, o0), (.new 16, vN, 900007, 800, 16, 0, [(0, 221)]), (.dup, o0), (.invokespecial 18, vN, 90, 1, 63325, 900007, [(0, 223)]), (.putfield 19, vN, 1, 900007, 1, 900009, [(0, 415)]), (.aload_n 0, o0), (.new 23, vN, 900002, 300, 5, 0, [(0, 283)]), (.dup, o0), (.invokespecial 25, vN, 20, 1, 29, 900002, [(0, 285)]), (.putfield 26, vN, 1, 900002, 2, 900009, [(0, 417)]), (.aload_n 0, o0), (.new 30, vN, 900008, 900, 6, 0, [(0, 308)]), (.dup, o0), (.invokespecial 32, vN, 100, 1, 54, 900008, [(0, 310)]), (.putfield 33, vN, 1, 900008, 3, 900009, [(0, 419)]), (.aload_n 0, o0), (.new 37, vN, 900004, 500, 9, 0, [(0, 336)]), (.dup, o0), (.invokespecial 39, vN, 42, 1, 118, 900004, [(0, 338)]), (.putfield 40, vN, 1, 900004, 4, 900009, [(0, 421)]), (.aload_n 0, o0), (.new 44, vN, 900003, 400, 9, 0, [(0, 376)]), (.dup, o0), (.invokespecial 46, vN, 31, 1, 63, 900003, [(0, 378)]), (.putfield 47, vN, 1, 900003, 5, 900009, [(0, 423)]), (.return_, o0)], 1)]
def C_State_init : List Nat := []
set_option maxRecDepth 100000 in
def B_State_take : List Blk := [(0, [(.aload_n 0, o0), (.getfield 10, vN, 1, 900001, 0, 900009, [(0, 413)]), (.aload_n 1, oA 1), (.getfield 10, vN, 1, 900001, 0, 900009, [(0, 413)]), (.invokevirtual 51, vN, 10, 2, 0, 900001, [(0, 1342)]), (.aload_n 0, o0), (.getfield 19, vN, 1, 900007, 1, 900009, [(0, 415)]), (.aload_n 1, oA 1), (.getfield 19, vN, 1, 900007, 1, 900009, [(0, 415)]), (.invokevirtual 55, vN, 91, 2, 0, 900007, [(0, 1347)]), (.aload_n 0, o0), (.getfield 26, vN, 1, 900002, 2, 900009, [(0, 417)]), (.aload_n 1, oA 1), (.getfield 26, vN, 1, 900002, 2, 900009, [(0, 417)]), (.invokevirtual 58, vN, 21, 2, 0, 900002, [(0, 1352)]), (.aload_n 0, o0), (.getfield 33, vN, 1, 900008, 3, 900009, [(0, 419)]), (.aload_n 1, oA 1), (.getfield 33, vN, 1, 900008, 3, 900009, [(0, 419)]), (.invokevirtual 61, vN, 101, 2, 0, 900008, [(0, 1356)]), (.aload_n 0, o0), (.getfield 40, vN, 1, 900004, 4, 900009, [(0, 421)]), (.aload_n 1, oA 1), (.getfield 40, vN, 1, 900004, 4, 900009, [(0, 421)]), (.invokevirtual 64, vN, 43, 2, 0, 900004, [(0, 1360)]), (.aload_n 0, o0), (.getfield 47, vN, 1, 900003, 5, 900009, [(0, 423)]), (.aload_n 1, oA 1), (.getfield 47, vN, 1, 900003, 5, 900009, [(0, 423)]), (.invokevirtual 67, vN, 32, 2, 0, 900003, [(0, 1365)]), (.return_, o0)], 1)]
def C_State_take : List Nat := []
set_option maxRecDepth 100000 in
def B_View_init : List Blk := [(0, [(.aload_n 0, o0), (.invokespecial 3, vN, 901, 0, 0, 0, [(0, 444)]), (.aload_n 0, o0), (.bipush 120, oC (vI 120)), (.newarray .int, oA 1102000120), (.putfield 9, vN, 1, 1102000120, 2, 900010, [(0, 449)]), (.aload_n 0, o0), (.bipush 120, oC (vI 120)), (.newarray .int, oA 1103000120), (.putfield 15, vN, 1, 1103000120, 3, 900010, [(0, 451)]), (.aload_n 0, o0), (.bipush 120, oC (vI 120)), (.newarray .int, oA 1104000120), (.putfield 18, vN, 1, 1104000120, 4, 900010, [(0, 453)]), (.aload_n 0, o0), (.aload_n 1, oA 1), (.putfield 21, vN, 2, 900001, 0, 900010, [(0, 445), (0, 0)]), (.return_, o0)], 1)]
def C_View_init : List Nat := []
set_option maxRecDepth 100000 in
def B_View_see : List Blk := [(0, [(.aload_n 0, o0), (.iconst 0, oC (vI 0)), (.putfield 25, vN, 0, 1101, 1, 900010, [(0, 447)]), (.iconst 0, oC (vI 0)), (.istore_n 2, oA 2)], 1),
  (7, [(.iload_n 2, oA 2), (.iload_n 1, oA 1), (.if_icmp .ge 51, oA 2), (.iload_n 2, oA 2), (.aload_n 0, o0), (.getfield 21, vN, 2, 900001, 0, 900010, [(0, 445), (0, 0)]), (.getfield 29, vN, 0, 210, 10, 900001, [(0, 175)]), (.if_icmp .ge 40, oA 2), (.aload_n 0, o0), (.aload_n 0, o0), (.getfield 21, vN, 2, 900001, 0, 900010, [(0, 445), (0, 0)]), (.getfield 34, vN, 1, 211000400, 11, 900001, [(0, 179)]), (.iload_n 2, oA 2), (.iaload, o0), (.aload_n 0, o0), (.getfield 21, vN, 2, 900001, 0, 900010, [(0, 445), (0, 0)]), (.getfield 37, vN, 1, 212000400, 12, 900001, [(0, 181)]), (.iload_n 2, oA 2), (.iaload, o0), (.aload_n 0, o0), (.getfield 21, vN, 2, 900001, 0, 900010, [(0, 445), (0, 0)]), (.getfield 40, vN, 1, 213000400, 13, 900001, [(0, 183)]), (.iload_n 2, oA 2), (.iaload, o0), (.invokevirtual 43, vN, 109, 4, 0, 900010, [(0, 790)]), (.iinc 2 1, vI 1, 2, 0, 0, 0, []), (.goto (-50), oA 1)], 2),
  (60, [(.return_, o0)], 3)]
def C_View_see : List Nat := [1]
set_option maxRecDepth 100000 in
def B_View_learn : List Blk := [(0, [(.iload_n 1, oA 1), (.tableswitch 78 0 2 #[27, 58, 68], vN, 4, 0, 0, 0, [(0, 1), (1, 2), (2, 3)])], 1),
  (28, [(.aload_n 0, o0), (.getfield 9, vN, 1, 1102000120, 2, 900010, [(0, 449)]), (.iload_n 2, oA 2), (.iconst (-1), oC (vI (-1))), (.iastore, o0), (.aload_n 0, o0), (.getfield 15, vN, 1, 1103000120, 3, 900010, [(0, 451)]), (.iload_n 2, oA 2), (.iconst 0, oC (vI 0)), (.iastore, o0), (.aload_n 0, o0), (.getfield 18, vN, 1, 1104000120, 4, 900010, [(0, 453)]), (.iload_n 2, oA 2), (.iconst 0, oC (vI 0)), (.iastore, o0), (.aload_n 0, o0), (.iload_n 2, oA 2), (.iconst 1, oC (vI 1)), (.iadd, o0), (.putfield 25, vN, 0, 1101, 1, 900010, [(0, 447)]), (.goto 30, oA 5)], 2),
  (59, [(.aload_n 0, o0), (.getfield 9, vN, 1, 1102000120, 2, 900010, [(0, 449)]), (.iload_n 2, oA 2), (.iload_n 3, oA 3), (.iastore, o0), (.goto 20, oA 5)], 3),
  (69, [(.aload_n 0, o0), (.getfield 15, vN, 1, 1103000120, 3, 900010, [(0, 451)]), (.iload_n 2, oA 2), (.iload_n 3, oA 3), (.iastore, o0), (.goto 10, oA 5)], 4),
  (79, [(.aload_n 0, o0), (.getfield 18, vN, 1, 1104000120, 4, 900010, [(0, 453)]), (.iload_n 2, oA 2), (.iload_n 3, oA 3), (.iastore, o0)], 5),
  (86, [(.return_, o0)], 6)]
def C_View_learn : List Nat := []
set_option maxRecDepth 100000 in
def B_View_isBack : List Blk := [(0, [(.aload_n 0, o0), (.getfield 9, vN, 1, 1102000120, 2, 900010, [(0, 449)]), (.iload_n 1, oA 1), (.iaload, o0), (.iconst (-1), oC (vI (-1))), (.if_icmp .eq 7, oA 1), (.iconst 1, oC (vI 1)), (.goto 4, oA 2)], 1),
  (14, [(.iconst 0, oC (vI 0))], 2),
  (15, [(.ireturn, oA 1)], 3)]
def C_View_isBack : List Nat := []
set_option maxRecDepth 100000 in
def B_View_minutesOf : List Blk := [(0, [(.aload_n 0, o0), (.getfield 9, vN, 1, 1102000120, 2, 900010, [(0, 449)]), (.iload_n 1, oA 1), (.iaload, o0), (.aload_n 0, o0), (.getfield 21, vN, 2, 900001, 0, 900010, [(0, 445), (0, 0)]), (.getfield 47, vN, 1, 205000120, 5, 900001, [(0, 165)]), (.iload_n 1, oA 1), (.iaload, o0), (.isub, o0), (.ireturn, o0)], 1)]
def C_View_minutesOf : List Nat := []
set_option maxRecDepth 100000 in
def B_View_isAway : List Blk := [(0, [(.aload_n 0, o0), (.getfield 21, vN, 2, 900001, 0, 900010, [(0, 445), (0, 0)]), (.getfield 47, vN, 1, 205000120, 5, 900001, [(0, 165)]), (.iload_n 1, oA 1), (.iaload, o0), (.iload_n 2, oA 2), (.if_icmp .gt 27, oA 2), (.aload_n 0, o0), (.getfield 9, vN, 1, 1102000120, 2, 900010, [(0, 449)]), (.iload_n 1, oA 1), (.iaload, o0), (.iconst (-1), oC (vI (-1))), (.if_icmp .eq 13, oA 1), (.aload_n 0, o0), (.getfield 9, vN, 1, 1102000120, 2, 900010, [(0, 449)]), (.iload_n 1, oA 1), (.iaload, o0), (.iload_n 2, oA 2), (.if_icmp .le 7, oA 2)], 1),
  (33, [(.iconst 1, oC (vI 1)), (.goto 4, oA 3)], 2),
  (37, [(.iconst 0, oC (vI 0))], 3),
  (38, [(.ireturn, oA 1)], 4)]
def C_View_isAway : List Nat := []
set_option maxRecDepth 100000 in
def B_View_outBits : List Blk := [(0, [(.iconst 0, oC (vI 0)), (.istore_n 2, oA 2), (.iconst 0, oC (vI 0)), (.istore_n 3, oA 3)], 1),
  (4, [(.iload_n 3, oA 3), (.aload_n 0, o0), (.getfield 25, vN, 0, 1101, 1, 900010, [(0, 447)]), (.if_icmp .ge 32, oA 3), (.aload_n 0, o0), (.iload_n 3, oA 3), (.iload_n 1, oA 1), (.invokevirtual 50, vN, 112, 3, 1, 900010, [(0, 810)]), (.ifCond .eq 17, oA 2), (.iload_n 2, oA 2), (.iconst 1, oC (vI 1)), (.aload_n 0, o0), (.getfield 21, vN, 2, 900001, 0, 900010, [(0, 445), (0, 0)]), (.getfield 54, vN, 1, 203000120, 3, 900001, [(0, 158)]), (.iload_n 3, oA 3), (.iaload, o0), (.ishl, o0), (.ior, o0), (.istore_n 2, oA 2)], 2),
  (35, [(.iinc 3 1, vI 1, 3, 0, 0, 0, []), (.goto (-34), oA 1)], 3),
  (41, [(.iload_n 2, oA 2), (.ireturn, o0)], 4)]
def C_View_outBits : List Nat := [1]
set_option maxRecDepth 100000 in
def B_View_allBackBy : List Blk := [(0, [(.iconst 0, oC (vI 0)), (.istore_n 3, oA 3)], 1),
  (2, [(.iload_n 3, oA 3), (.aload_n 0, o0), (.getfield 25, vN, 0, 1101, 1, 900010, [(0, 447)]), (.if_icmp .ge 44, oA 4), (.aload_n 0, o0), (.getfield 21, vN, 2, 900001, 0, 900010, [(0, 445), (0, 0)]), (.getfield 54, vN, 1, 203000120, 3, 900001, [(0, 158)]), (.iload_n 3, oA 3), (.iaload, o0), (.iload_n 1, oA 1), (.if_icmp .ne 25, oA 3), (.aload_n 0, o0), (.getfield 9, vN, 1, 1102000120, 2, 900010, [(0, 449)]), (.iload_n 3, oA 3), (.iaload, o0), (.iconst (-1), oC (vI (-1))), (.if_icmp .eq 13, oA 2), (.aload_n 0, o0), (.getfield 9, vN, 1, 1102000120, 2, 900010, [(0, 449)]), (.iload_n 3, oA 3), (.iaload, o0), (.iload_n 2, oA 2), (.if_icmp .le 5, oA 3)], 2),
  (43, [(.iconst 0, oC (vI 0)), (.ireturn, oA 1)], 3),
  (45, [(.iinc 3 1, vI 1, 3, 0, 0, 0, []), (.goto (-46), oA 1)], 4),
  (51, [(.iconst 1, oC (vI 1)), (.ireturn, oA 1)], 5)]
def C_View_allBackBy : List Nat := [1]
set_option maxRecDepth 100000 in
def B_View_knowsAlike : List Blk := [(0, [(.iload_n 2, oA 2), (.aload_n 0, o0), (.getfield 25, vN, 0, 1101, 1, 900010, [(0, 447)]), (.if_icmp .ge 7, oA 1), (.iconst 1, oC (vI 1)), (.goto 4, oA 2)], 1),
  (12, [(.iconst 0, oC (vI 0))], 2),
  (13, [(.istore_n 3, oA 3), (.iload_n 2, oA 2), (.aload_n 1, oA 1), (.getfield 25, vN, 0, 1101, 1, 900010, [(0, 447)]), (.if_icmp .ge 7, oA 3), (.iconst 1, oC (vI 1)), (.goto 4, oA 4)], 3),
  (26, [(.iconst 0, oC (vI 0))], 4),
  (27, [(.istore 4, oA 4), (.iload_n 3, oA 3), (.ifCond .eq 8, oA 5), (.iload 4, oA 4), (.ifCond .ne 15, oA 8)], 5),
  (38, [(.iload_n 3, oA 3), (.iload 4, oA 4), (.if_icmp .ne 7, oA 6), (.iconst 1, oC (vI 1)), (.goto 4, oA 7)], 6),
  (48, [(.iconst 0, oC (vI 0))], 7),
  (49, [(.ireturn, oA 1)], 8),
  (50, [(.aload_n 0, o0), (.getfield 9, vN, 1, 1102000120, 2, 900010, [(0, 449)]), (.iload_n 2, oA 2), (.iaload, o0), (.aload_n 1, oA 1), (.getfield 9, vN, 1, 1102000120, 2, 900010, [(0, 449)]), (.iload_n 2, oA 2), (.iaload, o0), (.if_icmp .ne 37, oA 9), (.aload_n 0, o0), (.getfield 15, vN, 1, 1103000120, 3, 900010, [(0, 451)]), (.iload_n 2, oA 2), (.iaload, o0), (.aload_n 1, oA 1), (.getfield 15, vN, 1, 1103000120, 3, 900010, [(0, 451)]), (.iload_n 2, oA 2), (.iaload, o0), (.if_icmp .ne 22, oA 9), (.aload_n 0, o0), (.getfield 18, vN, 1, 1104000120, 4, 900010, [(0, 453)]), (.iload_n 2, oA 2), (.iaload, o0), (.aload_n 1, oA 1), (.getfield 18, vN, 1, 1104000120, 4, 900010, [(0, 453)]), (.iload_n 2, oA 2), (.iaload, o0), (.if_icmp .ne 7, oA 9), (.iconst 1, oC (vI 1)), (.goto 4, oA 10)], 9),
  (99, [(.iconst 0, oC (vI 0))], 10),
  (100, [(.ireturn, oA 1)], 11)]
def C_View_knowsAlike : List Nat := [4]
set_option maxRecDepth 100000 in
def B_View_freeMinutes : List Blk := [(0, [(.aload_n 0, o0), (.getfield 21, vN, 2, 900001, 0, 900010, [(0, 445), (0, 0)]), (.iload_n 1, oA 1), (.invokevirtual 57, vN, 17, 2, 1, 900001, [(0, 955)]), (.istore_n 3, oA 3), (.aload_n 2, oA 2), (.getfield 61, vN, 1, 604000040, 4, 900005, [(0, 79)]), (.aload_n 0, o0), (.getfield 21, vN, 2, 900001, 0, 900010, [(0, 445), (0, 0)]), (.getfield 66, vN, 1, 204000120, 4, 900001, [(0, 161)]), (.iload_n 1, oA 1), (.iaload, o0), (.iconst 4, oC (vI 4)), (.imul, o0), (.iload_n 3, oA 3), (.iadd, o0), (.iaload, o0), (.istore 4, oA 4), (.iconst 0, oC (vI 0)), (.istore 5, oA 5)], 1),
  (32, [(.iload 5, oA 5), (.aload_n 0, o0), (.getfield 25, vN, 0, 1101, 1, 900010, [(0, 447)]), (.if_icmp .ge 54, oA 3), (.iload 4, oA 4), (.ifCond .le 49, oA 3), (.aload_n 0, o0), (.iload 5, oA 5), (.invokevirtual 69, vN, 110, 2, 1, 900010, [(0, 956)]), (.ifCond .eq 34, oA 2), (.aload_n 0, o0), (.iload 5, oA 5), (.iload_n 1, oA 1), (.invokevirtual 73, vN, 117, 3, 1, 900010, [(0, 957)]), (.ifCond .eq 24, oA 2), (.aload_n 0, o0), (.iload 5, oA 5), (.iload_n 1, oA 1), (.invokevirtual 76, vN, 118, 3, 1, 900010, [(0, 962)]), (.ifCond .eq 14, oA 2), (.iload 4, oA 4), (.aload_n 0, o0), (.iload 5, oA 5), (.invokevirtual 79, vN, 111, 2, 1, 900010, [(0, 969)]), (.isub, o0), (.istore 4, oA 4)], 2),
  (86, [(.iinc 5 1, vI 1, 5, 0, 0, 0, []), (.goto (-57), oA 1)], 3),
  (92, [(.aload_n 0, o0), (.iload_n 1, oA 1), (.invokevirtual 79, vN, 111, 2, 1, 900010, [(0, 969)]), (.iload 4, oA 4), (.iconst 0, oC (vI 0)), (.invokestatic 82, vN, 336, 2, 1, 0, [(0, 970)]), (.invokestatic 88, vN, 337, 2, 1, 0, [(0, 973)]), (.ireturn, o0)], 4)]
def C_View_freeMinutes : List Nat := [1]
set_option maxRecDepth 100000 in
def B_View_sharesRight : List Blk := [(0, [(.aload_n 0, o0), (.getfield 21, vN, 2, 900001, 0, 900010, [(0, 445), (0, 0)]), (.getfield 66, vN, 1, 204000120, 4, 900001, [(0, 161)]), (.iload_n 1, oA 1), (.iaload, o0), (.aload_n 0, o0), (.getfield 21, vN, 2, 900001, 0, 900010, [(0, 445), (0, 0)]), (.getfield 66, vN, 1, 204000120, 4, 900001, [(0, 161)]), (.iload_n 2, oA 2), (.iaload, o0), (.if_icmp .ne 45, oA 1), (.aload_n 0, o0), (.getfield 21, vN, 2, 900001, 0, 900010, [(0, 445), (0, 0)]), (.iload_n 1, oA 1), (.invokevirtual 91, vN, 16, 2, 1, 900001, [(0, 961)]), (.aload_n 0, o0), (.getfield 21, vN, 2, 900001, 0, 900010, [(0, 445), (0, 0)]), (.iload_n 2, oA 2), (.invokevirtual 91, vN, 16, 2, 1, 900001, [(0, 961)]), (.if_icmp .ne 26, oA 1), (.aload_n 0, o0), (.getfield 21, vN, 2, 900001, 0, 900010, [(0, 445), (0, 0)]), (.iload_n 1, oA 1), (.invokevirtual 57, vN, 17, 2, 1, 900001, [(0, 955)]), (.aload_n 0, o0), (.getfield 21, vN, 2, 900001, 0, 900010, [(0, 445), (0, 0)]), (.iload_n 2, oA 2), (.invokevirtual 57, vN, 17, 2, 1, 900001, [(0, 955)]), (.if_icmp .ne 7, oA 1), (.iconst 1, oC (vI 1)), (.goto 4, oA 2)], 1),
  (63, [(.iconst 0, oC (vI 0))], 2),
  (64, [(.ireturn, oA 1)], 3)]
def C_View_sharesRight : List Nat := []
set_option maxRecDepth 100000 in
def B_View_isAhead : List Blk := [(0, [(.aload_n 0, o0), (.getfield 21, vN, 2, 900001, 0, 900010, [(0, 445), (0, 0)]), (.getfield 47, vN, 1, 205000120, 5, 900001, [(0, 165)]), (.iload_n 1, oA 1), (.iaload, o0), (.aload_n 0, o0), (.getfield 21, vN, 2, 900001, 0, 900010, [(0, 445), (0, 0)]), (.getfield 47, vN, 1, 205000120, 5, 900001, [(0, 165)]), (.iload_n 2, oA 2), (.iaload, o0), (.invokestatic 94, vN, 333, 2, 1, 0, [(0, 966)]), (.istore_n 3, oA 3), (.iload_n 3, oA 3), (.ifCond .lt 12, oA 1), (.iload_n 3, oA 3), (.ifCond .ne 12, oA 2), (.iload_n 1, oA 1), (.iload_n 2, oA 2), (.if_icmp .ge 7, oA 2)], 1),
  (35, [(.iconst 1, oC (vI 1)), (.goto 4, oA 3)], 2),
  (39, [(.iconst 0, oC (vI 0))], 3),
  (40, [(.ireturn, oA 1)], 4)]
def C_View_isAhead : List Nat := []
set_option maxRecDepth 100000 in
def B_View_markOut : List Blk := [(0, [(.iload_n 3, oA 3), (.sipush 720, oC (vI 720)), (.imul, o0), (.istore 5, oA 5), (.iload 5, oA 5), (.sipush 720, oC (vI 720)), (.iadd, o0), (.istore 6, oA 6), (.iconst 0, oC (vI 0)), (.istore 7, oA 7)], 1),
  (18, [(.iload 7, oA 7), (.aload_n 0, o0), (.getfield 25, vN, 0, 1101, 1, 900010, [(0, 447)]), (.if_icmp .ge 97, oA 6), (.aload_n 0, o0), (.getfield 21, vN, 2, 900001, 0, 900010, [(0, 445), (0, 0)]), (.getfield 66, vN, 1, 204000120, 4, 900001, [(0, 161)]), (.iload 7, oA 7), (.iaload, o0), (.iload_n 1, oA 1), (.if_icmp .ne 77, oA 5), (.aload_n 0, o0), (.getfield 21, vN, 2, 900001, 0, 900010, [(0, 445), (0, 0)]), (.getfield 47, vN, 1, 205000120, 5, 900001, [(0, 165)]), (.iload 7, oA 7), (.iaload, o0), (.iload 5, oA 5), (.invokestatic 82, vN, 336, 2, 1, 0, [(0, 970)]), (.istore 8, oA 8), (.aload_n 0, o0), (.iload 7, oA 7), (.invokevirtual 69, vN, 110, 2, 1, 900010, [(0, 956)]), (.ifCond .eq 18, oA 2), (.aload_n 0, o0), (.getfield 9, vN, 1, 1102000120, 2, 900010, [(0, 449)]), (.iload 7, oA 7), (.iaload, o0), (.iload 6, oA 6), (.invokestatic 88, vN, 337, 2, 1, 0, [(0, 973)]), (.goto 5, oA 3)], 2),
  (82, [(.iload 6, oA 6)], 3),
  (84, [(.istore 9, oA 9), (.iload 8, oA 8), (.istore 10, oA 10)], 4),
  (90, [(.iload 10, oA 10), (.iload 9, oA 9), (.if_icmp .ge 21, oA 5), (.aload 4, oA 4), (.iload 10, oA 10), (.iload 5, oA 5), (.isub, o0), (.dup2, o0), (.iaload, o0), (.iload_n 2, oA 2), (.ior, o0), (.iastore, o0), (.iinc 10 1, vI 1, 10, 0, 0, 0, []), (.goto (-22), oA 4)], 5),
  (115, [(.iinc 7 1, vI 1, 7, 0, 0, 0, []), (.goto (-100), oA 1)], 6),
  (121, [(.return_, o0)], 7)]
def C_View_markOut : List Nat := [1, 4]
set_option maxRecDepth 100000 in
def B_View_minutesOfBoat : List Blk := [(0, [(.iconst 0, oC (vI 0)), (.istore_n 2, oA 2), (.iconst 0, oC (vI 0)), (.istore_n 3, oA 3)], 1),
  (4, [(.iload_n 3, oA 3), (.aload_n 0, o0), (.getfield 25, vN, 0, 1101, 1, 900010, [(0, 447)]), (.if_icmp .ge 42, oA 4), (.iload_n 2, oA 2), (.aload_n 0, o0), (.getfield 21, vN, 2, 900001, 0, 900010, [(0, 445), (0, 0)]), (.getfield 54, vN, 1, 203000120, 3, 900001, [(0, 158)]), (.iload_n 3, oA 3), (.iaload, o0), (.iload_n 1, oA 1), (.if_icmp .ne 19, oA 2), (.aload_n 0, o0), (.iload_n 3, oA 3), (.invokevirtual 69, vN, 110, 2, 1, 900010, [(0, 956)]), (.ifCond .eq 11, oA 2), (.aload_n 0, o0), (.iload_n 3, oA 3), (.invokevirtual 79, vN, 111, 2, 1, 900010, [(0, 969)]), (.goto 4, oA 3)], 2),
  (42, [(.iconst 0, oC (vI 0))], 3),
  (43, [(.iadd, o0), (.istore_n 2, oA 2), (.iinc 3 1, vI 1, 3, 0, 0, 0, []), (.goto (-44), oA 1)], 4),
  (51, [(.iload_n 2, oA 2), (.ireturn, o0)], 5)]
def C_View_minutesOfBoat : List Nat := [1]
set_option maxRecDepth 100000 in
def B_View_hiresOfBoat : List Blk := [(0, [(.iconst 0, oC (vI 0)), (.istore_n 2, oA 2), (.iconst 0, oC (vI 0)), (.istore_n 3, oA 3)], 1),
  (4, [(.iload_n 3, oA 3), (.aload_n 0, o0), (.getfield 25, vN, 0, 1101, 1, 900010, [(0, 447)]), (.if_icmp .ge 38, oA 4), (.iload_n 2, oA 2), (.aload_n 0, o0), (.getfield 21, vN, 2, 900001, 0, 900010, [(0, 445), (0, 0)]), (.getfield 54, vN, 1, 203000120, 3, 900001, [(0, 158)]), (.iload_n 3, oA 3), (.iaload, o0), (.iload_n 1, oA 1), (.if_icmp .ne 15, oA 2), (.aload_n 0, o0), (.iload_n 3, oA 3), (.invokevirtual 69, vN, 110, 2, 1, 900010, [(0, 956)]), (.ifCond .eq 7, oA 2), (.iconst 1, oC (vI 1)), (.goto 4, oA 3)], 2),
  (38, [(.iconst 0, oC (vI 0))], 3),
  (39, [(.iadd, o0), (.istore_n 2, oA 2), (.iinc 3 1, vI 1, 3, 0, 0, 0, []), (.goto (-40), oA 1)], 4),
  (47, [(.iload_n 2, oA 2), (.ireturn, o0)], 5)]
def C_View_hiresOfBoat : List Nat := [1]
set_option maxRecDepth 100000 in
def B_View_waitFor : List Blk := [(0, [(.iconst 0, oC (vI 0)), (.istore 4, oA 4)], 1),
  (3, [(.iload 4, oA 4), (.aload_n 0, o0), (.getfield 25, vN, 0, 1101, 1, 900010, [(0, 447)]), (.if_icmp .ge 63, oA 3), (.aload_n 0, o0), (.getfield 21, vN, 2, 900001, 0, 900010, [(0, 445), (0, 0)]), (.getfield 54, vN, 1, 203000120, 3, 900001, [(0, 158)]), (.iload 4, oA 4), (.iaload, o0), (.iload_n 1, oA 1), (.if_icmp .ne 43, oA 2), (.aload_n 0, o0), (.iload 4, oA 4), (.iload_n 2, oA 2), (.invokevirtual 50, vN, 112, 3, 1, 900010, [(0, 810)]), (.ifCond .eq 33, oA 2), (.iconst 0, oC (vI 0)), (.aload_n 0, o0), (.getfield 21, vN, 2, 900001, 0, 900010, [(0, 445), (0, 0)]), (.getfield 47, vN, 1, 205000120, 5, 900001, [(0, 165)]), (.iload 4, oA 4), (.iaload, o0), (.aload_n 0, o0), (.getfield 21, vN, 2, 900001, 0, 900010, [(0, 445), (0, 0)]), (.getfield 99, vN, 1, 206000120, 6, 900001, [(0, 169)]), (.iload 4, oA 4), (.iaload, o0), (.iadd, o0), (.iload_n 3, oA 3), (.iadd, o0), (.iload_n 2, oA 2), (.isub, o0), (.invokestatic 82, vN, 336, 2, 1, 0, [(0, 970)]), (.ireturn, o0)], 2),
  (66, [(.iinc 4 1, vI 1, 4, 0, 0, 0, []), (.goto (-66), oA 1)], 3),
  (72, [(.iconst 0, oC (vI 0)), (.ireturn, o0)], 4)]
def C_View_waitFor : List Nat := [1]
set_option maxRecDepth 100000 in
def B_P_init : List Blk := [(0, [(.aload_n 0, o0), (.invokespecial 1, vN, 901, 0, 0, 0, [(0, 27)]), (.aload_n 0, o0), (.new 7, vN, 900006, 700, 6, 0, [(0, 30)]), (.dup, o0), (.invokespecial 9, vN, 63, 1, 13, 900006, [(0, 32)]), (.putfield 10, vN, 1, 900006, 0, 900011, [(0, 507)]), (.aload_n 0, o0), (.iconst 5, oC (vI 5)), (.anewarray 16, vN, 1201400005, 0, 0, 0, [(0, 57)]), (.putfield 18, vN, 1, 1201400005, 1, 900011, [(0, 508)]), (.aload_n 0, o0), (.new 16, vN, 900005, 600, 17, 0, [(0, 57)]), (.dup, o0), (.invokespecial 22, vN, 52, 1, 96286, 900005, [(0, 60)]), (.putfield 23, vN, 1, 900005, 2, 900011, [(0, 509)]), (.aload_n 0, o0), (.iconst (-1), oC (vI (-1))), (.putfield 27, vN, 0, 1204, 4, 900011, [(0, 511)]), (.aload_n 0, o0), (.new 31, vN, 900009, 1000, 6, 0, [(0, 139)]), (.dup, o0), (.invokespecial 33, vN, 105, 1, 63, 900009, [(0, 141)]), (.putfield 34, vN, 1, 900009, 5, 900011, [(0, 512)]), (.aload_n 0, o0), (.iconst 3, oC (vI 3)), (.anewarray 31, vN, 1206500003, 0, 0, 0, [(0, 139)]), (.putfield 38, vN, 1, 1206500003, 6, 900011, [(0, 513)]), (.aload_n 0, o0), (.new 42, vN, 900010, 1100, 5, 0, [(0, 439)]), (.dup, o0), (.aload_n 0, o0), (.getfield 34, vN, 1, 900009, 5, 900011, [(0, 512)]), (.getfield 44, vN, 1, 900001, 0, 900009, [(0, 414)]), (.invokespecial 48, vN, 107, 2, 29, 900010, [(0, 441)]), (.putfield 51, vN, 1, 900010, 8, 900011, [(0, 515)]), (.aload_n 0, o0), (.new 42, vN, 900010, 1100, 5, 0, [(0, 439)]), (.dup, o0), (.aload_n 0, o0), (.getfield 34, vN, 1, 900009, 5, 900011, [(0, 512)]), (.getfield 44, vN, 1, 900001, 0, 900009, [(0, 414)]), (.invokespecial 48, vN, 107, 2, 29, 900010, [(0, 441)]), (.putfield 55, vN, 2, 900010, 109, 900011, [(0, 516), (0, 9)]), (.aload_n 0, o0), (.new 58, vN, 900000, 100, 10, 0, [(0, 466)]), (.dup, o0), (.invokespecial 60, vN, 0, 1, 0, 900000, [(0, 468)]), (.putfield 61, vN, 1, 900000, 10, 900011, [(0, 517)]), (.aload_n 0, o0), (.bipush 8, oC (vI 8)), (.newarray .int, oA 1211000008), (.putfield 65, vN, 1, 1211000008, 11, 900011, [(0, 518)]), (.aload_n 0, o0), (.sipush 721, oC (vI 721)), (.newarray .int, oA 1212000721), (.putfield 69, vN, 1, 1212000721, 12, 900011, [(0, 519)]), (.aload_n 0, o0), (.sipush 2304, oC (vI 2304)), (.newarray .int, oA 1213002304), (.putfield 74, vN, 1, 1213002304, 13, 900011, [(0, 520)]), (.return_, o0)], 1)]
def C_P_init : List Nat := []
set_option maxRecDepth 100000 in
def B_P_feed : List Blk := [(0, [(.aload_n 0, o0), (.getfield 10, vN, 1, 900006, 0, 900011, [(0, 507)]), (.bipush 20, oC (vI 20)), (.invokevirtual 77, vN, 64, 2, 1, 900006, [(0, 554)]), (.ifCond .ne 5, oA 1), (.iconst (-1), oC (vI (-1))), (.ireturn, o0)], 1),
  (14, [(.aload_n 0, o0), (.getfield 10, vN, 1, 900006, 0, 900011, [(0, 507)]), (.iload_n 1, oA 1), (.invokevirtual 81, vN, 65, 2, 0, 900006, [(0, 558)]), (.aload_n 0, o0), (.getfield 10, vN, 1, 900006, 0, 900011, [(0, 507)]), (.iload_n 2, oA 2), (.invokevirtual 81, vN, 65, 2, 0, 900006, [(0, 558)]), (.aload_n 0, o0), (.getfield 10, vN, 1, 900006, 0, 900011, [(0, 507)]), (.iload_n 3, oA 3), (.invokevirtual 81, vN, 65, 2, 0, 900006, [(0, 558)]), (.aload_n 0, o0), (.getfield 10, vN, 1, 900006, 0, 900011, [(0, 507)]), (.iload 4, oA 4), (.invokevirtual 81, vN, 65, 2, 0, 900006, [(0, 558)]), (.aload_n 0, o0), (.getfield 10, vN, 1, 900006, 0, 900011, [(0, 507)]), (.iload 5, oA 5), (.invokevirtual 81, vN, 65, 2, 0, 900006, [(0, 558)]), (.aload_n 0, o0), (.getfield 10, vN, 1, 900006, 0, 900011, [(0, 507)]), (.getfield 85, vN, 0, 701, 1, 900006, [(0, 38)]), (.ireturn, o0)], 2)]
def C_P_feed : List Nat := []
set_option maxRecDepth 100000 in
def B_P_law : List Blk := [(0, [(.iload_n 1, oA 1), (.ifCond .lt 21, oA 1), (.iload_n 1, oA 1), (.aload_n 0, o0), (.getfield 10, vN, 1, 900006, 0, 900011, [(0, 507)]), (.getfield 85, vN, 0, 701, 1, 900006, [(0, 38)]), (.if_icmp .gt 10, oA 1), (.iload_n 2, oA 2), (.invokestatic 88, vN, 179, 1, 1, 0, [(0, 566)]), (.ifCond .ne 6, oA 2)], 1),
  (22, [(.bipush (-2), oC (vI (-2))), (.ireturn, o0)], 2),
  (25, [(.aload_n 0, o0), (.getfield 91, vN, 0, 1203, 3, 900011, [(0, 510)]), (.iconst 5, oC (vI 5)), (.if_icmp .lt 6, oA 3), (.bipush (-3), oC (vI (-3))), (.ireturn, o0)], 3),
  (36, [(.aload_n 0, o0), (.getfield 18, vN, 1, 1201400005, 1, 900011, [(0, 508)]), (.aload_n 0, o0), (.getfield 91, vN, 0, 1203, 3, 900011, [(0, 510)]), (.aaload, vN, 0, 4, 900005, 0, []), (.astore_n 3, oA 3), (.aload_n 3, oA 3), (.ifnonnull 21, oA 4), (.new 16, vN, 900005, 600, 17, 0, [(0, 57)]), (.dup, o0), (.invokespecial 22, vN, 52, 1, 96286, 900005, [(0, 60)]), (.astore_n 3, oA 3), (.aload_n 0, o0), (.getfield 18, vN, 1, 1201400005, 1, 900011, [(0, 508)]), (.aload_n 0, o0), (.getfield 91, vN, 0, 1203, 3, 900011, [(0, 510)]), (.aload_n 3, oA 3), (.aastore, vN, 0, 4, 900005, 0, [])], 4),
  (68, [(.aload_n 3, oA 3), (.iload_n 2, oA 2), (.invokevirtual 94, vN, 53, 2, 0, 900005, [(0, 569)]), (.aload_n 0, o0), (.aload_n 0, o0), (.getfield 10, vN, 1, 900006, 0, 900011, [(0, 507)]), (.iload_n 1, oA 1), (.aload_n 3, oA 3), (.invokevirtual 97, vN, 66, 3, 1, 900006, [(0, 573)]), (.putfield 27, vN, 0, 1204, 4, 900011, [(0, 511)]), (.aload_n 0, o0), (.getfield 27, vN, 0, 1204, 4, 900011, [(0, 511)]), (.iconst (-1), oC (vI (-1))), (.if_icmp .eq 5, oA 5), (.iconst (-1), oC (vI (-1))), (.ireturn, o0)], 5),
  (96, [(.aload_n 0, o0), (.dup, o0), (.getfield 91, vN, 0, 1203, 3, 900011, [(0, 510)]), (.iconst 1, oC (vI 1)), (.iadd, o0), (.putfield 91, vN, 0, 1203, 3, 900011, [(0, 510)]), (.aload_n 0, o0), (.getfield 91, vN, 0, 1203, 3, 900011, [(0, 510)]), (.iconst 1, oC (vI 1)), (.isub, o0), (.ireturn, o0)], 6)]
def C_P_law : List Nat := []
set_option maxRecDepth 100000 in
def B_P_fault : List Blk := [(0, [(.aload_n 0, o0), (.getfield 27, vN, 0, 1204, 4, 900011, [(0, 511)]), (.ireturn, o0)], 1)]
def C_P_fault : List Nat := []
set_option maxRecDepth 100000 in
def B_P_rule : List Blk := [(0, [(.iload_n 1, oA 1), (.invokestatic 88, vN, 179, 1, 1, 0, [(0, 566)]), (.ifCond .ne 5, oA 1), (.iconst (-1), oC (vI (-1))), (.ireturn, o0)], 1),
  (9, [(.iload_n 2, oA 2), (.ifCond .ne 9, oA 2), (.aload_n 0, o0), (.iload_n 1, oA 1), (.invokevirtual 101, vN, 187, 2, 1, 900011, [(0, 729)]), (.ireturn, o0)], 2),
  (19, [(.aload_n 0, o0), (.iload_n 1, oA 1), (.invokevirtual 105, vN, 188, 2, 900005, 900011, [(0, 733)]), (.iload_n 2, oA 2), (.invokevirtual 109, vN, 57, 2, 1, 900005, [(0, 737)]), (.ireturn, o0)], 3)]
def C_P_rule : List Nat := []
set_option maxRecDepth 100000 in
def B_P_water : List Blk := [(0, [(.iload_n 1, oA 1), (.invokestatic 88, vN, 179, 1, 1, 0, [(0, 566)]), (.ifCond .eq 13, oA 1), (.iload_n 2, oA 2), (.iconst 0, oC (vI 0)), (.bipush 99, oC (vI 99)), (.invokestatic 112, vN, 177, 3, 1, 0, [(0, 745)]), (.ifCond .ne 5, oA 2)], 1),
  (17, [(.iconst 0, oC (vI 0)), (.ireturn, oA 1)], 2),
  (19, [(.aload_n 0, o0), (.getfield 34, vN, 1, 900009, 5, 900011, [(0, 512)]), (.getfield 116, vN, 1, 900007, 1, 900009, [(0, 416)]), (.getfield 120, vN, 1, 800000100, 0, 900007, [(0, 229)]), (.iload_n 1, oA 1), (.iload_n 2, oA 2), (.iastore, o0), (.iconst 1, oC (vI 1)), (.ireturn, oA 1)], 3)]
def C_P_water : List Nat := []
set_option maxRecDepth 100000 in
def B_P_rain : List Blk := [(0, [(.iload_n 1, oA 1), (.invokestatic 88, vN, 179, 1, 1, 0, [(0, 566)]), (.ifCond .eq 14, oA 1), (.iload_n 2, oA 2), (.iload_n 3, oA 3), (.sipush 720, oC (vI 720)), (.invokestatic 125, vN, 178, 3, 1, 0, [(0, 752)]), (.ifCond .ne 5, oA 2)], 1),
  (18, [(.iconst (-1), oC (vI (-1))), (.ireturn, o0)], 2),
  (20, [(.aload_n 0, o0), (.getfield 34, vN, 1, 900009, 5, 900011, [(0, 512)]), (.getfield 116, vN, 1, 900007, 1, 900009, [(0, 416)]), (.iload_n 1, oA 1), (.iload_n 2, oA 2), (.iload_n 3, oA 3), (.invokevirtual 128, vN, 92, 4, 1, 900007, [(0, 755)]), (.ireturn, o0)], 3)]
def C_P_rain : List Nat := []
set_option maxRecDepth 100000 in
def B_P_boat : List Blk := [(0, [(.iload_n 1, oA 1), (.invokestatic 132, vN, 181, 1, 1, 0, [(0, 763)]), (.ifCond .eq 17, oA 1), (.aload_n 0, o0), (.getfield 34, vN, 1, 900009, 5, 900011, [(0, 512)]), (.getfield 44, vN, 1, 900001, 0, 900009, [(0, 414)]), (.iload_n 1, oA 1), (.invokevirtual 135, vN, 11, 2, 1, 900001, [(0, 766)]), (.goto 4, oA 2)], 1),
  (21, [(.iconst (-1), oC (vI (-1)))], 2),
  (22, [(.ireturn, o0)], 3)]
def C_P_boat : List Nat := []
set_option maxRecDepth 100000 in
def B_P_free : List Blk := [(0, [(.aload_n 0, o0), (.iload_n 1, oA 1), (.invokevirtual 140, vN, 184, 2, 1, 900011, [(0, 774)]), (.ifCond .eq 10, oA 1), (.iload_n 2, oA 2), (.invokestatic 143, vN, 180, 1, 1, 0, [(0, 778)]), (.ifCond .ne 5, oA 2)], 1),
  (15, [(.iconst (-1), oC (vI (-1))), (.ireturn, o0)], 2),
  (17, [(.aload_n 0, o0), (.iload_n 1, oA 1), (.iload_n 2, oA 2), (.invokevirtual 146, vN, 189, 3, 1, 900011, [(0, 782)]), (.ifCond .eq 7, oA 3), (.iconst 1, oC (vI 1)), (.goto 4, oA 4)], 3),
  (30, [(.iconst 0, oC (vI 0))], 4),
  (31, [(.ireturn, o0)], 5)]
def C_P_free : List Nat := []
set_option maxRecDepth 100000 in
def B_P_out : List Blk := [(0, [(.aload_n 0, o0), (.iload_n 1, oA 1), (.invokevirtual 140, vN, 184, 2, 1, 900011, [(0, 774)]), (.ifCond .eq 29, oA 1), (.iload_n 2, oA 2), (.invokestatic 150, vN, 182, 1, 1, 0, [(0, 841)]), (.ifCond .eq 22, oA 1), (.iload_n 3, oA 3), (.invokestatic 143, vN, 180, 1, 1, 0, [(0, 778)]), (.ifCond .eq 15, oA 1), (.iload 4, oA 4), (.iconst 1, oC (vI 1)), (.sipush 720, oC (vI 720)), (.invokestatic 112, vN, 177, 3, 1, 0, [(0, 745)]), (.ifCond .ne 5, oA 2)], 1),
  (34, [(.iconst (-1), oC (vI (-1))), (.ireturn, o0)], 2),
  (36, [(.iload_n 3, oA 3), (.sipush 720, oC (vI 720)), (.irem, o0), (.iload 4, oA 4), (.iadd, o0), (.sipush 720, oC (vI 720)), (.if_icmp .gt 25, oA 3), (.aload_n 0, o0), (.getfield 34, vN, 1, 900009, 5, 900011, [(0, 512)]), (.getfield 44, vN, 1, 900001, 0, 900009, [(0, 414)]), (.invokevirtual 153, vN, 12, 1, 1, 900001, [(0, 844)]), (.ifCond .eq 12, oA 3), (.aload_n 0, o0), (.iload_n 1, oA 1), (.iload_n 3, oA 3), (.invokevirtual 146, vN, 189, 3, 1, 900011, [(0, 782)]), (.ifCond .ne 5, oA 4)], 3),
  (72, [(.iconst (-1), oC (vI (-1))), (.ireturn, o0)], 4),
  (74, [(.aload_n 0, o0), (.getfield 34, vN, 1, 900009, 5, 900011, [(0, 512)]), (.getfield 44, vN, 1, 900001, 0, 900009, [(0, 414)]), (.iload_n 1, oA 1), (.iload_n 2, oA 2), (.iload_n 3, oA 3), (.iload 4, oA 4), (.invokevirtual 156, vN, 13, 5, 1, 900001, [(0, 848)]), (.ireturn, o0)], 5)]
def C_P_out : List Nat := []
set_option maxRecDepth 100000 in
def B_P_back : List Blk := [(0, [(.aload_n 0, o0), (.iload_n 1, oA 1), (.iload_n 2, oA 2), (.invokevirtual 160, vN, 190, 3, 1, 900011, [(0, 861)]), (.ifCond .ne 5, oA 1), (.iconst (-1), oC (vI (-1))), (.ireturn, o0)], 1),
  (11, [(.aload_n 0, o0), (.getfield 51, vN, 1, 900010, 8, 900011, [(0, 515)]), (.aload_n 0, o0), (.getfield 34, vN, 1, 900009, 5, 900011, [(0, 512)]), (.getfield 44, vN, 1, 900001, 0, 900009, [(0, 414)]), (.getfield 163, vN, 0, 210, 10, 900001, [(0, 177)]), (.invokevirtual 166, vN, 108, 2, 0, 900010, [(0, 786)]), (.aload_n 0, o0), (.getfield 51, vN, 1, 900010, 8, 900011, [(0, 515)]), (.iload_n 1, oA 1), (.invokevirtual 169, vN, 110, 2, 1, 900010, [(0, 873)]), (.ifCond .eq 7, oA 2), (.iconst (-1), oC (vI (-1))), (.goto 16, oA 3)], 2),
  (43, [(.aload_n 0, o0), (.getfield 34, vN, 1, 900009, 5, 900011, [(0, 512)]), (.getfield 44, vN, 1, 900001, 0, 900009, [(0, 414)]), (.iconst 1, oC (vI 1)), (.iload_n 1, oA 1), (.iload_n 2, oA 2), (.invokevirtual 172, vN, 14, 4, 1, 900001, [(0, 877)])], 3),
  (56, [(.ireturn, o0)], 4)]
def C_P_back : List Nat := []
set_option maxRecDepth 100000 in
def B_P_mend : List Blk := [(0, [(.aload_n 0, o0), (.iload_n 1, oA 1), (.iload_n 2, oA 2), (.invokevirtual 160, vN, 190, 3, 1, 900011, [(0, 861)]), (.ifCond .ne 5, oA 1), (.iconst (-1), oC (vI (-1))), (.ireturn, o0)], 1),
  (11, [(.aload_n 0, o0), (.getfield 51, vN, 1, 900010, 8, 900011, [(0, 515)]), (.aload_n 0, o0), (.getfield 34, vN, 1, 900009, 5, 900011, [(0, 512)]), (.getfield 44, vN, 1, 900001, 0, 900009, [(0, 414)]), (.getfield 163, vN, 0, 210, 10, 900001, [(0, 177)]), (.invokevirtual 166, vN, 108, 2, 0, 900010, [(0, 786)]), (.aload_n 0, o0), (.getfield 34, vN, 1, 900009, 5, 900011, [(0, 512)]), (.getfield 44, vN, 1, 900001, 0, 900009, [(0, 414)]), (.iload_n 1, oA 1), (.invokevirtual 175, vN, 18, 2, 1, 900001, [(0, 882)]), (.istore_n 3, oA 3), (.aload_n 0, o0), (.getfield 51, vN, 1, 900010, 8, 900011, [(0, 515)]), (.iload_n 1, oA 1), (.invokevirtual 169, vN, 110, 2, 1, 900010, [(0, 873)]), (.ifCond .eq 13, oA 2), (.iload_n 3, oA 3), (.iconst (-1), oC (vI (-1))), (.if_icmp .eq 10, oA 3), (.iload_n 2, oA 2), (.iload_n 3, oA 3), (.if_icmp .le 5, oA 3)], 2),
  (61, [(.iconst (-1), oC (vI (-1))), (.ireturn, o0)], 3),
  (63, [(.aload_n 0, o0), (.getfield 34, vN, 1, 900009, 5, 900011, [(0, 512)]), (.getfield 44, vN, 1, 900001, 0, 900009, [(0, 414)]), (.iconst 1, oC (vI 1)), (.iload_n 1, oA 1), (.iload_n 2, oA 2), (.invokevirtual 172, vN, 14, 4, 1, 900001, [(0, 877)]), (.ireturn, o0)], 4)]
def C_P_mend : List Nat := []
set_option maxRecDepth 100000 in
def B_P_swamp : List Blk := [(0, [(.aload_n 0, o0), (.iload_n 1, oA 1), (.invokevirtual 178, vN, 185, 2, 1, 900011, [(0, 865)]), (.ifCond .eq 14, oA 1), (.iload_n 2, oA 2), (.iconst 0, oC (vI 0)), (.sipush 9999, oC (vI 9999)), (.invokestatic 112, vN, 177, 3, 1, 0, [(0, 745)]), (.ifCond .ne 5, oA 2)], 1),
  (19, [(.iconst (-1), oC (vI (-1))), (.ireturn, o0)], 2),
  (21, [(.aload_n 0, o0), (.getfield 34, vN, 1, 900009, 5, 900011, [(0, 512)]), (.getfield 44, vN, 1, 900001, 0, 900009, [(0, 414)]), (.iconst 2, oC (vI 2)), (.iload_n 1, oA 1), (.iload_n 2, oA 2), (.invokevirtual 172, vN, 14, 4, 1, 900001, [(0, 877)]), (.ireturn, o0)], 3)]
def C_P_swamp : List Nat := []
set_option maxRecDepth 100000 in
def B_P_cushions : List Blk := [(0, [(.aload_n 0, o0), (.iload_n 1, oA 1), (.invokevirtual 178, vN, 185, 2, 1, 900011, [(0, 865)]), (.ifCond .eq 23, oA 1), (.iload_n 2, oA 2), (.iconst 0, oC (vI 0)), (.bipush 9, oC (vI 9)), (.invokestatic 112, vN, 177, 3, 1, 0, [(0, 745)]), (.ifCond .eq 13, oA 1), (.iload_n 3, oA 3), (.iconst 0, oC (vI 0)), (.bipush 9, oC (vI 9)), (.invokestatic 112, vN, 177, 3, 1, 0, [(0, 745)]), (.ifCond .ne 5, oA 2)], 1),
  (28, [(.iconst (-1), oC (vI (-1))), (.ireturn, o0)], 2),
  (30, [(.aload_n 0, o0), (.getfield 34, vN, 1, 900009, 5, 900011, [(0, 512)]), (.getfield 44, vN, 1, 900001, 0, 900009, [(0, 414)]), (.iconst 3, oC (vI 3)), (.iload_n 1, oA 1), (.iload_n 2, oA 2), (.bipush 10, oC (vI 10)), (.imul, o0), (.iload_n 3, oA 3), (.iadd, o0), (.invokevirtual 172, vN, 14, 4, 1, 900001, [(0, 877)]), (.ireturn, o0)], 3)]
def C_P_cushions : List Nat := []
set_option maxRecDepth 100000 in
def B_P_weed : List Blk := [(0, [(.iload_n 1, oA 1), (.iconst 0, oC (vI 0)), (.bipush 99, oC (vI 99)), (.invokestatic 112, vN, 177, 3, 1, 0, [(0, 745)]), (.ifCond .ne 5, oA 1), (.iconst 0, oC (vI 0)), (.ireturn, oA 1)], 1),
  (12, [(.aload_n 0, o0), (.getfield 34, vN, 1, 900009, 5, 900011, [(0, 512)]), (.getfield 116, vN, 1, 900007, 1, 900009, [(0, 416)]), (.iload_n 1, oA 1), (.putfield 181, vN, 0, 805, 5, 900007, [(0, 236)]), (.iconst 1, oC (vI 1)), (.ireturn, oA 1)], 2)]
def C_P_weed : List Nat := []
set_option maxRecDepth 100000 in
def B_P_cut : List Blk := [(0, [(.iload_n 1, oA 1), (.invokestatic 88, vN, 179, 1, 1, 0, [(0, 566)]), (.ifCond .eq 18, oA 1), (.aload_n 0, o0), (.getfield 34, vN, 1, 900009, 5, 900011, [(0, 512)]), (.getfield 116, vN, 1, 900007, 1, 900009, [(0, 416)]), (.getfield 184, vN, 1, 806000100, 6, 900007, [(0, 238)]), (.iload_n 1, oA 1), (.iaload, o0), (.ifCond .eq 5, oA 2)], 1),
  (22, [(.iconst 0, oC (vI 0)), (.ireturn, oA 1)], 2),
  (24, [(.aload_n 0, o0), (.getfield 34, vN, 1, 900009, 5, 900011, [(0, 512)]), (.getfield 116, vN, 1, 900007, 1, 900009, [(0, 416)]), (.getfield 184, vN, 1, 806000100, 6, 900007, [(0, 238)]), (.iload_n 1, oA 1), (.iconst 1, oC (vI 1)), (.iastore, o0), (.iconst 1, oC (vI 1)), (.ireturn, oA 1)], 3)]
def C_P_cut : List Nat := []
set_option maxRecDepth 100000 in
def B_P_hire : List Blk := [(0, [(.aload_n 0, o0), (.iload_n 1, oA 1), (.invokevirtual 178, vN, 185, 2, 1, 900011, [(0, 865)]), (.ifCond .eq 18, oA 1), (.aload_n 0, o0), (.getfield 34, vN, 1, 900009, 5, 900011, [(0, 512)]), (.getfield 44, vN, 1, 900001, 0, 900009, [(0, 414)]), (.iload_n 1, oA 1), (.iload_n 2, oA 2), (.invokevirtual 187, vN, 15, 3, 1, 900001, [(0, 906)]), (.goto 4, oA 2)], 1),
  (23, [(.iconst (-1), oC (vI (-1)))], 2),
  (24, [(.ireturn, o0)], 3)]
def C_P_hire : List Nat := []
set_option maxRecDepth 100000 in
def B_P_known : List Blk := [(0, [(.aload_n 0, o0), (.iload_n 1, oA 1), (.iload_n 2, oA 2), (.invokevirtual 190, vN, 192, 3, 1, 900011, [(0, 914)]), (.ifCond .ne 6, oA 1), (.bipush (-2), oC (vI (-2))), (.ireturn, o0)], 1),
  (12, [(.aload_n 0, o0), (.getfield 51, vN, 1, 900010, 8, 900011, [(0, 515)]), (.getfield 193, vN, 1, 1102000120, 2, 900010, [(0, 450)]), (.iload_n 1, oA 1), (.iaload, o0), (.ireturn, o0)], 2)]
def C_P_known : List Nat := []
set_option maxRecDepth 100000 in
def B_P_bill : List Blk := [(0, [(.aload_n 0, o0), (.iload_n 1, oA 1), (.iload_n 2, oA 2), (.invokevirtual 190, vN, 192, 3, 1, 900011, [(0, 914)]), (.ifCond .eq 14, oA 1), (.aload_n 0, o0), (.getfield 51, vN, 1, 900010, 8, 900011, [(0, 515)]), (.iload_n 1, oA 1), (.invokevirtual 169, vN, 110, 2, 1, 900010, [(0, 873)]), (.ifCond .ne 6, oA 2)], 1),
  (20, [(.ldc 196, vI (-1000000), 0, 0, 0, 0, [(0, 926)]), (.ireturn, o0)], 2),
  (23, [(.aload_n 0, o0), (.getfield 34, vN, 1, 900009, 5, 900011, [(0, 512)]), (.getfield 44, vN, 1, 900001, 0, 900009, [(0, 414)]), (.iload_n 1, oA 1), (.invokevirtual 197, vN, 16, 2, 1, 900001, [(0, 869)]), (.istore 4, oA 4), (.aload_n 0, o0), (.getfield 34, vN, 1, 900009, 5, 900011, [(0, 512)]), (.getfield 116, vN, 1, 900007, 1, 900009, [(0, 416)]), (.iload 4, oA 4), (.aload_n 0, o0), (.getfield 69, vN, 1, 1212000721, 12, 900011, [(0, 519)]), (.invokevirtual 200, vN, 96, 3, 0, 900007, [(0, 927)]), (.aload_n 0, o0), (.iload_n 1, oA 1), (.aload_n 0, o0), (.iload 4, oA 4), (.invokevirtual 105, vN, 188, 2, 900005, 900011, [(0, 733)]), (.invokevirtual 204, vN, 194, 3, 0, 900011, [(0, 931)]), (.aload_n 0, o0), (.getfield 61, vN, 1, 900000, 10, 900011, [(0, 517)]), (.iload_n 3, oA 3), (.invokevirtual 208, vN, 8, 2, 1, 900000, [(0, 995)]), (.ireturn, o0)], 3)]
def C_P_bill : List Nat := []
set_option maxRecDepth 100000 in
def B_P_outs : List Blk := [(0, [(.iload_n 1, oA 1), (.invokestatic 143, vN, 180, 1, 1, 0, [(0, 778)]), (.ifCond .eq 11, oA 1), (.aload_n 0, o0), (.iload_n 2, oA 2), (.invokevirtual 209, vN, 186, 2, 1, 900011, [(0, 918)]), (.ifCond .ne 5, oA 2)], 1),
  (15, [(.iconst (-1), oC (vI (-1))), (.ireturn, o0)], 2),
  (17, [(.aload_n 0, o0), (.getfield 51, vN, 1, 900010, 8, 900011, [(0, 515)]), (.iload_n 2, oA 2), (.invokevirtual 166, vN, 108, 2, 0, 900010, [(0, 786)]), (.aload_n 0, o0), (.getfield 51, vN, 1, 900010, 8, 900011, [(0, 515)]), (.iload_n 1, oA 1), (.invokevirtual 212, vN, 113, 2, 1, 900010, [(0, 806)]), (.ireturn, o0)], 3)]
def C_P_outs : List Nat := []
set_option maxRecDepth 100000 in
def B_P_takings : List Blk := [(0, [(.iload_n 1, oA 1), (.invokestatic 88, vN, 179, 1, 1, 0, [(0, 566)]), (.ifCond .eq 11, oA 1), (.aload_n 0, o0), (.iload_n 2, oA 2), (.invokevirtual 209, vN, 186, 2, 1, 900011, [(0, 918)]), (.ifCond .ne 6, oA 2)], 1),
  (15, [(.ldc 196, vI (-1000000), 0, 0, 0, 0, [(0, 926)]), (.ireturn, o0)], 2),
  (18, [(.aload_n 0, o0), (.getfield 51, vN, 1, 900010, 8, 900011, [(0, 515)]), (.iload_n 2, oA 2), (.invokevirtual 166, vN, 108, 2, 0, 900010, [(0, 786)]), (.aload_n 0, o0), (.getfield 34, vN, 1, 900009, 5, 900011, [(0, 512)]), (.getfield 116, vN, 1, 900007, 1, 900009, [(0, 416)]), (.iload_n 1, oA 1), (.aload_n 0, o0), (.getfield 69, vN, 1, 1212000721, 12, 900011, [(0, 519)]), (.invokevirtual 200, vN, 96, 3, 0, 900007, [(0, 927)]), (.aload_n 0, o0), (.iload_n 1, oA 1), (.invokevirtual 105, vN, 188, 2, 900005, 900011, [(0, 733)]), (.astore_n 3, oA 3), (.iconst 0, oC (vI 0)), (.istore 4, oA 4), (.iconst 0, oC (vI 0)), (.istore 5, oA 5)], 3),
  (53, [(.iload 5, oA 5), (.aload_n 0, o0), (.getfield 51, vN, 1, 900010, 8, 900011, [(0, 515)]), (.getfield 215, vN, 0, 1101, 1, 900010, [(0, 448)]), (.if_icmp .ge 38, oA 5), (.aload_n 0, o0), (.iload 5, oA 5), (.iload_n 1, oA 1), (.invokevirtual 218, vN, 193, 3, 1, 900011, [(0, 1012)]), (.ifCond .eq 22, oA 4), (.aload_n 0, o0), (.iload 5, oA 5), (.aload_n 3, oA 3), (.invokevirtual 204, vN, 194, 3, 0, 900011, [(0, 931)]), (.iload 4, oA 4), (.aload_n 0, o0), (.getfield 61, vN, 1, 900000, 10, 900011, [(0, 517)]), (.invokevirtual 221, vN, 7, 1, 1, 900000, [(0, 1016)]), (.iadd, o0), (.istore 4, oA 4)], 4),
  (94, [(.iinc 5 1, vI 1, 5, 0, 0, 0, []), (.goto (-44), oA 3)], 5),
  (100, [(.iload 4, oA 4), (.ireturn, o0)], 6)]
def C_P_takings : List Nat := [3]
set_option maxRecDepth 100000 in
def B_P_differ : List Blk := [(0, [(.aload_n 0, o0), (.iload_n 1, oA 1), (.invokevirtual 209, vN, 186, 2, 1, 900011, [(0, 918)]), (.ifCond .eq 16, oA 1), (.aload_n 0, o0), (.iload_n 2, oA 2), (.invokevirtual 209, vN, 186, 2, 1, 900011, [(0, 918)]), (.ifCond .eq 8, oA 1), (.iload_n 3, oA 3), (.iconst (-1), oC (vI (-1))), (.if_icmp .ge 5, oA 2)], 1),
  (21, [(.iconst (-1), oC (vI (-1))), (.ireturn, o0)], 2),
  (23, [(.aload_n 0, o0), (.getfield 51, vN, 1, 900010, 8, 900011, [(0, 515)]), (.iload_n 1, oA 1), (.invokevirtual 166, vN, 108, 2, 0, 900010, [(0, 786)]), (.aload_n 0, o0), (.getfield 55, vN, 2, 900010, 1, 900011, [(0, 516), (0, 9)]), (.iload_n 2, oA 2), (.invokevirtual 166, vN, 108, 2, 0, 900010, [(0, 786)]), (.iconst 0, oC (vI 0)), (.istore 4, oA 4), (.iconst 0, oC (vI 0)), (.istore 5, oA 5)], 3),
  (45, [(.iload 5, oA 5), (.aload_n 0, o0), (.getfield 34, vN, 1, 900009, 5, 900011, [(0, 512)]), (.getfield 44, vN, 1, 900001, 0, 900009, [(0, 414)]), (.getfield 225, vN, 0, 202, 2, 900001, [(0, 156)]), (.if_icmp .ge 40, oA 7), (.aload_n 0, o0), (.getfield 51, vN, 1, 900010, 8, 900011, [(0, 515)]), (.aload_n 0, o0), (.getfield 55, vN, 2, 900010, 1, 900011, [(0, 516), (0, 9)]), (.iload 5, oA 5), (.invokevirtual 226, vN, 115, 3, 1, 900010, [(0, 1021)]), (.ifCond .eq 6, oA 4), (.goto 15, oA 6)], 4),
  (79, [(.iload 4, oA 4), (.iload_n 3, oA 3), (.if_icmp .ne 6, oA 5), (.iload 5, oA 5), (.ireturn, o0)], 5),
  (88, [(.iinc 4 1, vI 1, 4, 0, 0, 0, [])], 6),
  (91, [(.iinc 5 1, vI 1, 5, 0, 0, 0, []), (.goto (-49), oA 3)], 7),
  (97, [(.iload_n 3, oA 3), (.iconst (-1), oC (vI (-1))), (.if_icmp .ne 8, oA 8), (.iload 4, oA 4), (.goto 4, oA 9)], 8),
  (107, [(.iconst (-1), oC (vI (-1)))], 9),
  (108, [(.ireturn, o0)], 10)]
def C_P_differ : List Nat := [3]
set_option maxRecDepth 100000 in
def B_P_cost : List Blk := [(0, [(.iload_n 1, oA 1), (.invokestatic 150, vN, 182, 1, 1, 0, [(0, 841)]), (.ifCond .eq 11, oA 1), (.aload_n 0, o0), (.iload_n 2, oA 2), (.invokevirtual 209, vN, 186, 2, 1, 900011, [(0, 918)]), (.ifCond .ne 5, oA 2)], 1),
  (15, [(.iconst (-1), oC (vI (-1))), (.ireturn, o0)], 2),
  (17, [(.aload_n 0, o0), (.getfield 51, vN, 1, 900010, 8, 900011, [(0, 515)]), (.iload_n 2, oA 2), (.invokevirtual 166, vN, 108, 2, 0, 900010, [(0, 786)]), (.iconst 0, oC (vI 0)), (.istore_n 3, oA 3), (.iconst 0, oC (vI 0)), (.istore 4, oA 4)], 3),
  (30, [(.iload 4, oA 4), (.aload_n 0, o0), (.getfield 51, vN, 1, 900010, 8, 900011, [(0, 515)]), (.getfield 215, vN, 0, 1101, 1, 900010, [(0, 448)]), (.if_icmp .ge 85, oA 5), (.aload_n 0, o0), (.getfield 34, vN, 1, 900009, 5, 900011, [(0, 512)]), (.getfield 44, vN, 1, 900001, 0, 900009, [(0, 414)]), (.getfield 230, vN, 1, 204000120, 4, 900001, [(0, 162)]), (.iload 4, oA 4), (.iaload, o0), (.iload_n 1, oA 1), (.if_icmp .ne 62, oA 4), (.aload_n 0, o0), (.getfield 51, vN, 1, 900010, 8, 900011, [(0, 515)]), (.iload 4, oA 4), (.invokevirtual 169, vN, 110, 2, 1, 900010, [(0, 873)]), (.ifCond .eq 50, oA 4), (.aload_n 0, o0), (.getfield 61, vN, 1, 900000, 10, 900011, [(0, 517)]), (.aload_n 0, o0), (.getfield 51, vN, 1, 900010, 8, 900011, [(0, 515)]), (.iload 4, oA 4), (.aload_n 0, o0), (.aload_n 0, o0), (.getfield 34, vN, 1, 900009, 5, 900011, [(0, 512)]), (.getfield 44, vN, 1, 900001, 0, 900009, [(0, 414)]), (.iload 4, oA 4), (.invokevirtual 197, vN, 16, 2, 1, 900001, [(0, 869)]), (.invokevirtual 105, vN, 188, 2, 900005, 900011, [(0, 733)]), (.invokevirtual 233, vN, 1, 4, 0, 900000, [(0, 1029)]), (.iload_n 3, oA 3), (.aload_n 0, o0), (.getfield 61, vN, 1, 900000, 10, 900011, [(0, 517)]), (.getfield 237, vN, 0, 102, 2, 900000, [(0, 475)]), (.aload_n 0, o0), (.getfield 61, vN, 1, 900000, 10, 900011, [(0, 517)]), (.getfield 240, vN, 0, 103, 3, 900000, [(0, 477)]), (.isub, o0), (.iadd, o0), (.istore_n 3, oA 3)], 4),
  (118, [(.iinc 4 1, vI 1, 4, 0, 0, 0, []), (.goto (-91), oA 3)], 5),
  (124, [(.iload_n 3, oA 3), (.ireturn, o0)], 6)]
def C_P_cost : List Nat := [3]
set_option maxRecDepth 100000 in
def B_P_worst : List Blk := [(0, [(.iload_n 1, oA 1), (.invokestatic 88, vN, 179, 1, 1, 0, [(0, 566)]), (.ifCond .eq 20, oA 1), (.aload_n 0, o0), (.iload_n 2, oA 2), (.invokevirtual 209, vN, 186, 2, 1, 900011, [(0, 918)]), (.ifCond .eq 12, oA 1), (.iload_n 3, oA 3), (.iconst 0, oC (vI 0)), (.iconst 1, oC (vI 1)), (.invokestatic 112, vN, 177, 3, 1, 0, [(0, 745)]), (.ifCond .ne 5, oA 2)], 1),
  (24, [(.iconst (-1), oC (vI (-1))), (.ireturn, o0)], 2),
  (26, [(.aload_n 0, o0), (.getfield 51, vN, 1, 900010, 8, 900011, [(0, 515)]), (.iload_n 2, oA 2), (.invokevirtual 166, vN, 108, 2, 0, 900010, [(0, 786)]), (.aload_n 0, o0), (.getfield 34, vN, 1, 900009, 5, 900011, [(0, 512)]), (.getfield 116, vN, 1, 900007, 1, 900009, [(0, 416)]), (.iload_n 1, oA 1), (.aload_n 0, o0), (.getfield 69, vN, 1, 1212000721, 12, 900011, [(0, 519)]), (.invokevirtual 200, vN, 96, 3, 0, 900007, [(0, 927)]), (.aload_n 0, o0), (.getfield 74, vN, 1, 1213002304, 13, 900011, [(0, 520)]), (.iconst 0, oC (vI 0)), (.invokestatic 243, vN, 339, 2, 0, 0, [(0, 1034)]), (.aload_n 0, o0), (.iload_n 1, oA 1), (.invokevirtual 105, vN, 188, 2, 900005, 900011, [(0, 733)]), (.astore 4, oA 4), (.iconst 0, oC (vI 0)), (.istore 5, oA 5), (.iconst 0, oC (vI 0)), (.istore 6, oA 6)], 3),
  (70, [(.iload 6, oA 6), (.aload_n 0, o0), (.getfield 51, vN, 1, 900010, 8, 900011, [(0, 515)]), (.getfield 215, vN, 0, 1101, 1, 900010, [(0, 448)]), (.if_icmp .ge 67, oA 5), (.aload_n 0, o0), (.iload 6, oA 6), (.iload_n 1, oA 1), (.invokevirtual 218, vN, 193, 3, 1, 900011, [(0, 1012)]), (.ifCond .eq 51, oA 4), (.aload_n 0, o0), (.getfield 61, vN, 1, 900000, 10, 900011, [(0, 517)]), (.aload_n 0, o0), (.getfield 51, vN, 1, 900010, 8, 900011, [(0, 515)]), (.iload 6, oA 6), (.aload 4, oA 4), (.aload_n 0, o0), (.getfield 69, vN, 1, 1212000721, 12, 900011, [(0, 519)]), (.invokevirtual 249, vN, 2, 5, 0, 900000, [(0, 935)]), (.iload 5, oA 5), (.aload_n 0, o0), (.getfield 61, vN, 1, 900000, 10, 900011, [(0, 517)]), (.getfield 253, vN, 0, 105, 5, 900000, [(0, 480)]), (.iadd, o0), (.istore 5, oA 5), (.aload_n 0, o0), (.getfield 61, vN, 1, 900000, 10, 900011, [(0, 517)]), (.aload 4, oA 4), (.aload_n 0, o0), (.getfield 69, vN, 1, 1212000721, 12, 900011, [(0, 519)]), (.aload_n 0, o0), (.getfield 74, vN, 1, 1213002304, 13, 900011, [(0, 520)]), (.invokevirtual 256, vN, 6, 4, 0, 900000, [(0, 1035)])], 4),
  (140, [(.iinc 6 1, vI 1, 6, 0, 0, 0, []), (.goto (-73), oA 3)], 5),
  (146, [(.iconst 0, oC (vI 0)), (.istore 6, oA 6), (.iconst 1, oC (vI 1)), (.istore 7, oA 7)], 6),
  (152, [(.iload 7, oA 7), (.sipush 660, oC (vI 660)), (.if_icmp .gt 30, oA 8), (.aload_n 0, o0), (.getfield 74, vN, 1, 1213002304, 13, 900011, [(0, 520)]), (.iload 7, oA 7), (.iaload, o0), (.aload_n 0, o0), (.getfield 74, vN, 1, 1213002304, 13, 900011, [(0, 520)]), (.iload 6, oA 6), (.iaload, o0), (.if_icmp .le 7, oA 7), (.iload 7, oA 7), (.istore 6, oA 6)], 7),
  (181, [(.iinc 7 1, vI 1, 7, 0, 0, 0, []), (.goto (-32), oA 6)], 8),
  (187, [(.iload_n 3, oA 3), (.ifCond .ne 8, oA 9), (.iload 6, oA 6), (.goto 13, oA 10)], 9),
  (196, [(.iload 5, oA 5), (.aload_n 0, o0), (.getfield 74, vN, 1, 1213002304, 13, 900011, [(0, 520)]), (.iload 6, oA 6), (.iaload, o0), (.iadd, o0)], 10),
  (206, [(.ireturn, o0)], 11)]
def C_P_worst : List Nat := [3, 6]
set_option maxRecDepth 100000 in
def B_P_together : List Blk := [(0, [(.iload_n 1, oA 1), (.invokestatic 150, vN, 182, 1, 1, 0, [(0, 841)]), (.ifCond .eq 22, oA 1), (.iload_n 2, oA 2), (.invokestatic 150, vN, 182, 1, 1, 0, [(0, 841)]), (.ifCond .eq 15, oA 1), (.iload_n 1, oA 1), (.iload_n 2, oA 2), (.if_icmp .eq 10, oA 1), (.iload_n 3, oA 3), (.invokestatic 88, vN, 179, 1, 1, 0, [(0, 566)]), (.ifCond .ne 5, oA 2)], 1),
  (26, [(.iconst (-1), oC (vI (-1))), (.ireturn, o0)], 2),
  (28, [(.aload_n 0, o0), (.iload 4, oA 4), (.invokevirtual 209, vN, 186, 2, 1, 900011, [(0, 918)]), (.ifCond .eq 13, oA 3), (.iload 5, oA 5), (.iconst 0, oC (vI 0)), (.iconst 1, oC (vI 1)), (.invokestatic 112, vN, 177, 3, 1, 0, [(0, 745)]), (.ifCond .ne 5, oA 4)], 3),
  (47, [(.iconst (-1), oC (vI (-1))), (.ireturn, o0)], 4),
  (49, [(.aload_n 0, o0), (.getfield 51, vN, 1, 900010, 8, 900011, [(0, 515)]), (.iload 4, oA 4), (.invokevirtual 166, vN, 108, 2, 0, 900010, [(0, 786)]), (.aload_n 0, o0), (.getfield 74, vN, 1, 1213002304, 13, 900011, [(0, 520)]), (.iconst 0, oC (vI 0)), (.invokestatic 243, vN, 339, 2, 0, 0, [(0, 1034)]), (.aload_n 0, o0), (.getfield 51, vN, 1, 900010, 8, 900011, [(0, 515)]), (.iload_n 1, oA 1), (.iconst 1, oC (vI 1)), (.iload_n 3, oA 3), (.aload_n 0, o0), (.getfield 74, vN, 1, 1213002304, 13, 900011, [(0, 520)]), (.invokevirtual 260, vN, 119, 5, 0, 900010, [(0, 1044)]), (.aload_n 0, o0), (.getfield 51, vN, 1, 900010, 8, 900011, [(0, 515)]), (.iload_n 2, oA 2), (.iconst 2, oC (vI 2)), (.iload_n 3, oA 3), (.aload_n 0, o0), (.getfield 74, vN, 1, 1213002304, 13, 900011, [(0, 520)]), (.invokevirtual 260, vN, 119, 5, 0, 900010, [(0, 1044)]), (.iconst (-1), oC (vI (-1))), (.istore 6, oA 6), (.iconst 0, oC (vI 0)), (.istore 7, oA 7), (.iconst 0, oC (vI 0)), (.istore 8, oA 8)], 5),
  (103, [(.iload 8, oA 8), (.sipush 720, oC (vI 720)), (.if_icmp .ge 37, oA 9), (.aload_n 0, o0), (.getfield 74, vN, 1, 1213002304, 13, 900011, [(0, 520)]), (.iload 8, oA 8), (.iaload, o0), (.iconst 3, oC (vI 3)), (.if_icmp .ne 20, oA 8), (.iload 7, oA 7), (.ifCond .ne 8, oA 6), (.iload 8, oA 8), (.goto 5, oA 7)], 6),
  (132, [(.iload 6, oA 6)], 7),
  (134, [(.istore 6, oA 6), (.iinc 7 1, vI 1, 7, 0, 0, 0, [])], 8),
  (139, [(.iinc 8 1, vI 1, 8, 0, 0, 0, []), (.goto (-39), oA 5)], 9),
  (145, [(.iload 5, oA 5), (.ifCond .ne 8, oA 10), (.iload 7, oA 7), (.goto 5, oA 11)], 10),
  (155, [(.iload 6, oA 6)], 11),
  (157, [(.ireturn, o0)], 12)]
def C_P_together : List Nat := [5]
set_option maxRecDepth 100000 in
def B_P_worn : List Blk := [(0, [(.aload_n 0, o0), (.iload_n 1, oA 1), (.invokevirtual 140, vN, 184, 2, 1, 900011, [(0, 774)]), (.ifCond .eq 20, oA 1), (.aload_n 0, o0), (.iload_n 2, oA 2), (.invokevirtual 209, vN, 186, 2, 1, 900011, [(0, 918)]), (.ifCond .eq 12, oA 1), (.iload_n 3, oA 3), (.iconst 0, oC (vI 0)), (.iconst 1, oC (vI 1)), (.invokestatic 112, vN, 177, 3, 1, 0, [(0, 745)]), (.ifCond .ne 5, oA 2)], 1),
  (25, [(.iconst (-1), oC (vI (-1))), (.ireturn, o0)], 2),
  (27, [(.aload_n 0, o0), (.getfield 51, vN, 1, 900010, 8, 900011, [(0, 515)]), (.iload_n 2, oA 2), (.invokevirtual 166, vN, 108, 2, 0, 900010, [(0, 786)]), (.iload_n 3, oA 3), (.ifCond .ne 14, oA 3), (.aload_n 0, o0), (.getfield 51, vN, 1, 900010, 8, 900011, [(0, 515)]), (.iload_n 1, oA 1), (.invokevirtual 264, vN, 120, 2, 1, 900010, [(0, 1052)]), (.goto 11, oA 4)], 3),
  (50, [(.aload_n 0, o0), (.getfield 51, vN, 1, 900010, 8, 900011, [(0, 515)]), (.iload_n 1, oA 1), (.invokevirtual 267, vN, 121, 2, 1, 900010, [(0, 1056)])], 4),
  (58, [(.ireturn, o0)], 5)]
def C_P_worn : List Nat := []
set_option maxRecDepth 100000 in
def B_P_old : List Blk := [(0, [(.aload_n 0, o0), (.iload_n 1, oA 1), (.invokevirtual 140, vN, 184, 2, 1, 900011, [(0, 774)]), (.ifCond .eq 11, oA 1), (.aload_n 0, o0), (.iload_n 2, oA 2), (.invokevirtual 209, vN, 186, 2, 1, 900011, [(0, 918)]), (.ifCond .ne 5, oA 2)], 1),
  (16, [(.iconst (-1), oC (vI (-1))), (.ireturn, o0)], 2),
  (18, [(.aload_n 0, o0), (.getfield 51, vN, 1, 900010, 8, 900011, [(0, 515)]), (.iload_n 2, oA 2), (.invokevirtual 166, vN, 108, 2, 0, 900010, [(0, 786)]), (.iconst 0, oC (vI 0)), (.istore_n 3, oA 3)], 3),
  (28, [(.iload_n 3, oA 3), (.aload_n 0, o0), (.getfield 34, vN, 1, 900009, 5, 900011, [(0, 512)]), (.getfield 44, vN, 1, 900001, 0, 900009, [(0, 414)]), (.getfield 270, vN, 0, 200, 0, 900001, [(0, 152)]), (.if_icmp .ge 23, oA 4), (.aload_n 0, o0), (.getfield 74, vN, 1, 1213002304, 13, 900011, [(0, 520)]), (.iload_n 3, oA 3), (.aload_n 0, o0), (.getfield 51, vN, 1, 900010, 8, 900011, [(0, 515)]), (.iload_n 3, oA 3), (.invokevirtual 264, vN, 120, 2, 1, 900010, [(0, 1052)]), (.iastore, o0), (.iinc 3 1, vI 1, 3, 0, 0, 0, []), (.goto (-31), oA 3)], 4),
  (62, [(.iconst 0, oC (vI 0)), (.istore_n 3, oA 3)], 5),
  (64, [(.iload_n 3, oA 3), (.aload_n 0, o0), (.getfield 34, vN, 1, 900009, 5, 900011, [(0, 512)]), (.getfield 44, vN, 1, 900001, 0, 900009, [(0, 414)]), (.getfield 270, vN, 0, 200, 0, 900001, [(0, 152)]), (.if_icmp .ge 20, oA 7), (.aload_n 0, o0), (.iload_n 3, oA 3), (.invokevirtual 273, vN, 195, 2, 1, 900011, [(0, 1064)]), (.iload_n 1, oA 1), (.if_icmp .ne 5, oA 6), (.iload_n 3, oA 3), (.ireturn, o0)], 6),
  (89, [(.iinc 3 1, vI 1, 3, 0, 0, 0, []), (.goto (-28), oA 5)], 7),
  (95, [(.iconst (-1), oC (vI (-1))), (.ireturn, o0)], 8)]
def C_P_old : List Nat := [3, 5]
set_option maxRecDepth 100000 in
def B_P_doubt : List Blk := [(0, [(.iload_n 1, oA 1), (.iconst 0, oC (vI 0)), (.sipush 240, oC (vI 240)), (.invokestatic 112, vN, 177, 3, 1, 0, [(0, 745)]), (.ifCond .eq 14, oA 1), (.iload_n 2, oA 2), (.iconst 0, oC (vI 0)), (.sipush 240, oC (vI 240)), (.invokestatic 112, vN, 177, 3, 1, 0, [(0, 745)]), (.ifCond .ne 5, oA 2)], 1),
  (22, [(.iconst 0, oC (vI 0)), (.ireturn, oA 1)], 2),
  (24, [(.aload_n 0, o0), (.getfield 34, vN, 1, 900009, 5, 900011, [(0, 512)]), (.getfield 44, vN, 1, 900001, 0, 900009, [(0, 414)]), (.iload_n 1, oA 1), (.putfield 276, vN, 0, 214, 14, 900001, [(0, 185)]), (.aload_n 0, o0), (.getfield 34, vN, 1, 900009, 5, 900011, [(0, 512)]), (.getfield 44, vN, 1, 900001, 0, 900009, [(0, 414)]), (.iload_n 2, oA 2), (.putfield 279, vN, 0, 215, 15, 900001, [(0, 187)]), (.iconst 1, oC (vI 1)), (.ireturn, oA 1)], 3)]
def C_P_doubt : List Nat := []
set_option maxRecDepth 100000 in
def B_P_queue : List Blk := [(0, [(.iload_n 1, oA 1), (.invokestatic 132, vN, 181, 1, 1, 0, [(0, 763)]), (.ifCond .eq 25, oA 1), (.iload_n 2, oA 2), (.iconst 1, oC (vI 1)), (.if_icmp .lt 20, oA 1), (.iload_n 3, oA 3), (.invokestatic 143, vN, 180, 1, 1, 0, [(0, 778)]), (.ifCond .eq 13, oA 1), (.iload 4, oA 4), (.iconst 0, oC (vI 0)), (.iconst 1, oC (vI 1)), (.invokestatic 112, vN, 177, 3, 1, 0, [(0, 745)]), (.ifCond .ne 5, oA 2)], 1),
  (29, [(.iconst (-1), oC (vI (-1))), (.ireturn, o0)], 2),
  (31, [(.aload_n 0, o0), (.getfield 51, vN, 1, 900010, 8, 900011, [(0, 515)]), (.aload_n 0, o0), (.getfield 34, vN, 1, 900009, 5, 900011, [(0, 512)]), (.getfield 44, vN, 1, 900001, 0, 900009, [(0, 414)]), (.getfield 163, vN, 0, 210, 10, 900001, [(0, 177)]), (.invokevirtual 166, vN, 108, 2, 0, 900010, [(0, 786)]), (.iload 4, oA 4), (.ifCond .ne 17, oA 3), (.aload_n 0, o0), (.getfield 34, vN, 1, 900009, 5, 900011, [(0, 512)]), (.getfield 44, vN, 1, 900001, 0, 900009, [(0, 414)]), (.getfield 276, vN, 0, 214, 14, 900001, [(0, 185)]), (.ineg, o0), (.goto 13, oA 4)], 3),
  (67, [(.aload_n 0, o0), (.getfield 34, vN, 1, 900009, 5, 900011, [(0, 512)]), (.getfield 44, vN, 1, 900001, 0, 900009, [(0, 414)]), (.getfield 279, vN, 0, 215, 15, 900001, [(0, 187)])], 4),
  (77, [(.istore 5, oA 5), (.iconst 0, oC (vI 0)), (.istore 6, oA 6), (.iconst 0, oC (vI 0)), (.istore 7, oA 7)], 5),
  (85, [(.iload 7, oA 7), (.aload_n 0, o0), (.getfield 34, vN, 1, 900009, 5, 900011, [(0, 512)]), (.getfield 44, vN, 1, 900001, 0, 900009, [(0, 414)]), (.getfield 270, vN, 0, 200, 0, 900001, [(0, 152)]), (.if_icmp .ge 47, oA 7), (.aload_n 0, o0), (.getfield 34, vN, 1, 900009, 5, 900011, [(0, 512)]), (.getfield 44, vN, 1, 900001, 0, 900009, [(0, 414)]), (.getfield 282, vN, 1, 201000020, 1, 900001, [(0, 154)]), (.iload 7, oA 7), (.iaload, o0), (.iload_n 1, oA 1), (.if_icmp .ne 24, oA 6), (.aload_n 0, o0), (.aload_n 0, o0), (.getfield 51, vN, 1, 900010, 8, 900011, [(0, 515)]), (.iload 7, oA 7), (.iload_n 3, oA 3), (.iload 5, oA 5), (.invokevirtual 285, vN, 122, 4, 1, 900010, [(0, 1076)]), (.iload 6, oA 6), (.invokevirtual 288, vN, 196, 3, 0, 900011, [(0, 1080)]), (.iinc 6 1, vI 1, 6, 0, 0, 0, [])], 6),
  (138, [(.iinc 7 1, vI 1, 7, 0, 0, 0, []), (.goto (-56), oA 5)], 7),
  (144, [(.iload_n 2, oA 2), (.iload 6, oA 6), (.if_icmp .gt 14, oA 8), (.aload_n 0, o0), (.getfield 74, vN, 1, 1213002304, 13, 900011, [(0, 520)]), (.iload_n 2, oA 2), (.iconst 1, oC (vI 1)), (.isub, o0), (.iaload, o0), (.goto 4, oA 9)], 8),
  (161, [(.iconst (-1), oC (vI (-1)))], 9),
  (162, [(.ireturn, o0)], 10)]
def C_P_queue : List Nat := [5]
set_option maxRecDepth 100000 in
def B_P_chance : List Blk := [(0, [(.iload_n 1, oA 1), (.iconst 0, oC (vI 0)), (.bipush 11, oC (vI 11)), (.invokestatic 112, vN, 177, 3, 1, 0, [(0, 745)]), (.ifCond .eq 22, oA 1), (.iload_n 2, oA 2), (.iconst 0, oC (vI 0)), (.iconst 5, oC (vI 5)), (.invokestatic 112, vN, 177, 3, 1, 0, [(0, 745)]), (.ifCond .eq 13, oA 1), (.iload_n 3, oA 3), (.iconst 0, oC (vI 0)), (.bipush 10, oC (vI 10)), (.invokestatic 112, vN, 177, 3, 1, 0, [(0, 745)]), (.ifCond .ne 5, oA 2)], 1),
  (29, [(.iconst 0, oC (vI 0)), (.ireturn, oA 1)], 2),
  (31, [(.aload_n 0, o0), (.getfield 34, vN, 1, 900009, 5, 900011, [(0, 512)]), (.getfield 294, vN, 1, 900002, 2, 900009, [(0, 418)]), (.getfield 298, vN, 1, 300000072, 0, 900002, [(0, 290)]), (.iload_n 1, oA 1), (.bipush 6, oC (vI 6)), (.imul, o0), (.iload_n 2, oA 2), (.iadd, o0), (.iload_n 3, oA 3), (.iastore, o0), (.iconst 1, oC (vI 1)), (.ireturn, oA 1)], 3)]
def C_P_chance : List Nat := []
set_option maxRecDepth 100000 in
def B_P_keep : List Blk := [(0, [(.iload_n 1, oA 1), (.iconst 0, oC (vI 0)), (.bipush 12, oC (vI 12)), (.invokestatic 112, vN, 177, 3, 1, 0, [(0, 745)]), (.ifCond .eq 34, oA 1), (.iload_n 2, oA 2), (.iconst 1, oC (vI 1)), (.iconst 3, oC (vI 3)), (.invokestatic 112, vN, 177, 3, 1, 0, [(0, 745)]), (.ifCond .eq 25, oA 1), (.iload_n 3, oA 3), (.iconst 0, oC (vI 0)), (.iconst 3, oC (vI 3)), (.invokestatic 112, vN, 177, 3, 1, 0, [(0, 745)]), (.ifCond .eq 16, oA 1), (.aload_n 0, o0), (.getfield 34, vN, 1, 900009, 5, 900011, [(0, 512)]), (.getfield 294, vN, 1, 900002, 2, 900009, [(0, 418)]), (.invokevirtual 301, vN, 22, 1, 1, 900002, [(0, 1092)]), (.ifCond .ne 7, oA 2)], 1),
  (41, [(.ldc2_w 304, vL (-1), 0, 0, 0, 0, [(0, 1096)]), (.lreturn, o0)], 2),
  (45, [(.iload_n 3, oA 3), (.iconst 2, oC (vI 2)), (.if_icmp .ge 18, oA 3), (.aload_n 0, o0), (.getfield 34, vN, 1, 900009, 5, 900011, [(0, 512)]), (.getfield 294, vN, 1, 900002, 2, 900009, [(0, 418)]), (.iload_n 1, oA 1), (.iload_n 2, oA 2), (.invokevirtual 306, vN, 24, 3, 2, 900002, [(0, 1097)]), (.goto 14, oA 4)], 3),
  (65, [(.aload_n 0, o0), (.getfield 34, vN, 1, 900009, 5, 900011, [(0, 512)]), (.getfield 294, vN, 1, 900002, 2, 900009, [(0, 418)]), (.invokevirtual 310, vN, 23, 1, 1, 900002, [(0, 1114)]), (.i2l, o0)], 4),
  (76, [(.lstore 4, oA 4), (.iload_n 3, oA 3), (.iconst 2, oC (vI 2)), (.if_icmp .ge 9, oA 5), (.ldc2_w 313, vL 1000000000000, 0, 0, 0, 0, [(0, 1118)]), (.goto 6, oA 6)], 5),
  (89, [(.ldc2_w 315, vL 10, 0, 0, 0, 0, [(0, 1119)])], 6),
  (92, [(.lstore 6, oA 6), (.lload 4, oA 4), (.lload 6, oA 6), (.invokestatic 317, vN, 26, 2, 2, 0, [(0, 1120)]), (.lstore 8, oA 8), (.lload 8, oA 8), (.lconst 0, oC (vL 0)), (.lcmp, o0), (.ifCond .gt 7, oA 7), (.ldc2_w 304, vL (-1), 0, 0, 0, 0, [(0, 1096)]), (.lreturn, o0)], 7),
  (114, [(.iload_n 3, oA 3), (.iconst 2, oC (vI 2)), (.irem, o0), (.ifCond .ne 11, oA 8), (.lload 4, oA 4), (.lload 8, oA 8), (.ldiv, o0), (.goto 8, oA 9)], 8),
  (128, [(.lload 6, oA 6), (.lload 8, oA 8), (.ldiv, o0)], 9),
  (133, [(.lreturn, o0)], 10)]
def C_P_keep : List Nat := [6]
set_option maxRecDepth 100000 in
def B_P_least : List Blk := [(0, [(.iload_n 1, oA 1), (.iconst 1, oC (vI 1)), (.iconst 3, oC (vI 3)), (.invokestatic 112, vN, 177, 3, 1, 0, [(0, 745)]), (.ifCond .eq 26, oA 1), (.iload_n 2, oA 2), (.iconst 0, oC (vI 0)), (.bipush 100, oC (vI 100)), (.invokestatic 112, vN, 177, 3, 1, 0, [(0, 745)]), (.ifCond .eq 16, oA 1), (.aload_n 0, o0), (.getfield 34, vN, 1, 900009, 5, 900011, [(0, 512)]), (.getfield 294, vN, 1, 900002, 2, 900009, [(0, 418)]), (.invokevirtual 301, vN, 22, 1, 1, 900002, [(0, 1092)]), (.ifCond .ne 5, oA 2)], 1),
  (32, [(.iconst (-1), oC (vI (-1))), (.ireturn, o0)], 2),
  (34, [(.iload_n 2, oA 2), (.aload_n 0, o0), (.getfield 34, vN, 1, 900009, 5, 900011, [(0, 512)]), (.getfield 294, vN, 1, 900002, 2, 900009, [(0, 418)]), (.invokevirtual 310, vN, 23, 1, 1, 900002, [(0, 1114)]), (.imul, o0), (.i2l, o0), (.ldc2_w 321, vL 100000000000, 0, 0, 0, 0, [(0, 1127)]), (.lmul, o0), (.lstore_n 3, oA 3), (.iconst 0, oC (vI 0)), (.istore 5, oA 5)], 3),
  (55, [(.iload 5, oA 5), (.bipush 12, oC (vI 12)), (.if_icmp .gt 34, oA 5), (.aload_n 0, o0), (.getfield 34, vN, 1, 900009, 5, 900011, [(0, 512)]), (.getfield 294, vN, 1, 900002, 2, 900009, [(0, 418)]), (.iload 5, oA 5), (.iload_n 1, oA 1), (.invokevirtual 306, vN, 24, 3, 2, 900002, [(0, 1097)]), (.ldc2_w 323, vL 100, 0, 0, 0, 0, [(0, 1128)]), (.lmul, o0), (.lload_n 3, oA 3), (.lcmp, o0), (.ifCond .lt 6, oA 4), (.iload 5, oA 5), (.ireturn, o0)], 4),
  (87, [(.iinc 5 1, vI 1, 5, 0, 0, 0, []), (.goto (-35), oA 3)], 5),
  (93, [(.iconst (-1), oC (vI (-1))), (.ireturn, o0)], 6)]
def C_P_least : List Nat := [3]
set_option maxRecDepth 100000 in
def B_P_protect : List Blk := [(0, [(.iload_n 1, oA 1), (.iconst 0, oC (vI 0)), (.bipush 12, oC (vI 12)), (.invokestatic 112, vN, 177, 3, 1, 0, [(0, 745)]), (.ifCond .eq 27, oA 1), (.iload_n 2, oA 2), (.invokestatic 325, vN, 183, 1, 1, 0, [(0, 1133)]), (.ifCond .eq 20, oA 1), (.iload_n 3, oA 3), (.invokestatic 325, vN, 183, 1, 1, 0, [(0, 1133)]), (.ifCond .eq 13, oA 1), (.iload 4, oA 4), (.iconst 0, oC (vI 0)), (.iconst 1, oC (vI 1)), (.invokestatic 112, vN, 177, 3, 1, 0, [(0, 745)]), (.ifCond .ne 5, oA 2)], 1),
  (34, [(.iconst (-1), oC (vI (-1))), (.ireturn, o0)], 2),
  (36, [(.aload_n 0, o0), (.getfield 34, vN, 1, 900009, 5, 900011, [(0, 512)]), (.getfield 294, vN, 1, 900002, 2, 900009, [(0, 418)]), (.invokevirtual 301, vN, 22, 1, 1, 900002, [(0, 1092)]), (.ifCond .ne 5, oA 3), (.iconst (-1), oC (vI (-1))), (.ireturn, o0)], 3),
  (51, [(.iconst 0, oC (vI 0)), (.istore 5, oA 5), (.iconst (-1), oC (vI (-1))), (.istore 6, oA 6), (.iconst 0, oC (vI 0)), (.istore 7, oA 7)], 4),
  (60, [(.iload 7, oA 7), (.iload_n 1, oA 1), (.if_icmp .gt 41, oA 6), (.aload_n 0, o0), (.getfield 34, vN, 1, 900009, 5, 900011, [(0, 512)]), (.getfield 294, vN, 1, 900002, 2, 900009, [(0, 418)]), (.iload_n 1, oA 1), (.iload 7, oA 7), (.iload_n 2, oA 2), (.iload_n 3, oA 3), (.invokevirtual 328, vN, 27, 5, 1, 900002, [(0, 1136)]), (.istore 8, oA 8), (.iload 8, oA 8), (.iload 6, oA 6), (.if_icmp .le 11, oA 5), (.iload 8, oA 8), (.istore 6, oA 6), (.iload 7, oA 7), (.istore 5, oA 5)], 5),
  (98, [(.iinc 7 1, vI 1, 7, 0, 0, 0, []), (.goto (-41), oA 4)], 6),
  (104, [(.iload 4, oA 4), (.ifCond .ne 8, oA 7), (.iload 5, oA 5), (.goto 5, oA 8)], 7),
  (114, [(.iload 6, oA 6)], 8),
  (116, [(.ireturn, o0)], 9)]
def C_P_protect : List Nat := [4]
set_option maxRecDepth 100000 in
def B_P_roll : List Blk := [(0, [(.iload_n 1, oA 1), (.iconst 0, oC (vI 0)), (.sipush 719, oC (vI 719)), (.invokestatic 112, vN, 177, 3, 1, 0, [(0, 745)]), (.ifCond .eq 13, oA 1), (.iload_n 2, oA 2), (.iconst 1, oC (vI 1)), (.bipush 99, oC (vI 99)), (.invokestatic 112, vN, 177, 3, 1, 0, [(0, 745)]), (.ifCond .ne 5, oA 2)], 1),
  (21, [(.iconst (-1), oC (vI (-1))), (.ireturn, o0)], 2),
  (23, [(.aload_n 0, o0), (.getfield 34, vN, 1, 900009, 5, 900011, [(0, 512)]), (.getfield 331, vN, 1, 900008, 3, 900009, [(0, 420)]), (.iload_n 1, oA 1), (.iload_n 2, oA 2), (.invokevirtual 335, vN, 102, 3, 1, 900008, [(0, 1144)]), (.ireturn, o0)], 3)]
def C_P_roll : List Nat := []
set_option maxRecDepth 100000 in
def B_P_rolled : List Blk := [(0, [(.iload_n 1, oA 1), (.bipush 10, oC (vI 10)), (.if_icmp .lt 24, oA 1), (.iload_n 1, oA 1), (.bipush 10, oC (vI 10)), (.isub, o0), (.aload_n 0, o0), (.getfield 34, vN, 1, 900009, 5, 900011, [(0, 512)]), (.getfield 331, vN, 1, 900008, 3, 900009, [(0, 420)]), (.getfield 340, vN, 0, 900, 0, 900008, [(0, 315)]), (.if_icmp .ge 7, oA 1), (.iconst 1, oC (vI 1)), (.goto 4, oA 2)], 1),
  (27, [(.iconst 0, oC (vI 0))], 2),
  (28, [(.istore_n 2, oA 2), (.iload_n 1, oA 1), (.ifCond .eq 9, oA 3), (.iload_n 2, oA 2), (.ifCond .ne 5, oA 3), (.iconst (-1), oC (vI (-1))), (.ireturn, o0)], 3),
  (39, [(.aload_n 0, o0), (.getfield 34, vN, 1, 900009, 5, 900011, [(0, 512)]), (.getfield 331, vN, 1, 900008, 3, 900009, [(0, 420)]), (.invokevirtual 341, vN, 103, 1, 0, 900008, [(0, 1152)]), (.iload_n 1, oA 1), (.ifCond .ne 16, oA 4), (.aload_n 0, o0), (.getfield 34, vN, 1, 900009, 5, 900011, [(0, 512)]), (.getfield 331, vN, 1, 900008, 3, 900009, [(0, 420)]), (.getfield 344, vN, 0, 903, 3, 900008, [(0, 319)]), (.goto 18, oA 5)], 4),
  (66, [(.aload_n 0, o0), (.getfield 34, vN, 1, 900009, 5, 900011, [(0, 512)]), (.getfield 331, vN, 1, 900008, 3, 900009, [(0, 420)]), (.getfield 347, vN, 1, 904000007, 4, 900008, [(0, 321)]), (.iload_n 1, oA 1), (.bipush 10, oC (vI 10)), (.isub, o0), (.iaload, o0)], 5),
  (81, [(.ireturn, o0)], 6)]
def C_P_rolled : List Nat := [3]
set_option maxRecDepth 100000 in
def B_P_guide : List Blk := [(0, [(.iload_n 1, oA 1), (.iconst 0, oC (vI 0)), (.sipush 255, oC (vI 255)), (.invokestatic 112, vN, 177, 3, 1, 0, [(0, 745)]), (.ifCond .eq 17, oA 1), (.aload_n 0, o0), (.getfield 34, vN, 1, 900009, 5, 900011, [(0, 512)]), (.getfield 350, vN, 1, 900004, 4, 900009, [(0, 422)]), (.iload_n 1, oA 1), (.invokevirtual 354, vN, 44, 2, 1, 900004, [(0, 1166)]), (.goto 4, oA 2)], 1),
  (25, [(.iconst (-1), oC (vI (-1)))], 2),
  (26, [(.ireturn, o0)], 3)]
def C_P_guide : List Nat := []
set_option maxRecDepth 100000 in
def B_P_party : List Blk := [(0, [(.iload_n 1, oA 1), (.iconst 0, oC (vI 0)), (.sipush 255, oC (vI 255)), (.invokestatic 112, vN, 177, 3, 1, 0, [(0, 745)]), (.ifCond .eq 25, oA 1), (.iload_n 2, oA 2), (.invokestatic 325, vN, 183, 1, 1, 0, [(0, 1133)]), (.ifCond .eq 18, oA 1), (.aload_n 0, o0), (.getfield 34, vN, 1, 900009, 5, 900011, [(0, 512)]), (.getfield 350, vN, 1, 900004, 4, 900009, [(0, 422)]), (.iload_n 1, oA 1), (.iload_n 2, oA 2), (.invokevirtual 357, vN, 45, 3, 1, 900004, [(0, 1174)]), (.goto 4, oA 2)], 1),
  (33, [(.iconst (-1), oC (vI (-1)))], 2),
  (34, [(.ireturn, o0)], 3)]
def C_P_party : List Nat := []
set_option maxRecDepth 100000 in
def B_P_guided : List Blk := [(0, [(.iload_n 1, oA 1), (.bipush 10, oC (vI 10)), (.if_icmp .lt 24, oA 1), (.iload_n 1, oA 1), (.bipush 10, oC (vI 10)), (.isub, o0), (.aload_n 0, o0), (.getfield 34, vN, 1, 900009, 5, 900011, [(0, 512)]), (.getfield 350, vN, 1, 900004, 4, 900009, [(0, 422)]), (.getfield 360, vN, 0, 503, 3, 900004, [(0, 348)]), (.if_icmp .ge 7, oA 1), (.iconst 1, oC (vI 1)), (.goto 4, oA 2)], 1),
  (27, [(.iconst 0, oC (vI 0))], 2),
  (28, [(.istore_n 2, oA 2), (.iload_n 1, oA 1), (.iconst 0, oC (vI 0)), (.iconst 1, oC (vI 1)), (.invokestatic 112, vN, 177, 3, 1, 0, [(0, 745)]), (.ifCond .ne 9, oA 3), (.iload_n 2, oA 2), (.ifCond .ne 5, oA 3), (.iconst (-1), oC (vI (-1))), (.ireturn, o0)], 3),
  (44, [(.aload_n 0, o0), (.getfield 34, vN, 1, 900009, 5, 900011, [(0, 512)]), (.getfield 350, vN, 1, 900004, 4, 900009, [(0, 422)]), (.aload_n 0, o0), (.getfield 74, vN, 1, 1213002304, 13, 900011, [(0, 520)]), (.invokevirtual 363, vN, 47, 2, 0, 900004, [(0, 1182)]), (.iload_n 2, oA 2), (.ifCond .eq 19, oA 4), (.aload_n 0, o0), (.getfield 34, vN, 1, 900009, 5, 900011, [(0, 512)]), (.getfield 350, vN, 1, 900004, 4, 900009, [(0, 422)]), (.getfield 366, vN, 1, 506000008, 6, 900004, [(0, 352)]), (.iload_n 1, oA 1), (.bipush 10, oC (vI 10)), (.isub, o0), (.iaload, o0), (.ireturn, o0)], 4),
  (78, [(.iload_n 1, oA 1), (.ifCond .ne 16, oA 5), (.aload_n 0, o0), (.getfield 34, vN, 1, 900009, 5, 900011, [(0, 512)]), (.getfield 350, vN, 1, 900004, 4, 900009, [(0, 422)]), (.getfield 369, vN, 0, 507, 7, 900004, [(0, 354)]), (.goto 13, oA 6)], 5),
  (95, [(.aload_n 0, o0), (.getfield 34, vN, 1, 900009, 5, 900011, [(0, 512)]), (.getfield 350, vN, 1, 900004, 4, 900009, [(0, 422)]), (.getfield 371, vN, 0, 508, 8, 900004, [(0, 356)])], 6),
  (105, [(.ireturn, o0)], 7)]
def C_P_guided : List Nat := [3]
set_option maxRecDepth 100000 in
def B_P_pay : List Blk := [(0, [(.iload_n 1, oA 1), (.iconst 0, oC (vI 0)), (.bipush 100, oC (vI 100)), (.invokestatic 112, vN, 177, 3, 1, 0, [(0, 745)]), (.ifCond .ne 5, oA 1), (.iconst (-1), oC (vI (-1))), (.ireturn, o0)], 1),
  (12, [(.aload_n 0, o0), (.getfield 34, vN, 1, 900009, 5, 900011, [(0, 512)]), (.getfield 350, vN, 1, 900004, 4, 900009, [(0, 422)]), (.aload_n 0, o0), (.getfield 74, vN, 1, 1213002304, 13, 900011, [(0, 520)]), (.invokevirtual 363, vN, 47, 2, 0, 900004, [(0, 1182)]), (.aload_n 0, o0), (.getfield 34, vN, 1, 900009, 5, 900011, [(0, 512)]), (.getfield 350, vN, 1, 900004, 4, 900009, [(0, 422)]), (.iload_n 1, oA 1), (.invokevirtual 374, vN, 50, 2, 0, 900004, [(0, 1204)]), (.aload_n 0, o0), (.getfield 34, vN, 1, 900009, 5, 900011, [(0, 512)]), (.getfield 350, vN, 1, 900004, 4, 900009, [(0, 422)]), (.getfield 369, vN, 0, 507, 7, 900004, [(0, 354)]), (.ireturn, o0)], 2)]
def C_P_pay : List Nat := []
set_option maxRecDepth 100000 in
def B_P_earned : List Blk := [(0, [(.iload_n 1, oA 1), (.iconst (-1), oC (vI (-1))), (.if_icmp .ne 14, oA 1), (.aload_n 0, o0), (.getfield 34, vN, 1, 900009, 5, 900011, [(0, 512)]), (.getfield 350, vN, 1, 900004, 4, 900009, [(0, 422)]), (.invokevirtual 377, vN, 51, 1, 1, 900004, [(0, 1212)]), (.ireturn, o0)], 1),
  (16, [(.iload_n 1, oA 1), (.ifCond .lt 32, oA 2), (.iload_n 1, oA 1), (.aload_n 0, o0), (.getfield 34, vN, 1, 900009, 5, 900011, [(0, 512)]), (.getfield 350, vN, 1, 900004, 4, 900009, [(0, 422)]), (.getfield 380, vN, 0, 500, 0, 900004, [(0, 343)]), (.if_icmp .ge 18, oA 2), (.aload_n 0, o0), (.getfield 34, vN, 1, 900009, 5, 900011, [(0, 512)]), (.getfield 350, vN, 1, 900004, 4, 900009, [(0, 422)]), (.getfield 382, vN, 1, 502000008, 2, 900004, [(0, 346)]), (.iload_n 1, oA 1), (.iaload, o0), (.goto 4, oA 3)], 2),
  (49, [(.iconst (-1), oC (vI (-1)))], 3),
  (50, [(.ireturn, o0)], 4)]
def C_P_earned : List Nat := []
set_option maxRecDepth 100000 in
def B_P_pass : List Blk := [(0, [(.aload_n 0, o0), (.iload_n 1, oA 1), (.invokevirtual 178, vN, 185, 2, 1, 900011, [(0, 865)]), (.ifCond .eq 14, oA 1), (.iload_n 2, oA 2), (.iconst 0, oC (vI 0)), (.ldc_w 385, vI 65535, 0, 0, 0, 0, [(0, 1221)]), (.invokestatic 112, vN, 177, 3, 1, 0, [(0, 745)]), (.ifCond .ne 5, oA 2)], 1),
  (19, [(.iconst 0, oC (vI 0)), (.ireturn, oA 1)], 2),
  (21, [(.aload_n 0, o0), (.getfield 34, vN, 1, 900009, 5, 900011, [(0, 512)]), (.getfield 44, vN, 1, 900001, 0, 900009, [(0, 414)]), (.getfield 386, vN, 1, 208000120, 8, 900001, [(0, 172)]), (.iload_n 1, oA 1), (.iload_n 2, oA 2), (.iastore, o0), (.aload_n 0, o0), (.getfield 34, vN, 1, 900009, 5, 900011, [(0, 512)]), (.getfield 44, vN, 1, 900001, 0, 900009, [(0, 414)]), (.getfield 389, vN, 1, 209000120, 9, 900001, [(0, 174)]), (.iload_n 1, oA 1), (.iload_n 3, oA 3), (.ifCond .eq 7, oA 3), (.iconst 1, oC (vI 1)), (.goto 4, oA 4)], 3),
  (53, [(.iconst 0, oC (vI 0))], 4),
  (54, [(.iastore, o0), (.iconst 1, oC (vI 1)), (.ireturn, oA 1)], 5)]
def C_P_pass : List Nat := []
set_option maxRecDepth 100000 in
def B_P_pole : List Blk := [(0, [(.aload_n 0, o0), (.iload_n 1, oA 1), (.invokevirtual 178, vN, 185, 2, 1, 900011, [(0, 865)]), (.ifCond .eq 17, oA 1), (.aload_n 0, o0), (.getfield 34, vN, 1, 900009, 5, 900011, [(0, 512)]), (.getfield 44, vN, 1, 900001, 0, 900009, [(0, 414)]), (.iload_n 1, oA 1), (.invokevirtual 392, vN, 19, 2, 1, 900001, [(0, 1226)]), (.goto 4, oA 2)], 1),
  (22, [(.iconst (-1), oC (vI (-1)))], 2),
  (23, [(.ireturn, o0)], 3)]
def C_P_pole : List Nat := []
set_option maxRecDepth 100000 in
def B_P_paint : List Blk := [(0, [(.aload_n 0, o0), (.iload_n 1, oA 1), (.invokevirtual 140, vN, 184, 2, 1, 900011, [(0, 774)]), (.ifCond .eq 23, oA 1), (.iload_n 2, oA 2), (.iconst 0, oC (vI 0)), (.bipush 9, oC (vI 9)), (.invokestatic 112, vN, 177, 3, 1, 0, [(0, 745)]), (.ifCond .eq 13, oA 1), (.iload_n 3, oA 3), (.iconst 0, oC (vI 0)), (.bipush 99, oC (vI 99)), (.invokestatic 112, vN, 177, 3, 1, 0, [(0, 745)]), (.ifCond .ne 5, oA 2)], 1),
  (28, [(.iconst 0, oC (vI 0)), (.ireturn, oA 1)], 2),
  (30, [(.aload_n 0, o0), (.getfield 34, vN, 1, 900009, 5, 900011, [(0, 512)]), (.getfield 395, vN, 1, 900003, 5, 900009, [(0, 424)]), (.iload_n 1, oA 1), (.iload_n 2, oA 2), (.iload_n 3, oA 3), (.invokevirtual 399, vN, 33, 4, 1, 900003, [(0, 1234)]), (.ireturn, oA 1)], 3)]
def C_P_paint : List Nat := []
set_option maxRecDepth 100000 in
def B_P_painted : List Blk := [(0, [(.iload_n 1, oA 1), (.iconst 1, oC (vI 1)), (.iconst 2, oC (vI 2)), (.invokestatic 112, vN, 177, 3, 1, 0, [(0, 745)]), (.ifCond .eq 12, oA 1), (.iload_n 2, oA 2), (.iconst 0, oC (vI 0)), (.iconst 1, oC (vI 1)), (.invokestatic 112, vN, 177, 3, 1, 0, [(0, 745)]), (.ifCond .ne 5, oA 2)], 1),
  (18, [(.iconst (-1), oC (vI (-1))), (.ireturn, o0)], 2),
  (20, [(.aload_n 0, o0), (.getfield 34, vN, 1, 900009, 5, 900011, [(0, 512)]), (.getfield 395, vN, 1, 900003, 5, 900009, [(0, 424)]), (.iload_n 1, oA 1), (.invokevirtual 404, vN, 37, 2, 0, 900003, [(0, 1246)]), (.iload_n 2, oA 2), (.ifCond .ne 16, oA 3), (.aload_n 0, o0), (.getfield 34, vN, 1, 900009, 5, 900011, [(0, 512)]), (.getfield 395, vN, 1, 900003, 5, 900009, [(0, 424)]), (.getfield 407, vN, 0, 407, 7, 900003, [(0, 392)]), (.goto 13, oA 4)], 3),
  (48, [(.aload_n 0, o0), (.getfield 34, vN, 1, 900009, 5, 900011, [(0, 512)]), (.getfield 395, vN, 1, 900003, 5, 900009, [(0, 424)]), (.invokevirtual 410, vN, 41, 1, 1, 900003, [(0, 1263)])], 4),
  (58, [(.ireturn, o0)], 5)]
def C_P_painted : List Nat := []
set_option maxRecDepth 100000 in
def B_P_fail : List Blk := [(0, [(.aload_n 0, o0), (.iload_n 1, oA 1), (.invokevirtual 140, vN, 184, 2, 1, 900011, [(0, 774)]), (.ifCond .eq 20, oA 1), (.iload_n 2, oA 2), (.iconst 0, oC (vI 0)), (.bipush 100, oC (vI 100)), (.invokestatic 112, vN, 177, 3, 1, 0, [(0, 745)]), (.ifCond .eq 10, oA 1), (.iload_n 3, oA 3), (.invokestatic 325, vN, 183, 1, 1, 0, [(0, 1133)]), (.ifCond .ne 5, oA 2)], 1),
  (25, [(.iconst 0, oC (vI 0)), (.ireturn, oA 1)], 2),
  (27, [(.aload_n 0, o0), (.getfield 34, vN, 1, 900009, 5, 900011, [(0, 512)]), (.getfield 395, vN, 1, 900003, 5, 900009, [(0, 424)]), (.getfield 413, vN, 1, 402000020, 2, 900003, [(0, 385)]), (.iload_n 1, oA 1), (.iload_n 2, oA 2), (.iastore, o0), (.aload_n 0, o0), (.getfield 34, vN, 1, 900009, 5, 900011, [(0, 512)]), (.getfield 395, vN, 1, 900003, 5, 900009, [(0, 424)]), (.getfield 416, vN, 1, 403000020, 3, 900003, [(0, 387)]), (.iload_n 1, oA 1), (.iload_n 3, oA 3), (.iastore, o0), (.iconst 1, oC (vI 1)), (.ireturn, oA 1)], 3)]
def C_P_fail : List Nat := []
set_option maxRecDepth 100000 in
def B_P_renew : List Blk := [(0, [(.iload_n 1, oA 1), (.iconst 0, oC (vI 0)), (.bipush 90, oC (vI 90)), (.invokestatic 112, vN, 177, 3, 1, 0, [(0, 745)]), (.ifCond .eq 12, oA 1), (.iload_n 2, oA 2), (.iconst 0, oC (vI 0)), (.iconst 1, oC (vI 1)), (.invokestatic 112, vN, 177, 3, 1, 0, [(0, 745)]), (.ifCond .ne 5, oA 2)], 1),
  (19, [(.iconst (-1), oC (vI (-1))), (.ireturn, o0)], 2),
  (21, [(.aload_n 0, o0), (.getfield 34, vN, 1, 900009, 5, 900011, [(0, 512)]), (.getfield 395, vN, 1, 900003, 5, 900009, [(0, 424)]), (.iload_n 1, oA 1), (.invokevirtual 419, vN, 39, 2, 0, 900003, [(0, 1275)]), (.iload_n 2, oA 2), (.ifCond .ne 16, oA 3), (.aload_n 0, o0), (.getfield 34, vN, 1, 900009, 5, 900011, [(0, 512)]), (.getfield 395, vN, 1, 900003, 5, 900009, [(0, 424)]), (.getfield 407, vN, 0, 407, 7, 900003, [(0, 392)]), (.goto 13, oA 4)], 3),
  (49, [(.aload_n 0, o0), (.getfield 34, vN, 1, 900009, 5, 900011, [(0, 512)]), (.getfield 395, vN, 1, 900003, 5, 900009, [(0, 424)]), (.invokevirtual 410, vN, 41, 1, 1, 900003, [(0, 1263)])], 4),
  (59, [(.ireturn, o0)], 5)]
def C_P_renew : List Nat := []
set_option maxRecDepth 100000 in
def B_P_loyal : List Blk := [(0, [(.iload_n 1, oA 1), (.invokestatic 325, vN, 183, 1, 1, 0, [(0, 1133)]), (.ifCond .eq 17, oA 1), (.aload_n 0, o0), (.getfield 34, vN, 1, 900009, 5, 900011, [(0, 512)]), (.getfield 294, vN, 1, 900002, 2, 900009, [(0, 418)]), (.iload_n 1, oA 1), (.invokevirtual 422, vN, 28, 2, 1, 900002, [(0, 1287)]), (.goto 4, oA 2)], 1),
  (21, [(.iconst (-1), oC (vI (-1)))], 2),
  (22, [(.ireturn, o0)], 3)]
def C_P_loyal : List Nat := []
set_option maxRecDepth 100000 in
def B_P_tout : List Blk := [(0, [(.iload_n 1, oA 1), (.invokestatic 325, vN, 183, 1, 1, 0, [(0, 1133)]), (.ifCond .eq 23, oA 1), (.iload_n 2, oA 2), (.iconst 0, oC (vI 0)), (.sipush 9999, oC (vI 9999)), (.invokestatic 112, vN, 177, 3, 1, 0, [(0, 745)]), (.ifCond .eq 12, oA 1), (.iload_n 3, oA 3), (.iconst 0, oC (vI 0)), (.iconst 3, oC (vI 3)), (.invokestatic 112, vN, 177, 3, 1, 0, [(0, 745)]), (.ifCond .ne 6, oA 2)], 1),
  (27, [(.ldc 196, vI (-1000000), 0, 0, 0, 0, [(0, 926)]), (.ireturn, o0)], 2),
  (30, [(.aload_n 0, o0), (.getfield 34, vN, 1, 900009, 5, 900011, [(0, 512)]), (.getfield 294, vN, 1, 900002, 2, 900009, [(0, 418)]), (.iload_n 1, oA 1), (.invokevirtual 425, vN, 30, 2, 1, 900002, [(0, 1295)]), (.istore 4, oA 4), (.aload_n 0, o0), (.getfield 34, vN, 1, 900009, 5, 900011, [(0, 512)]), (.getfield 294, vN, 1, 900002, 2, 900009, [(0, 418)]), (.iload 4, oA 4), (.iload_n 1, oA 1), (.invokevirtual 428, vN, 29, 3, 1, 900002, [(0, 1303)]), (.istore 5, oA 5), (.aload_n 0, o0), (.getfield 34, vN, 1, 900009, 5, 900011, [(0, 512)]), (.getfield 294, vN, 1, 900002, 2, 900009, [(0, 418)]), (.getfield 431, vN, 0, 301, 1, 900002, [(0, 292)]), (.iload 5, oA 5), (.isub, o0), (.istore 6, oA 6), (.iload_n 3, oA 3), (.ifCond .ne 6, oA 3), (.iload 4, oA 4), (.ireturn, o0)], 3),
  (80, [(.iload_n 3, oA 3), (.iconst 1, oC (vI 1)), (.if_icmp .ne 9, oA 4), (.iload 4, oA 4), (.iload 5, oA 5), (.imul, o0), (.ireturn, o0)], 4),
  (91, [(.iload_n 3, oA 3), (.iconst 2, oC (vI 2)), (.if_icmp .ne 6, oA 5), (.iload 6, oA 6), (.ireturn, o0)], 5),
  (99, [(.iload 6, oA 6), (.ifCond .le 12, oA 6), (.iload_n 1, oA 1), (.iload 6, oA 6), (.imul, o0), (.iload_n 2, oA 2), (.isub, o0), (.goto 4, oA 7)], 6),
  (113, [(.iconst 0, oC (vI 0))], 7),
  (114, [(.ireturn, o0)], 8)]
def C_P_tout : List Nat := []
set_option maxRecDepth 100000 in
def B_P_nest : List Blk := [(0, [(.iload_n 1, oA 1), (.iconst 0, oC (vI 0)), (.bipush 15, oC (vI 15)), (.invokestatic 112, vN, 177, 3, 1, 0, [(0, 745)]), (.ifCond .eq 13, oA 1), (.iload_n 2, oA 2), (.iload_n 3, oA 3), (.bipush 100, oC (vI 100)), (.invokestatic 125, vN, 178, 3, 1, 0, [(0, 752)]), (.ifCond .ne 5, oA 2)], 1),
  (20, [(.iconst (-1), oC (vI (-1))), (.ireturn, o0)], 2),
  (22, [(.aload_n 0, o0), (.getfield 34, vN, 1, 900009, 5, 900011, [(0, 512)]), (.getfield 116, vN, 1, 900007, 1, 900009, [(0, 416)]), (.iload_n 1, oA 1), (.iload_n 2, oA 2), (.iload_n 3, oA 3), (.invokevirtual 434, vN, 93, 4, 1, 900007, [(0, 1308)]), (.ireturn, o0)], 3)]
def C_P_nest : List Nat := []
set_option maxRecDepth 100000 in
def B_P_regatta : List Blk := [(0, [(.iload_n 1, oA 1), (.invokestatic 88, vN, 179, 1, 1, 0, [(0, 566)]), (.ifCond .eq 26, oA 1), (.iload_n 2, oA 2), (.iload_n 3, oA 3), (.sipush 720, oC (vI 720)), (.invokestatic 125, vN, 178, 3, 1, 0, [(0, 752)]), (.ifCond .eq 15, oA 1), (.iload 4, oA 4), (.iconst 0, oC (vI 0)), (.ldc_w 385, vI 65535, 0, 0, 0, 0, [(0, 1221)]), (.invokestatic 112, vN, 177, 3, 1, 0, [(0, 745)]), (.ifCond .ne 5, oA 2)], 1),
  (30, [(.iconst (-1), oC (vI (-1))), (.ireturn, o0)], 2),
  (32, [(.aload_n 0, o0), (.getfield 34, vN, 1, 900009, 5, 900011, [(0, 512)]), (.getfield 116, vN, 1, 900007, 1, 900009, [(0, 416)]), (.iload_n 1, oA 1), (.iload_n 2, oA 2), (.iload_n 3, oA 3), (.iload 4, oA 4), (.invokevirtual 437, vN, 94, 5, 1, 900007, [(0, 1316)]), (.ireturn, o0)], 3)]
def C_P_regatta : List Nat := []
set_option maxRecDepth 100000 in
def B_P_barred : List Blk := [(0, [(.aload_n 0, o0), (.iload_n 1, oA 1), (.iload_n 2, oA 2), (.invokevirtual 190, vN, 192, 3, 1, 900011, [(0, 914)]), (.ifCond .ne 5, oA 1), (.iconst (-1), oC (vI (-1))), (.ireturn, o0)], 1),
  (11, [(.aload_n 0, o0), (.getfield 34, vN, 1, 900009, 5, 900011, [(0, 512)]), (.getfield 44, vN, 1, 900001, 0, 900009, [(0, 414)]), (.iload_n 1, oA 1), (.invokevirtual 197, vN, 16, 2, 1, 900001, [(0, 869)]), (.istore_n 3, oA 3), (.aload_n 0, o0), (.getfield 34, vN, 1, 900009, 5, 900011, [(0, 512)]), (.getfield 44, vN, 1, 900001, 0, 900009, [(0, 414)]), (.getfield 440, vN, 1, 205000120, 5, 900001, [(0, 166)]), (.iload_n 1, oA 1), (.iaload, o0), (.sipush 720, oC (vI 720)), (.irem, o0), (.istore 4, oA 4), (.aload_n 0, o0), (.getfield 51, vN, 1, 900010, 8, 900011, [(0, 515)]), (.iload_n 1, oA 1), (.invokevirtual 169, vN, 110, 2, 1, 900010, [(0, 873)]), (.ifCond .eq 17, oA 2), (.iload 4, oA 4), (.aload_n 0, o0), (.getfield 51, vN, 1, 900010, 8, 900011, [(0, 515)]), (.iload_n 1, oA 1), (.invokevirtual 443, vN, 111, 2, 1, 900010, [(0, 1324)]), (.iadd, o0), (.goto 6, oA 3)], 2),
  (66, [(.sipush 720, oC (vI 720))], 3),
  (69, [(.istore 5, oA 5), (.aload_n 0, o0), (.getfield 34, vN, 1, 900009, 5, 900011, [(0, 512)]), (.getfield 116, vN, 1, 900007, 1, 900009, [(0, 416)]), (.iload_n 3, oA 3), (.invokevirtual 446, vN, 98, 2, 1, 900007, [(0, 1325)]), (.aload_n 0, o0), (.getfield 34, vN, 1, 900009, 5, 900011, [(0, 512)]), (.getfield 116, vN, 1, 900007, 1, 900009, [(0, 416)]), (.iload_n 3, oA 3), (.iload 4, oA 4), (.iload 5, oA 5), (.invokevirtual 449, vN, 99, 4, 1, 900007, [(0, 1329)]), (.ior, o0), (.istore 6, oA 6), (.iload 6, oA 6), (.aload_n 0, o0), (.getfield 34, vN, 1, 900009, 5, 900011, [(0, 512)]), (.getfield 44, vN, 1, 900001, 0, 900009, [(0, 414)]), (.getfield 386, vN, 1, 208000120, 8, 900001, [(0, 172)]), (.iload_n 1, oA 1), (.iaload, o0), (.iand, o0), (.ireturn, o0)], 4)]
def C_P_barred : List Nat := []
set_option maxRecDepth 100000 in
def B_P_image : List Blk := [(0, [(.aload_n 0, o0), (.getfield 452, vN, 0, 1207, 7, 900011, [(0, 514)]), (.iconst 3, oC (vI 3)), (.if_icmp .lt 5, oA 1), (.iconst (-1), oC (vI (-1))), (.ireturn, o0)], 1),
  (10, [(.new 31, vN, 900009, 1000, 6, 0, [(0, 139)]), (.dup, o0), (.invokespecial 33, vN, 105, 1, 63, 900009, [(0, 141)]), (.astore_n 1, oA 1), (.aload_n 1, oA 1), (.aload_n 0, o0), (.getfield 34, vN, 1, 900009, 5, 900011, [(0, 512)]), (.invokevirtual 455, vN, 106, 2, 0, 900009, [(0, 1338)]), (.aload_n 0, o0), (.getfield 38, vN, 1, 1206500003, 6, 900011, [(0, 513)]), (.aload_n 0, o0), (.getfield 452, vN, 0, 1207, 7, 900011, [(0, 514)]), (.aload_n 1, oA 1), (.aastore, vN, 0, 5, 900009, 0, []), (.aload_n 0, o0), (.dup, o0), (.getfield 452, vN, 0, 1207, 7, 900011, [(0, 514)]), (.iconst 1, oC (vI 1)), (.iadd, o0), (.putfield 452, vN, 0, 1207, 7, 900011, [(0, 514)]), (.aload_n 0, o0), (.getfield 452, vN, 0, 1207, 7, 900011, [(0, 514)]), (.iconst 1, oC (vI 1)), (.isub, o0), (.ireturn, o0)], 2)]
def C_P_image : List Nat := []
set_option maxRecDepth 100000 in
def B_P_restore : List Blk := [(0, [(.iload_n 1, oA 1), (.ifCond .lt 20, oA 1), (.iload_n 1, oA 1), (.aload_n 0, o0), (.getfield 452, vN, 0, 1207, 7, 900011, [(0, 514)]), (.if_icmp .ge 12, oA 1), (.aload_n 0, o0), (.getfield 38, vN, 1, 1206500003, 6, 900011, [(0, 513)]), (.iload_n 1, oA 1), (.aaload, vN, 0, 5, 900009, 0, []), (.ifnonnull 5, oA 2)], 1),
  (21, [(.iconst 0, oC (vI 0)), (.ireturn, oA 1)], 2),
  (23, [(.aload_n 0, o0), (.getfield 34, vN, 1, 900009, 5, 900011, [(0, 512)]), (.aload_n 0, o0), (.getfield 38, vN, 1, 1206500003, 6, 900011, [(0, 513)]), (.iload_n 1, oA 1), (.aaload, vN, 0, 5, 900009, 0, []), (.invokevirtual 455, vN, 106, 2, 0, 900009, [(0, 1338)]), (.iconst 1, oC (vI 1)), (.ireturn, oA 1)], 3)]
def C_P_restore : List Nat := []
set_option maxRecDepth 100000 in
def B_P_count : List Blk := [(0, [(.iload_n 1, oA 1), (.sipush 200, oC (vI 200)), (.if_icmp .lt 26, oA 1), (.iload_n 1, oA 1), (.sipush 300, oC (vI 300)), (.if_icmp .ge 19, oA 1), (.aload_n 0, o0), (.getfield 34, vN, 1, 900009, 5, 900011, [(0, 512)]), (.getfield 116, vN, 1, 900007, 1, 900009, [(0, 416)]), (.iload_n 1, oA 1), (.sipush 200, oC (vI 200)), (.isub, o0), (.invokevirtual 459, vN, 97, 2, 1, 900007, [(0, 820)]), (.ireturn, o0)], 1),
  (30, [(.iload_n 1, oA 1), (.tableswitch 216 0 13 #[69, 74, 85, 96, 107, 118, 129, 140, 151, 159, 178, 189, 200, 211], vN, 18, 0, 0, 0, [(0, 2), (1, 3), (2, 4), (3, 5), (4, 6), (5, 7), (6, 8), (7, 9), (8, 10), (9, 11), (10, 14), (11, 15), (12, 16), (13, 17)])], 2),
  (100, [(.aload_n 0, o0), (.getfield 91, vN, 0, 1203, 3, 900011, [(0, 510)]), (.ireturn, o0)], 3),
  (105, [(.aload_n 0, o0), (.getfield 34, vN, 1, 900009, 5, 900011, [(0, 512)]), (.getfield 44, vN, 1, 900001, 0, 900009, [(0, 414)]), (.getfield 270, vN, 0, 200, 0, 900001, [(0, 152)]), (.ireturn, o0)], 4),
  (116, [(.aload_n 0, o0), (.getfield 34, vN, 1, 900009, 5, 900011, [(0, 512)]), (.getfield 44, vN, 1, 900001, 0, 900009, [(0, 414)]), (.getfield 225, vN, 0, 202, 2, 900001, [(0, 156)]), (.ireturn, o0)], 5),
  (127, [(.aload_n 0, o0), (.getfield 34, vN, 1, 900009, 5, 900011, [(0, 512)]), (.getfield 44, vN, 1, 900001, 0, 900009, [(0, 414)]), (.getfield 163, vN, 0, 210, 10, 900001, [(0, 177)]), (.ireturn, o0)], 6),
  (138, [(.aload_n 0, o0), (.getfield 34, vN, 1, 900009, 5, 900011, [(0, 512)]), (.getfield 116, vN, 1, 900007, 1, 900009, [(0, 416)]), (.getfield 462, vN, 0, 801, 1, 900007, [(0, 231)]), (.ireturn, o0)], 7),
  (149, [(.aload_n 0, o0), (.getfield 34, vN, 1, 900009, 5, 900011, [(0, 512)]), (.getfield 331, vN, 1, 900008, 3, 900009, [(0, 420)]), (.getfield 340, vN, 0, 900, 0, 900008, [(0, 315)]), (.ireturn, o0)], 8),
  (160, [(.aload_n 0, o0), (.getfield 34, vN, 1, 900009, 5, 900011, [(0, 512)]), (.getfield 350, vN, 1, 900004, 4, 900009, [(0, 422)]), (.getfield 380, vN, 0, 500, 0, 900004, [(0, 343)]), (.ireturn, o0)], 9),
  (171, [(.aload_n 0, o0), (.getfield 34, vN, 1, 900009, 5, 900011, [(0, 512)]), (.getfield 350, vN, 1, 900004, 4, 900009, [(0, 422)]), (.getfield 360, vN, 0, 503, 3, 900004, [(0, 348)]), (.ireturn, o0)], 10),
  (182, [(.aload_n 0, o0), (.getfield 10, vN, 1, 900006, 0, 900011, [(0, 507)]), (.getfield 85, vN, 0, 701, 1, 900006, [(0, 38)]), (.ireturn, o0)], 11),
  (190, [(.aload_n 0, o0), (.getfield 34, vN, 1, 900009, 5, 900011, [(0, 512)]), (.getfield 294, vN, 1, 900002, 2, 900009, [(0, 418)]), (.invokevirtual 301, vN, 22, 1, 1, 900002, [(0, 1092)]), (.ifCond .eq 7, oA 12), (.iconst 1, oC (vI 1)), (.goto 4, oA 13)], 12),
  (207, [(.iconst 0, oC (vI 0))], 13),
  (208, [(.ireturn, o0)], 14),
  (209, [(.aload_n 0, o0), (.getfield 34, vN, 1, 900009, 5, 900011, [(0, 512)]), (.getfield 294, vN, 1, 900002, 2, 900009, [(0, 418)]), (.getfield 431, vN, 0, 301, 1, 900002, [(0, 292)]), (.ireturn, o0)], 15),
  (220, [(.aload_n 0, o0), (.getfield 34, vN, 1, 900009, 5, 900011, [(0, 512)]), (.getfield 116, vN, 1, 900007, 1, 900009, [(0, 416)]), (.getfield 465, vN, 0, 807, 7, 900007, [(0, 240)]), (.ireturn, o0)], 16),
  (231, [(.aload_n 0, o0), (.getfield 34, vN, 1, 900009, 5, 900011, [(0, 512)]), (.getfield 116, vN, 1, 900007, 1, 900009, [(0, 416)]), (.getfield 468, vN, 0, 811, 11, 900007, [(0, 245)]), (.ireturn, o0)], 17),
  (242, [(.aload_n 0, o0), (.getfield 452, vN, 0, 1207, 7, 900011, [(0, 514)]), (.ireturn, o0)], 18),
  (247, [(.iconst (-1), oC (vI (-1))), (.ireturn, o0)], 19)]
def C_P_count : List Nat := [1]
set_option maxRecDepth 100000 in
def B_P_within : List Blk := [(0, [(.iload_n 0, o0), (.iload_n 1, oA 1), (.if_icmp .lt 12, oA 1), (.iload_n 0, o0), (.iload_n 2, oA 2), (.if_icmp .gt 7, oA 1), (.iconst 1, oC (vI 1)), (.goto 4, oA 2)], 1),
  (14, [(.iconst 0, oC (vI 0))], 2),
  (15, [(.ireturn, oA 1)], 3)]
def C_P_within : List Nat := []
set_option maxRecDepth 100000 in
def B_P_isSpan : List Blk := [(0, [(.iload_n 0, o0), (.ifCond .lt 17, oA 1), (.iload_n 0, o0), (.iload_n 1, oA 1), (.if_icmp .gt 12, oA 1), (.iload_n 1, oA 1), (.iload_n 2, oA 2), (.if_icmp .ge 7, oA 1), (.iconst 1, oC (vI 1)), (.goto 4, oA 2)], 1),
  (18, [(.iconst 0, oC (vI 0))], 2),
  (19, [(.ireturn, oA 1)], 3)]
def C_P_isSpan : List Nat := []
set_option maxRecDepth 100000 in
def B_P_isDay : List Blk := [(0, [(.iload_n 0, o0), (.ifCond .lt 13, oA 1), (.iload_n 0, o0), (.bipush 100, oC (vI 100)), (.if_icmp .ge 7, oA 1), (.iconst 1, oC (vI 1)), (.goto 4, oA 2)], 1),
  (14, [(.iconst 0, oC (vI 0))], 2),
  (15, [(.ireturn, oA 1)], 3)]
def C_P_isDay : List Nat := []
set_option maxRecDepth 100000 in
def B_P_isMoment : List Blk := [(0, [(.iload_n 0, o0), (.ifCond .lt 14, oA 1), (.iload_n 0, o0), (.ldc_w 471, vI 72000, 0, 0, 0, 0, [(0, 781)]), (.if_icmp .ge 7, oA 1), (.iconst 1, oC (vI 1)), (.goto 4, oA 2)], 1),
  (15, [(.iconst 0, oC (vI 0))], 2),
  (16, [(.ireturn, oA 1)], 3)]
def C_P_isMoment : List Nat := []
set_option maxRecDepth 100000 in
def B_P_isKind : List Blk := [(0, [(.iload_n 0, o0), (.ifCond .lt 12, oA 1), (.iload_n 0, o0), (.iconst 4, oC (vI 4)), (.if_icmp .ge 7, oA 1), (.iconst 1, oC (vI 1)), (.goto 4, oA 2)], 1),
  (13, [(.iconst 0, oC (vI 0))], 2),
  (14, [(.ireturn, oA 1)], 3)]
def C_P_isKind : List Nat := []
set_option maxRecDepth 100000 in
def B_P_isWho : List Blk := [(0, [(.iload_n 0, o0), (.ifCond .lt 13, oA 1), (.iload_n 0, o0), (.bipush 10, oC (vI 10)), (.if_icmp .ge 7, oA 1), (.iconst 1, oC (vI 1)), (.goto 4, oA 2)], 1),
  (14, [(.iconst 0, oC (vI 0))], 2),
  (15, [(.ireturn, oA 1)], 3)]
def C_P_isWho : List Nat := []
set_option maxRecDepth 100000 in
def B_P_isCoin : List Blk := [(0, [(.iload_n 0, o0), (.ifCond .lt 14, oA 1), (.iload_n 0, o0), (.sipush 999, oC (vI 999)), (.if_icmp .gt 7, oA 1), (.iconst 1, oC (vI 1)), (.goto 4, oA 2)], 1),
  (15, [(.iconst 0, oC (vI 0))], 2),
  (16, [(.ireturn, oA 1)], 3)]
def C_P_isCoin : List Nat := []
set_option maxRecDepth 100000 in
def B_P_isBoat : List Blk := [(0, [(.iload_n 1, oA 1), (.ifCond .lt 21, oA 1), (.iload_n 1, oA 1), (.aload_n 0, o0), (.getfield 34, vN, 1, 900009, 5, 900011, [(0, 512)]), (.getfield 44, vN, 1, 900001, 0, 900009, [(0, 414)]), (.getfield 270, vN, 0, 200, 0, 900001, [(0, 152)]), (.if_icmp .ge 7, oA 1), (.iconst 1, oC (vI 1)), (.goto 4, oA 2)], 1),
  (22, [(.iconst 0, oC (vI 0))], 2),
  (23, [(.ireturn, oA 1)], 3)]
def C_P_isBoat : List Nat := []
set_option maxRecDepth 100000 in
def B_P_isHire : List Blk := [(0, [(.iload_n 1, oA 1), (.ifCond .lt 21, oA 1), (.iload_n 1, oA 1), (.aload_n 0, o0), (.getfield 34, vN, 1, 900009, 5, 900011, [(0, 512)]), (.getfield 44, vN, 1, 900001, 0, 900009, [(0, 414)]), (.getfield 225, vN, 0, 202, 2, 900001, [(0, 156)]), (.if_icmp .ge 7, oA 1), (.iconst 1, oC (vI 1)), (.goto 4, oA 2)], 1),
  (22, [(.iconst 0, oC (vI 0))], 2),
  (23, [(.ireturn, oA 1)], 3)]
def C_P_isHire : List Nat := []
set_option maxRecDepth 100000 in
def B_P_isTelling : List Blk := [(0, [(.iload_n 1, oA 1), (.ifCond .lt 21, oA 1), (.iload_n 1, oA 1), (.aload_n 0, o0), (.getfield 34, vN, 1, 900009, 5, 900011, [(0, 512)]), (.getfield 44, vN, 1, 900001, 0, 900009, [(0, 414)]), (.getfield 163, vN, 0, 210, 10, 900001, [(0, 177)]), (.if_icmp .gt 7, oA 1), (.iconst 1, oC (vI 1)), (.goto 4, oA 2)], 1),
  (22, [(.iconst 0, oC (vI 0))], 2),
  (23, [(.ireturn, oA 1)], 3)]
def C_P_isTelling : List Nat := []
set_option maxRecDepth 100000 in
def B_P_lawNumber : List Blk := [(0, [(.iconst (-1), oC (vI (-1))), (.istore_n 2, oA 2), (.iconst 0, oC (vI 0)), (.istore_n 3, oA 3), (.iconst 0, oC (vI 0)), (.istore 4, oA 4)], 1),
  (7, [(.iload 4, oA 4), (.aload_n 0, o0), (.getfield 91, vN, 0, 1203, 3, 900011, [(0, 510)]), (.if_icmp .ge 50, oA 3), (.aload_n 0, o0), (.getfield 18, vN, 1, 1201400005, 1, 900011, [(0, 508)]), (.iload 4, oA 4), (.aaload, vN, 0, 4, 900005, 0, []), (.astore 5, oA 5), (.aload 5, oA 5), (.ifnull 30, oA 2), (.aload 5, oA 5), (.getfield 472, vN, 0, 600, 0, 900005, [(0, 68)]), (.iload_n 1, oA 1), (.if_icmp .gt 21, oA 2), (.aload 5, oA 5), (.getfield 472, vN, 0, 600, 0, 900005, [(0, 68)]), (.iload_n 3, oA 3), (.if_icmp .lt 12, oA 2), (.iload 4, oA 4), (.istore_n 2, oA 2), (.aload 5, oA 5), (.getfield 472, vN, 0, 600, 0, 900005, [(0, 68)]), (.istore_n 3, oA 3)], 2),
  (57, [(.iinc 4 1, vI 1, 4, 0, 0, 0, []), (.goto (-53), oA 1)], 3),
  (63, [(.iload_n 2, oA 2), (.ireturn, o0)], 4)]
def C_P_lawNumber : List Nat := [1]
set_option maxRecDepth 100000 in
def B_P_lawOf : List Blk := [(0, [(.aload_n 0, o0), (.iload_n 1, oA 1), (.invokevirtual 101, vN, 187, 2, 1, 900011, [(0, 729)]), (.istore_n 2, oA 2), (.iload_n 2, oA 2), (.iconst (-1), oC (vI (-1))), (.if_icmp .ne 7, oA 1), (.aconst_null, o0), (.goto 9, oA 2)], 1),
  (15, [(.aload_n 0, o0), (.getfield 18, vN, 1, 1201400005, 1, 900011, [(0, 508)]), (.iload_n 2, oA 2), (.aaload, vN, 0, 4, 900005, 0, [])], 2),
  (21, [(.astore_n 3, oA 3), (.aload_n 3, oA 3), (.ifnonnull 10, oA 3), (.aload_n 0, o0), (.getfield 23, vN, 1, 900005, 2, 900011, [(0, 509)]), (.goto 4, oA 4)], 3),
  (33, [(.aload_n 3, oA 3)], 4),
  (34, [(.areturn, vN, 0, 900005, 0, 0, [])], 5)]
def C_P_lawOf : List Nat := []
set_option maxRecDepth 100000 in
def B_P_canGo : List Blk := [(0, [(.aload_n 0, o0), (.getfield 51, vN, 1, 900010, 8, 900011, [(0, 515)]), (.aload_n 0, o0), (.getfield 34, vN, 1, 900009, 5, 900011, [(0, 512)]), (.getfield 44, vN, 1, 900001, 0, 900009, [(0, 414)]), (.getfield 163, vN, 0, 210, 10, 900001, [(0, 177)]), (.invokevirtual 166, vN, 108, 2, 0, 900010, [(0, 786)]), (.aload_n 0, o0), (.getfield 51, vN, 1, 900010, 8, 900011, [(0, 515)]), (.iload_n 1, oA 1), (.iload_n 2, oA 2), (.invokevirtual 475, vN, 114, 3, 1, 900010, [(0, 794)]), (.ifCond .ne 5, oA 1), (.iconst 0, oC (vI 0)), (.ireturn, oA 1)], 1),
  (31, [(.aload_n 0, o0), (.iload_n 1, oA 1), (.iload_n 2, oA 2), (.invokevirtual 478, vN, 191, 3, 0, 900011, [(0, 798)]), (.aload_n 0, o0), (.iload_n 2, oA 2), (.sipush 720, oC (vI 720)), (.idiv, o0), (.invokevirtual 105, vN, 188, 2, 900005, 900011, [(0, 733)]), (.aload_n 0, o0), (.getfield 65, vN, 1, 1211000008, 11, 900011, [(0, 518)]), (.invokevirtual 481, vN, 60, 2, 1, 900005, [(0, 825)]), (.ifCond .ne 7, oA 2), (.iconst 1, oC (vI 1)), (.goto 4, oA 3)], 2),
  (60, [(.iconst 0, oC (vI 0))], 3),
  (61, [(.ireturn, oA 1)], 4)]
def C_P_canGo : List Nat := []
set_option maxRecDepth 100000 in
def B_P_canEnd : List Blk := [(0, [(.aload_n 0, o0), (.iload_n 1, oA 1), (.invokevirtual 178, vN, 185, 2, 1, 900011, [(0, 865)]), (.ifCond .eq 49, oA 1), (.iload_n 2, oA 2), (.invokestatic 143, vN, 180, 1, 1, 0, [(0, 778)]), (.ifCond .eq 42, oA 1), (.iload_n 2, oA 2), (.aload_n 0, o0), (.getfield 34, vN, 1, 900009, 5, 900011, [(0, 512)]), (.getfield 44, vN, 1, 900001, 0, 900009, [(0, 414)]), (.getfield 440, vN, 1, 205000120, 5, 900001, [(0, 166)]), (.iload_n 1, oA 1), (.iaload, o0), (.if_icmp .lt 26, oA 1), (.iload_n 2, oA 2), (.sipush 720, oC (vI 720)), (.idiv, o0), (.aload_n 0, o0), (.getfield 34, vN, 1, 900009, 5, 900011, [(0, 512)]), (.getfield 44, vN, 1, 900001, 0, 900009, [(0, 414)]), (.iload_n 1, oA 1), (.invokevirtual 197, vN, 16, 2, 1, 900001, [(0, 869)]), (.if_icmp .ne 7, oA 1), (.iconst 1, oC (vI 1)), (.goto 4, oA 2)], 1),
  (54, [(.iconst 0, oC (vI 0))], 2),
  (55, [(.ireturn, oA 1)], 3)]
def C_P_canEnd : List Nat := []
set_option maxRecDepth 100000 in
def B_P_ask : List Blk := [(0, [(.iload_n 2, oA 2), (.sipush 720, oC (vI 720)), (.idiv, o0), (.istore_n 3, oA 3), (.iload_n 2, oA 2), (.sipush 720, oC (vI 720)), (.irem, o0), (.istore 4, oA 4), (.aload_n 0, o0), (.getfield 65, vN, 1, 1211000008, 11, 900011, [(0, 518)]), (.iconst 0, oC (vI 0)), (.aload_n 0, o0), (.getfield 34, vN, 1, 900009, 5, 900011, [(0, 512)]), (.getfield 116, vN, 1, 900007, 1, 900009, [(0, 416)]), (.getfield 120, vN, 1, 800000100, 0, 900007, [(0, 229)]), (.iload_n 3, oA 3), (.iaload, o0), (.iastore, o0), (.aload_n 0, o0), (.getfield 65, vN, 1, 1211000008, 11, 900011, [(0, 518)]), (.iconst 1, oC (vI 1)), (.aload_n 0, o0), (.getfield 34, vN, 1, 900009, 5, 900011, [(0, 512)]), (.getfield 116, vN, 1, 900007, 1, 900009, [(0, 416)]), (.iload_n 3, oA 3), (.iload 4, oA 4), (.invokevirtual 485, vN, 95, 3, 1, 900007, [(0, 802)]), (.ifCond .eq 7, oA 1), (.iconst 1, oC (vI 1)), (.goto 4, oA 2)], 1),
  (56, [(.iconst 0, oC (vI 0))], 2),
  (57, [(.iastore, o0), (.aload_n 0, o0), (.getfield 65, vN, 1, 1211000008, 11, 900011, [(0, 518)]), (.iconst 2, oC (vI 2)), (.iload_n 3, oA 3), (.iastore, o0), (.aload_n 0, o0), (.getfield 65, vN, 1, 1211000008, 11, 900011, [(0, 518)]), (.iconst 3, oC (vI 3)), (.iload_n 3, oA 3), (.bipush 7, oC (vI 7)), (.irem, o0), (.iastore, o0), (.aload_n 0, o0), (.getfield 65, vN, 1, 1211000008, 11, 900011, [(0, 518)]), (.iconst 4, oC (vI 4)), (.iload 4, oA 4), (.iastore, o0), (.aload_n 0, o0), (.getfield 65, vN, 1, 1211000008, 11, 900011, [(0, 518)]), (.iconst 5, oC (vI 5)), (.aload_n 0, o0), (.getfield 51, vN, 1, 900010, 8, 900011, [(0, 515)]), (.iload_n 2, oA 2), (.invokevirtual 212, vN, 113, 2, 1, 900010, [(0, 806)]), (.invokestatic 488, vN, 334, 1, 1, 0, [(0, 814)]), (.iastore, o0), (.aload_n 0, o0), (.getfield 65, vN, 1, 1211000008, 11, 900011, [(0, 518)]), (.bipush 6, oC (vI 6)), (.aload_n 0, o0), (.getfield 34, vN, 1, 900009, 5, 900011, [(0, 512)]), (.getfield 44, vN, 1, 900001, 0, 900009, [(0, 414)]), (.getfield 282, vN, 1, 201000020, 1, 900001, [(0, 154)]), (.iload_n 1, oA 1), (.iaload, o0), (.iastore, o0), (.aload_n 0, o0), (.getfield 65, vN, 1, 1211000008, 11, 900011, [(0, 518)]), (.bipush 7, oC (vI 7)), (.aload_n 0, o0), (.getfield 34, vN, 1, 900009, 5, 900011, [(0, 512)]), (.getfield 116, vN, 1, 900007, 1, 900009, [(0, 416)]), (.iload_n 3, oA 3), (.invokevirtual 459, vN, 97, 2, 1, 900007, [(0, 820)]), (.iastore, o0), (.return_, o0)], 3)]
def C_P_ask : List Nat := [2]
set_option maxRecDepth 100000 in
def B_P_seesHire : List Blk := [(0, [(.aload_n 0, o0), (.iload_n 1, oA 1), (.invokevirtual 178, vN, 185, 2, 1, 900011, [(0, 865)]), (.ifCond .eq 11, oA 1), (.aload_n 0, o0), (.iload_n 2, oA 2), (.invokevirtual 209, vN, 186, 2, 1, 900011, [(0, 918)]), (.ifCond .ne 5, oA 2)], 1),
  (16, [(.iconst 0, oC (vI 0)), (.ireturn, oA 1)], 2),
  (18, [(.aload_n 0, o0), (.getfield 51, vN, 1, 900010, 8, 900011, [(0, 515)]), (.iload_n 2, oA 2), (.invokevirtual 166, vN, 108, 2, 0, 900010, [(0, 786)]), (.iload_n 1, oA 1), (.aload_n 0, o0), (.getfield 51, vN, 1, 900010, 8, 900011, [(0, 515)]), (.getfield 215, vN, 0, 1101, 1, 900010, [(0, 448)]), (.if_icmp .ge 7, oA 3), (.iconst 1, oC (vI 1)), (.goto 4, oA 4)], 3),
  (41, [(.iconst 0, oC (vI 0))], 4),
  (42, [(.ireturn, oA 1)], 5)]
def C_P_seesHire : List Nat := []
set_option maxRecDepth 100000 in
def B_P_isBackOn : List Blk := [(0, [(.aload_n 0, o0), (.getfield 34, vN, 1, 900009, 5, 900011, [(0, 512)]), (.getfield 44, vN, 1, 900001, 0, 900009, [(0, 414)]), (.iload_n 1, oA 1), (.invokevirtual 197, vN, 16, 2, 1, 900001, [(0, 869)]), (.iload_n 2, oA 2), (.if_icmp .ne 18, oA 1), (.aload_n 0, o0), (.getfield 51, vN, 1, 900010, 8, 900011, [(0, 515)]), (.iload_n 1, oA 1), (.invokevirtual 169, vN, 110, 2, 1, 900010, [(0, 873)]), (.ifCond .eq 7, oA 1), (.iconst 1, oC (vI 1)), (.goto 4, oA 2)], 1),
  (30, [(.iconst 0, oC (vI 0))], 2),
  (31, [(.ireturn, oA 1)], 3)]
def C_P_isBackOn : List Nat := []
set_option maxRecDepth 100000 in
def B_P_drawBill : List Blk := [(0, [(.aload_n 0, o0), (.getfield 61, vN, 1, 900000, 10, 900011, [(0, 517)]), (.aload_n 0, o0), (.getfield 51, vN, 1, 900010, 8, 900011, [(0, 515)]), (.iload_n 1, oA 1), (.aload_n 2, oA 2), (.aload_n 0, o0), (.getfield 69, vN, 1, 1212000721, 12, 900011, [(0, 519)]), (.invokevirtual 249, vN, 2, 5, 0, 900000, [(0, 935)]), (.aload_n 0, o0), (.getfield 51, vN, 1, 900010, 8, 900011, [(0, 515)]), (.getfield 493, vN, 1, 1103000120, 3, 900010, [(0, 452)]), (.iload_n 1, oA 1), (.iaload, o0), (.ifCond .le 59, oA 1), (.aload_n 0, o0), (.aload_n 0, o0), (.getfield 34, vN, 1, 900009, 5, 900011, [(0, 512)]), (.getfield 44, vN, 1, 900001, 0, 900009, [(0, 414)]), (.getfield 496, vN, 1, 203000120, 3, 900001, [(0, 159)]), (.iload_n 1, oA 1), (.iaload, o0), (.aload_n 0, o0), (.getfield 34, vN, 1, 900009, 5, 900011, [(0, 512)]), (.getfield 44, vN, 1, 900001, 0, 900009, [(0, 414)]), (.getfield 440, vN, 1, 205000120, 5, 900001, [(0, 166)]), (.iload_n 1, oA 1), (.iaload, o0), (.invokevirtual 478, vN, 191, 3, 0, 900011, [(0, 798)]), (.aload_n 0, o0), (.getfield 61, vN, 1, 900000, 10, 900011, [(0, 517)]), (.aload_n 0, o0), (.getfield 51, vN, 1, 900010, 8, 900011, [(0, 515)]), (.getfield 493, vN, 1, 1103000120, 3, 900010, [(0, 452)]), (.iload_n 1, oA 1), (.iaload, o0), (.aload_n 2, oA 2), (.aload_n 0, o0), (.getfield 65, vN, 1, 1211000008, 11, 900011, [(0, 518)]), (.invokevirtual 499, vN, 59, 2, 1, 900005, [(0, 991)]), (.imul, o0), (.bipush 100, oC (vI 100)), (.idiv, o0), (.putfield 503, vN, 0, 106, 6, 900000, [(0, 482)])], 1),
  (85, [(.return_, o0)], 2)]
def C_P_drawBill : List Nat := []
set_option maxRecDepth 100000 in
def B_P_boatsAheadOf : List Blk := [(0, [(.iconst 0, oC (vI 0)), (.istore_n 2, oA 2), (.iconst 0, oC (vI 0)), (.istore_n 3, oA 3)], 1),
  (4, [(.iload_n 3, oA 3), (.aload_n 0, o0), (.getfield 34, vN, 1, 900009, 5, 900011, [(0, 512)]), (.getfield 44, vN, 1, 900001, 0, 900009, [(0, 414)]), (.getfield 270, vN, 0, 200, 0, 900001, [(0, 152)]), (.if_icmp .ge 47, oA 4), (.aload_n 0, o0), (.getfield 74, vN, 1, 1213002304, 13, 900011, [(0, 520)]), (.iload_n 3, oA 3), (.iaload, o0), (.aload_n 0, o0), (.getfield 74, vN, 1, 1213002304, 13, 900011, [(0, 520)]), (.iload_n 1, oA 1), (.iaload, o0), (.if_icmp .gt 23, oA 2), (.aload_n 0, o0), (.getfield 74, vN, 1, 1213002304, 13, 900011, [(0, 520)]), (.iload_n 3, oA 3), (.iaload, o0), (.aload_n 0, o0), (.getfield 74, vN, 1, 1213002304, 13, 900011, [(0, 520)]), (.iload_n 1, oA 1), (.iaload, o0), (.if_icmp .ne 11, oA 3), (.iload_n 3, oA 3), (.iload_n 1, oA 1), (.if_icmp .ge 6, oA 3)], 2),
  (53, [(.iinc 2 1, vI 1, 2, 0, 0, 0, [])], 3),
  (56, [(.iinc 3 1, vI 1, 3, 0, 0, 0, []), (.goto (-55), oA 1)], 4),
  (62, [(.iload_n 2, oA 2), (.ireturn, o0)], 5)]
def C_P_boatsAheadOf : List Nat := [1]
set_option maxRecDepth 100000 in
def B_P_insertWait : List Blk := [(0, [(.iload_n 2, oA 2), (.istore_n 3, oA 3)], 1),
  (2, [(.iload_n 3, oA 3), (.ifCond .le 35, oA 2), (.aload_n 0, o0), (.getfield 74, vN, 1, 1213002304, 13, 900011, [(0, 520)]), (.iload_n 3, oA 3), (.iconst 1, oC (vI 1)), (.isub, o0), (.iaload, o0), (.iload_n 1, oA 1), (.if_icmp .le 23, oA 2), (.aload_n 0, o0), (.getfield 74, vN, 1, 1213002304, 13, 900011, [(0, 520)]), (.iload_n 3, oA 3), (.aload_n 0, o0), (.getfield 74, vN, 1, 1213002304, 13, 900011, [(0, 520)]), (.iload_n 3, oA 3), (.iconst 1, oC (vI 1)), (.isub, o0), (.iaload, o0), (.iastore, o0), (.iinc 3 (-1), vI (-1), 3, 0, 0, 0, []), (.goto (-33), oA 1)], 2),
  (38, [(.aload_n 0, o0), (.getfield 74, vN, 1, 1213002304, 13, 900011, [(0, 520)]), (.iload_n 3, oA 3), (.iload_n 1, oA 1), (.iastore, o0), (.return_, o0)], 3)]
def C_P_insertWait : List Nat := [1]
set_option maxRecDepth 100000 in
def B_M_init : List Blk := [(0, [(.aload_n 0, o0), (.invokespecial 1, vN, 901, 0, 0, 0, [(0, 1383)]), (.aload_n 0, o0), (.iconst (-1), oC (vI (-1))), (.putfield 9, vN, 0, 1307, 7, 900012, [(0, 1391)])], 1),
  (9, [(.aload_n 0, o0), (.sipush 384, oC (vI 384)), (.newarray .int, oA 1308000384), (.putfield 13, vN, 1, 1308000384, 8, 900012, [(0, 1392)])], 2),
  (18, [(.aload_n 0, o0), (.bipush 6, oC (vI 6)), (.newarray .int, oA 1309000006), (.putfield 17, vN, 1, 1309000006, 9, 900012, [(0, 1393)])], 3),
  (26, [(.aload_n 0, o0), (.bipush 6, oC (vI 6)), (.newarray .int, oA 1310000006), (.putfield 20, vN, 1, 1310000006, 10, 900012, [(0, 1394)])], 4),
  (34, [(.aload_n 0, o0), (.sipush 240, oC (vI 240)), (.newarray .int, oA 1311000240), (.putfield 23, vN, 1, 1311000240, 11, 900012, [(0, 1395)])], 5),
  (43, [(.aload_n 0, o0), (.sipush 240, oC (vI 240)), (.newarray .int, oA 1312000240), (.putfield 26, vN, 1, 1312000240, 12, 900012, [(0, 1396)])], 6),
  (52, [(.aload_n 0, o0), (.sipush 240, oC (vI 240)), (.newarray .int, oA 1313000240), (.putfield 29, vN, 1, 1313000240, 13, 900012, [(0, 1397)])], 7),
  (61, [(.aload_n 0, o0), (.sipush 240, oC (vI 240)), (.newarray .int, oA 1314000240), (.putfield 32, vN, 1, 1314000240, 14, 900012, [(0, 1398)])], 8),
  (70, [(.aload_n 0, o0), (.sipush 240, oC (vI 240)), (.newarray .int, oA 1315000240), (.putfield 35, vN, 1, 1315000240, 15, 900012, [(0, 1399)])], 9),
  (79, [(.aload_n 0, o0), (.sipush 240, oC (vI 240)), (.newarray .int, oA 1316000240), (.putfield 38, vN, 1, 1316000240, 16, 900012, [(0, 1400)])], 10),
  (88, [(.aload_n 0, o0), (.sipush 2700, oC (vI 2700)), (.newarray .int, oA 1317002700), (.putfield 41, vN, 1, 1317002700, 17, 900012, [(0, 1401)])], 11),
  (97, [(.aload_n 0, o0), (.sipush 2700, oC (vI 2700)), (.newarray .int, oA 1318002700), (.putfield 44, vN, 1, 1318002700, 18, 900012, [(0, 1402)])], 12),
  (106, [(.aload_n 0, o0), (.sipush 2700, oC (vI 2700)), (.newarray .int, oA 1319002700), (.putfield 47, vN, 1, 1319002700, 19, 900012, [(0, 1403)])], 13),
  (115, [(.aload_n 0, o0), (.bipush 8, oC (vI 8)), (.newarray .int, oA 1320000008), (.putfield 50, vN, 1, 1320000008, 20, 900012, [(0, 1404)])], 14),
  (123, [(.aload_n 0, o0), (.bipush 64, oC (vI 64)), (.newarray .boolean, oA 1321200064), (.putfield 53, vN, 1, 1321200064, 21, 900012, [(0, 1405)])], 15),
  (131, [(.aload_n 0, o0), (.sipush 900, oC (vI 900)), (.newarray .byte, oA 1322100900), (.putfield 57, vN, 1, 1322100900, 22, 900012, [(0, 1406)])], 16),
  (140, [(.aload_n 0, o0), (.sipush 900, oC (vI 900)), (.newarray .byte, oA 1323100900), (.putfield 61, vN, 1, 1323100900, 23, 900012, [(0, 1407)])], 17),
  (149, [(.aload_n 0, o0), (.bipush 100, oC (vI 100)), (.newarray .int, oA 1330000100), (.dup, o0), (.iconst 0, oC (vI 0)), (.bipush 50, oC (vI 50)), (.iastore, o0), (.dup, o0), (.iconst 1, oC (vI 1)), (.bipush 50, oC (vI 50)), (.iastore, o0), (.dup, o0), (.iconst 2, oC (vI 2)), (.bipush 50, oC (vI 50)), (.iastore, o0), (.dup, o0), (.iconst 3, oC (vI 3)), (.bipush 50, oC (vI 50)), (.iastore, o0), (.dup, o0), (.iconst 4, oC (vI 4)), (.bipush 50, oC (vI 50)), (.iastore, o0), (.dup, o0), (.iconst 5, oC (vI 5)), (.bipush 50, oC (vI 50)), (.iastore, o0), (.dup, o0), (.bipush 6, oC (vI 6)), (.bipush 50, oC (vI 50)), (.iastore, o0), (.dup, o0), (.bipush 7, oC (vI 7)), (.bipush 50, oC (vI 50)), (.iastore, o0), (.dup, o0), (.bipush 8, oC (vI 8)), (.bipush 50, oC (vI 50)), (.iastore, o0), (.dup, o0), (.bipush 9, oC (vI 9)), (.bipush 50, oC (vI 50)), (.iastore, o0), (.dup, o0), (.bipush 10, oC (vI 10)), (.bipush 50, oC (vI 50)), (.iastore, o0), (.dup, o0), (.bipush 11, oC (vI 11)), (.bipush 50, oC (vI 50)), (.iastore, o0), (.dup, o0), (.bipush 12, oC (vI 12)), (.bipush 50, oC (vI 50)), (.iastore, o0), (.dup, o0), (.bipush 13, oC (vI 13)), (.bipush 50, oC (vI 50)), (.iastore, o0), (.dup, o0), (.bipush 14, oC (vI 14)), (.bipush 50, oC (vI 50)), (.iastore, o0), (.dup, o0), (.bipush 15, oC (vI 15)), (.bipush 50, oC (vI 50)), (.iastore, o0), (.dup, o0), (.bipush 16, oC (vI 16)), (.bipush 50, oC (vI 50)), (.iastore, o0), (.dup, o0), (.bipush 17, oC (vI 17)), (.bipush 50, oC (vI 50)), (.iastore, o0), (.dup, o0), (.bipush 18, oC (vI 18)), (.bipush 50, oC (vI 50)), (.iastore, o0), (.dup, o0), (.bipush 19, oC (vI 19)), (.bipush 50, oC (vI 50)), (.iastore, o0), (.dup, o0), (.bipush 20, oC (vI 20)), (.bipush 50, oC (vI 50)), (.iastore, o0), (.dup, o0), (.bipush 21, oC (vI 21)), (.bipush 50, oC (vI 50)), (.iastore, o0), (.dup, o0), (.bipush 22, oC (vI 22)), (.bipush 50, oC (vI 50)), (.iastore, o0), (.dup, o0), (.bipush 23, oC (vI 23)), (.bipush 50, oC (vI 50)), (.iastore, o0), (.dup, o0), (.bipush 24, oC (vI 24)), (.bipush 50, oC (vI 50)), (.iastore, o0), (.dup, o0), (.bipush 25, oC (vI 25)), (.bipush 50, oC (vI 50)), (.iastore, o0), (.dup, o0), (.bipush 26, oC (vI 26)), (.bipush 50, oC (vI 50)), (.iastore, o0), (.dup, o0), (.bipush 27, oC (vI 27)), (.bipush 50, oC (vI 50)), (.iastore, o0), (.dup, o0), (.bipush 28, oC (vI 28)), (.bipush 50, oC (vI 50)), (.iastore, o0), (.dup, o0), (.bipush 29, oC (vI 29)), (.bipush 50, oC (vI 50)), (.iastore, o0), (.dup, o0), (.bipush 30, oC (vI 30)), (.bipush 50, oC (vI 50)), (.iastore, o0), (.dup, o0), (.bipush 31, oC (vI 31)), (.bipush 50, oC (vI 50)), (.iastore, o0), (.dup, o0), (.bipush 32, oC (vI 32)), (.bipush 50, oC (vI 50)), (.iastore, o0), (.dup, o0), (.bipush 33, oC (vI 33)), (.bipush 50, oC (vI 50)), (.iastore, o0), (.dup, o0), (.bipush 34, oC (vI 34)), (.bipush 50, oC (vI 50)), (.iastore, o0), (.dup, o0), (.bipush 35, oC (vI 35)), (.bipush 50, oC (vI 50)), (.iastore, o0), (.dup, o0), (.bipush 36, oC (vI 36)), (.bipush 50, oC (vI 50)), (.iastore, o0), (.dup, o0), (.bipush 37, oC (vI 37)), (.bipush 50, oC (vI 50)), (.iastore, o0), (.dup, o0), (.bipush 38, oC (vI 38)), (.bipush 50, oC (vI 50)), (.iastore, o0), (.dup, o0), (.bipush 39, oC (vI 39)), (.bipush 50, oC (vI 50)), (.iastore, o0), (.dup, o0), (.bipush 40, oC (vI 40)), (.bipush 50, oC (vI 50)), (.iastore, o0), (.dup, o0), (.bipush 41, oC (vI 41)), (.bipush 50, oC (vI 50)), (.iastore, o0), (.dup, o0), (.bipush 42, oC (vI 42)), (.bipush 50, oC (vI 50)), (.iastore, o0), (.dup, o0), (.bipush 43, oC (vI 43)), (.bipush 50, oC (vI 50)), (.iastore, o0), (.dup, o0), (.bipush 44, oC (vI 44)), (.bipush 50, oC (vI 50)), (.iastore, o0), (.dup, o0), (.bipush 45, oC (vI 45)), (.bipush 50, oC (vI 50)), (.iastore, o0), (.dup, o0), (.bipush 46, oC (vI 46)), (.bipush 50, oC (vI 50)), (.iastore, o0), (.dup, o0), (.bipush 47, oC (vI 47)), (.bipush 50, oC (vI 50)), (.iastore, o0), (.dup, o0), (.bipush 48, oC (vI 48)), (.bipush 50, oC (vI 50)), (.iastore, o0), (.dup, o0), (.bipush 49, oC (vI 49)), (.bipush 50, oC (vI 50)), (.iastore, o0), (.dup, o0), (.bipush 50, oC (vI 50)), (.bipush 50, oC (vI 50)), (.iastore, o0), (.dup, o0), (.bipush 51, oC (vI 51)), (.bipush 50, oC (vI 50)), (.iastore, o0), (.dup, o0), (.bipush 52, oC (vI 52)), (.bipush 50, oC (vI 50)), (.iastore, o0), (.dup, o0), (.bipush 53, oC (vI 53)), (.bipush 50, oC (vI 50)), (.iastore, o0), (.dup, o0), (.bipush 54, oC (vI 54)), (.bipush 50, oC (vI 50)), (.iastore, o0), (.dup, o0), (.bipush 55, oC (vI 55)), (.bipush 50, oC (vI 50)), (.iastore, o0), (.dup, o0), (.bipush 56, oC (vI 56)), (.bipush 50, oC (vI 50)), (.iastore, o0), (.dup, o0), (.bipush 57, oC (vI 57)), (.bipush 50, oC (vI 50)), (.iastore, o0), (.dup, o0), (.bipush 58, oC (vI 58)), (.bipush 50, oC (vI 50)), (.iastore, o0), (.dup, o0), (.bipush 59, oC (vI 59)), (.bipush 50, oC (vI 50)), (.iastore, o0), (.dup, o0), (.bipush 60, oC (vI 60)), (.bipush 50, oC (vI 50)), (.iastore, o0), (.dup, o0), (.bipush 61, oC (vI 61)), (.bipush 50, oC (vI 50)), (.iastore, o0), (.dup, o0), (.bipush 62, oC (vI 62)), (.bipush 50, oC (vI 50)), (.iastore, o0), (.dup, o0), (.bipush 63, oC (vI 63)), (.bipush 50, oC (vI 50)), (.iastore, o0), (.dup, o0), (.bipush 64, oC (vI 64)), (.bipush 50, oC (vI 50)), (.iastore, o0), (.dup, o0), (.bipush 65, oC (vI 65)), (.bipush 50, oC (vI 50)), (.iastore, o0), (.dup, o0), (.bipush 66, oC (vI 66)), (.bipush 50, oC (vI 50)), (.iastore, o0), (.dup, o0), (.bipush 67, oC (vI 67)), (.bipush 50, oC (vI 50)), (.iastore, o0), (.dup, o0), (.bipush 68, oC (vI 68)), (.bipush 50, oC (vI 50)), (.iastore, o0), (.dup, o0), (.bipush 69, oC (vI 69)), (.bipush 50, oC (vI 50)), (.iastore, o0), (.dup, o0), (.bipush 70, oC (vI 70)), (.bipush 50, oC (vI 50)), (.iastore, o0), (.dup, o0), (.bipush 71, oC (vI 71)), (.bipush 50, oC (vI 50)), (.iastore, o0), (.dup, o0), (.bipush 72, oC (vI 72)), (.bipush 50, oC (vI 50)), (.iastore, o0), (.dup, o0), (.bipush 73, oC (vI 73)), (.bipush 50, oC (vI 50)), (.iastore, o0), (.dup, o0), (.bipush 74, oC (vI 74)), (.bipush 50, oC (vI 50)), (.iastore, o0), (.dup, o0), (.bipush 75, oC (vI 75)), (.bipush 50, oC (vI 50)), (.iastore, o0), (.dup, o0), (.bipush 76, oC (vI 76)), (.bipush 50, oC (vI 50)), (.iastore, o0), (.dup, o0), (.bipush 77, oC (vI 77)), (.bipush 50, oC (vI 50)), (.iastore, o0), (.dup, o0), (.bipush 78, oC (vI 78)), (.bipush 50, oC (vI 50)), (.iastore, o0), (.dup, o0), (.bipush 79, oC (vI 79)), (.bipush 50, oC (vI 50)), (.iastore, o0), (.dup, o0), (.bipush 80, oC (vI 80)), (.bipush 50, oC (vI 50)), (.iastore, o0), (.dup, o0), (.bipush 81, oC (vI 81)), (.bipush 50, oC (vI 50)), (.iastore, o0), (.dup, o0), (.bipush 82, oC (vI 82)), (.bipush 50, oC (vI 50)), (.iastore, o0), (.dup, o0), (.bipush 83, oC (vI 83)), (.bipush 50, oC (vI 50)), (.iastore, o0), (.dup, o0), (.bipush 84, oC (vI 84)), (.bipush 50, oC (vI 50)), (.iastore, o0), (.dup, o0), (.bipush 85, oC (vI 85)), (.bipush 50, oC (vI 50)), (.iastore, o0), (.dup, o0), (.bipush 86, oC (vI 86)), (.bipush 50, oC (vI 50)), (.iastore, o0), (.dup, o0), (.bipush 87, oC (vI 87)), (.bipush 50, oC (vI 50)), (.iastore, o0), (.dup, o0), (.bipush 88, oC (vI 88)), (.bipush 50, oC (vI 50)), (.iastore, o0), (.dup, o0), (.bipush 89, oC (vI 89)), (.bipush 50, oC (vI 50)), (.iastore, o0), (.dup, o0), (.bipush 90, oC (vI 90)), (.bipush 50, oC (vI 50)), (.iastore, o0), (.dup, o0), (.bipush 91, oC (vI 91)), (.bipush 50, oC (vI 50)), (.iastore, o0), (.dup, o0), (.bipush 92, oC (vI 92)), (.bipush 50, oC (vI 50)), (.iastore, o0), (.dup, o0), (.bipush 93, oC (vI 93)), (.bipush 50, oC (vI 50)), (.iastore, o0), (.dup, o0), (.bipush 94, oC (vI 94)), (.bipush 50, oC (vI 50)), (.iastore, o0), (.dup, o0), (.bipush 95, oC (vI 95)), (.bipush 50, oC (vI 50)), (.iastore, o0), (.dup, o0), (.bipush 96, oC (vI 96)), (.bipush 50, oC (vI 50)), (.iastore, o0), (.dup, o0), (.bipush 97, oC (vI 97)), (.bipush 50, oC (vI 50)), (.iastore, o0), (.dup, o0), (.bipush 98, oC (vI 98)), (.bipush 50, oC (vI 50)), (.iastore, o0), (.dup, o0), (.bipush 99, oC (vI 99)), (.bipush 50, oC (vI 50)), (.iastore, o0), (.putfield 64, vN, 1, 1330000100, 30, 900012, [(0, 1414)])], 18),
  (751, [(.aload_n 0, o0), (.bipush 100, oC (vI 100)), (.newarray .int, oA 1331000100), (.putfield 67, vN, 1, 1331000100, 31, 900012, [(0, 1415)])], 19),
  (759, [(.aload_n 0, o0), (.bipush 40, oC (vI 40)), (.newarray .int, oA 1332000040), (.putfield 70, vN, 1, 1332000040, 32, 900012, [(0, 1416)])], 20),
  (767, [(.aload_n 0, o0), (.bipush 40, oC (vI 40)), (.newarray .int, oA 1333000040), (.putfield 73, vN, 1, 1333000040, 33, 900012, [(0, 1417)])], 21),
  (775, [(.aload_n 0, o0), (.bipush 40, oC (vI 40)), (.newarray .int, oA 1334000040), (.putfield 76, vN, 1, 1334000040, 34, 900012, [(0, 1418)])], 22),
  (783, [(.aload_n 0, o0), (.bipush 20, oC (vI 20)), (.newarray .int, oA 1338000020), (.putfield 79, vN, 1, 1338000020, 38, 900012, [(0, 1422)])], 23),
  (791, [(.aload_n 0, o0), (.bipush 120, oC (vI 120)), (.newarray .int, oA 1339000120), (.putfield 82, vN, 1, 1339000120, 39, 900012, [(0, 1423)])], 24),
  (799, [(.aload_n 0, o0), (.bipush 120, oC (vI 120)), (.newarray .int, oA 1340000120), (.putfield 85, vN, 1, 1340000120, 40, 900012, [(0, 1424)])], 25),
  (807, [(.aload_n 0, o0), (.bipush 120, oC (vI 120)), (.newarray .int, oA 1341000120), (.putfield 88, vN, 1, 1341000120, 41, 900012, [(0, 1425)])], 26),
  (815, [(.aload_n 0, o0), (.bipush 120, oC (vI 120)), (.newarray .int, oA 1342000120), (.putfield 91, vN, 1, 1342000120, 42, 900012, [(0, 1426)])], 27),
  (823, [(.aload_n 0, o0), (.bipush 120, oC (vI 120)), (.newarray .int, oA 1343000120), (.putfield 94, vN, 1, 1343000120, 43, 900012, [(0, 1427)])], 28),
  (831, [(.aload_n 0, o0), (.bipush 120, oC (vI 120)), (.newarray .int, oA 1344000120), (.putfield 97, vN, 1, 1344000120, 44, 900012, [(0, 1428)])], 29),
  (839, [(.aload_n 0, o0), (.bipush 120, oC (vI 120)), (.newarray .int, oA 1345000120), (.putfield 100, vN, 1, 1345000120, 45, 900012, [(0, 1429)])], 30),
  (847, [(.aload_n 0, o0), (.sipush 401, oC (vI 401)), (.newarray .int, oA 1346000401), (.putfield 103, vN, 1, 1346000401, 46, 900012, [(0, 1430)])], 31),
  (856, [(.aload_n 0, o0), (.sipush 401, oC (vI 401)), (.newarray .int, oA 1347000401), (.putfield 106, vN, 1, 1347000401, 47, 900012, [(0, 1431)])], 32),
  (865, [(.aload_n 0, o0), (.sipush 401, oC (vI 401)), (.newarray .int, oA 1348000401), (.putfield 109, vN, 1, 1348000401, 48, 900012, [(0, 1432)])], 33),
  (874, [(.aload_n 0, o0), (.sipush 401, oC (vI 401)), (.newarray .int, oA 1349000401), (.putfield 112, vN, 1, 1349000401, 49, 900012, [(0, 1433)])], 34),
  (883, [(.aload_n 0, o0), (.bipush 120, oC (vI 120)), (.newarray .int, oA 1350000120), (.putfield 115, vN, 1, 1350000120, 50, 900012, [(0, 1434)])], 35),
  (891, [(.aload_n 0, o0), (.bipush 120, oC (vI 120)), (.newarray .int, oA 1351000120), (.putfield 118, vN, 1, 1351000120, 51, 900012, [(0, 1435)])], 36),
  (899, [(.aload_n 0, o0), (.bipush 120, oC (vI 120)), (.newarray .int, oA 1352000120), (.putfield 121, vN, 1, 1352000120, 52, 900012, [(0, 1436)])], 37),
  (907, [(.aload_n 0, o0), (.bipush 120, oC (vI 120)), (.newarray .int, oA 1353000120), (.putfield 124, vN, 1, 1353000120, 53, 900012, [(0, 1437)])], 38),
  (915, [(.aload_n 0, o0), (.sipush 600, oC (vI 600)), (.newarray .int, oA 1355000600), (.putfield 127, vN, 1, 1355000600, 55, 900012, [(0, 1439)])], 39),
  (924, [(.aload_n 0, o0), (.bipush 120, oC (vI 120)), (.newarray .int, oA 1356000120), (.putfield 130, vN, 1, 1356000120, 56, 900012, [(0, 1440)])], 40),
  (932, [(.aload_n 0, o0), (.bipush 72, oC (vI 72)), (.newarray .int, oA 1357000072), (.putfield 133, vN, 1, 1357000072, 57, 900012, [(0, 1441)])], 41),
  (940, [(.aload_n 0, o0), (.bipush 36, oC (vI 36)), (.newarray .long, oA 1358300036), (.putfield 136, vN, 1, 1358300036, 58, 900012, [(0, 1442)])], 42),
  (948, [(.aload_n 0, o0), (.bipush 36, oC (vI 36)), (.newarray .long, oA 1359300036), (.putfield 140, vN, 1, 1359300036, 59, 900012, [(0, 1443)])], 43),
  (956, [(.aload_n 0, o0), (.bipush 7, oC (vI 7)), (.newarray .int, oA 1362000007), (.putfield 143, vN, 1, 1362000007, 62, 900012, [(0, 1446)])], 44),
  (964, [(.aload_n 0, o0), (.bipush 7, oC (vI 7)), (.newarray .int, oA 1363000007), (.putfield 146, vN, 1, 1363000007, 63, 900012, [(0, 1447)])], 45),
  (972, [(.aload_n 0, o0), (.bipush 7, oC (vI 7)), (.newarray .int, oA 1364000007), (.putfield 149, vN, 1, 1364000007, 64, 900012, [(0, 1448)])], 46),
  (980, [(.aload_n 0, o0), (.bipush 7, oC (vI 7)), (.newarray .int, oA 1365000007), (.putfield 152, vN, 1, 1365000007, 65, 900012, [(0, 1449)])], 47),
  (988, [(.aload_n 0, o0), (.bipush 8, oC (vI 8)), (.newarray .int, oA 1368000008), (.putfield 155, vN, 1, 1368000008, 68, 900012, [(0, 1452)])], 48),
  (996, [(.aload_n 0, o0), (.bipush 8, oC (vI 8)), (.newarray .int, oA 1369000008), (.putfield 158, vN, 1, 1369000008, 69, 900012, [(0, 1453)])], 49),
  (1004, [(.aload_n 0, o0), (.bipush 8, oC (vI 8)), (.newarray .int, oA 1370000008), (.putfield 161, vN, 1, 1370000008, 70, 900012, [(0, 1454)])], 50),
  (1012, [(.aload_n 0, o0), (.bipush 8, oC (vI 8)), (.newarray .int, oA 1371000008), (.putfield 164, vN, 1, 1371000008, 71, 900012, [(0, 1455)])], 51),
  (1020, [(.aload_n 0, o0), (.sipush 2304, oC (vI 2304)), (.newarray .int, oA 1372002304), (.putfield 167, vN, 1, 1372002304, 72, 900012, [(0, 1456)])], 52),
  (1029, [(.aload_n 0, o0), (.bipush 8, oC (vI 8)), (.newarray .int, oA 1373000008), (.putfield 170, vN, 1, 1373000008, 73, 900012, [(0, 1457)])], 53),
  (1037, [(.aload_n 0, o0), (.bipush 20, oC (vI 20)), (.newarray .int, oA 1374000020), (.putfield 173, vN, 1, 1374000020, 74, 900012, [(0, 1458)])], 54),
  (1045, [(.aload_n 0, o0), (.bipush 20, oC (vI 20)), (.newarray .int, oA 1375000020), (.putfield 176, vN, 1, 1375000020, 75, 900012, [(0, 1459)])], 55),
  (1053, [(.aload_n 0, o0), (.bipush 20, oC (vI 20)), (.newarray .int, oA 1376000020), (.putfield 179, vN, 1, 1376000020, 76, 900012, [(0, 1460)])], 56),
  (1061, [(.aload_n 0, o0), (.bipush 20, oC (vI 20)), (.newarray .int, oA 1377000020), (.putfield 182, vN, 1, 1377000020, 77, 900012, [(0, 1461)])], 57),
  (1069, [(.aload_n 0, o0), (.bipush 20, oC (vI 20)), (.newarray .int, oA 1378000020), (.putfield 185, vN, 1, 1378000020, 78, 900012, [(0, 1462)])], 58),
  (1077, [(.aload_n 0, o0), (.bipush 20, oC (vI 20)), (.newarray .int, oA 1379000020), (.putfield 188, vN, 1, 1379000020, 79, 900012, [(0, 1463)])], 59),
  (1085, [(.aload_n 0, o0), (.bipush 12, oC (vI 12)), (.newarray .int, oA 1382000012), (.putfield 191, vN, 1, 1382000012, 82, 900012, [(0, 1466)])], 60),
  (1093, [(.aload_n 0, o0), (.bipush 20, oC (vI 20)), (.newarray .int, oA 1385000020), (.putfield 194, vN, 1, 1385000020, 85, 900012, [(0, 1469)])], 61),
  (1101, [(.aload_n 0, o0), (.bipush 20, oC (vI 20)), (.newarray .int, oA 1386000020), (.putfield 197, vN, 1, 1386000020, 86, 900012, [(0, 1470)])], 62),
  (1109, [(.aload_n 0, o0), (.bipush 20, oC (vI 20)), (.newarray .int, oA 1387000020), (.putfield 200, vN, 1, 1387000020, 87, 900012, [(0, 1471)])], 63),
  (1117, [(.aload_n 0, o0), (.bipush 10, oC (vI 10)), (.newarray .int, oA 1388000010), (.putfield 203, vN, 1, 1388000010, 88, 900012, [(0, 1472)])], 64),
  (1125, [(.aload_n 0, o0), (.bipush 10, oC (vI 10)), (.newarray .int, oA 1389000010), (.putfield 206, vN, 1, 1389000010, 89, 900012, [(0, 1473)])], 65),
  (1133, [(.aload_n 0, o0), (.bipush 10, oC (vI 10)), (.newarray .int, oA 1390000010), (.putfield 209, vN, 1, 1390000010, 90, 900012, [(0, 1474)])], 66),
  (1141, [(.aload_n 0, o0), (.bipush 10, oC (vI 10)), (.newarray .int, oA 1391000010), (.putfield 212, vN, 1, 1391000010, 91, 900012, [(0, 1475)])], 67),
  (1149, [(.aload_n 0, o0), (.sipush 12600, oC (vI 12600)), (.newarray .int, oA 1394012600), (.putfield 215, vN, 1, 1394012600, 94, 900012, [(0, 1478)])], 68),
  (1158, [(.aload_n 0, o0), (.bipush 13, oC (vI 13)), (.newarray .int, oA 1395000013), (.putfield 218, vN, 1, 1395000013, 95, 900012, [(0, 1479)])], 69),
  (1166, [(.return_, o0)], 70)]
def C_M_init : List Nat := [1, 2, 3, 4, 5, 6, 7, 8, 9, 10, 11, 12, 13, 14, 15, 16, 17, 18, 19, 20, 21, 22, 23, 24, 25, 26, 27, 28, 29, 30, 31, 32, 33, 34, 35, 36, 37, 38, 39, 40, 41, 42, 43, 44, 45, 46, 47, 48, 49, 50, 51, 52, 53, 54, 55, 56, 57, 58, 59, 60, 61, 62, 63, 64, 65, 66, 67, 68, 69]
set_option maxRecDepth 100000 in
def B_M_isIn : List Blk := [(0, [(.iload_n 0, o0), (.iload_n 1, oA 1), (.if_icmp .lt 12, oA 1), (.iload_n 0, o0), (.iload_n 2, oA 2), (.if_icmp .gt 7, oA 1), (.iconst 1, oC (vI 1)), (.goto 4, oA 2)], 1),
  (14, [(.iconst 0, oC (vI 0))], 2),
  (15, [(.ireturn, oA 1)], 3)]
def C_M_isIn : List Nat := []
set_option maxRecDepth 100000 in
def B_M_one : List Blk := [(0, [(.iload_n 0, o0), (.ifCond .eq 7, oA 1), (.iconst 1, oC (vI 1)), (.goto 4, oA 2)], 1),
  (8, [(.iconst 0, oC (vI 0))], 2),
  (9, [(.ireturn, o0)], 3)]
def C_M_one : List Nat := []
set_option maxRecDepth 100000 in
def B_M_has : List Blk := [(0, [(.iload_n 0, o0), (.iload_n 1, oA 1), (.ishr, o0), (.iconst 1, oC (vI 1)), (.iand, o0), (.iconst 1, oC (vI 1)), (.if_icmp .ne 7, oA 1), (.iconst 1, oC (vI 1)), (.goto 4, oA 2)], 1),
  (13, [(.iconst 0, oC (vI 0))], 2),
  (14, [(.ireturn, oA 1)], 3)]
def C_M_has : List Nat := []
set_option maxRecDepth 100000 in
def B_M_bits : List Blk := [(0, [(.iconst 0, oC (vI 0)), (.istore_n 1, oA 1), (.iload_n 0, o0), (.istore_n 2, oA 2)], 1),
  (4, [(.iload_n 2, oA 2), (.ifCond .le 16, oA 2), (.iload_n 1, oA 1), (.iload_n 2, oA 2), (.iconst 1, oC (vI 1)), (.iand, o0), (.iadd, o0), (.istore_n 1, oA 1), (.iload_n 2, oA 2), (.iconst 1, oC (vI 1)), (.ishr, o0), (.istore_n 2, oA 2), (.goto (-14), oA 1)], 2),
  (21, [(.iload_n 1, oA 1), (.ireturn, o0)], 3)]
def C_M_bits : List Nat := [1]
set_option maxRecDepth 100000 in
def B_M_isDay : List Blk := [(0, [(.iload_n 0, o0), (.iconst 0, oC (vI 0)), (.bipush 99, oC (vI 99)), (.invokestatic 221, vN, 198, 3, 1, 0, [(0, 1686)]), (.ireturn, oA 1)], 1)]
def C_M_isDay : List Nat := []
set_option maxRecDepth 100000 in
def B_M_isMoment : List Blk := [(0, [(.iload_n 0, o0), (.iconst 0, oC (vI 0)), (.ldc 225, vI 71999, 0, 0, 0, 0, [(0, 1852)]), (.invokestatic 221, vN, 198, 3, 1, 0, [(0, 1686)]), (.ireturn, oA 1)], 1)]
def C_M_isMoment : List Nat := []
set_option maxRecDepth 100000 in
def B_M_isKind : List Blk := [(0, [(.iload_n 0, o0), (.iconst 0, oC (vI 0)), (.iconst 3, oC (vI 3)), (.invokestatic 221, vN, 198, 3, 1, 0, [(0, 1686)]), (.ireturn, oA 1)], 1)]
def C_M_isKind : List Nat := []
set_option maxRecDepth 100000 in
def B_M_begun : List Blk := [(0, [(.iload_n 0, o0), (.ifCond .gt 7, oA 1), (.iconst 0, oC (vI 0)), (.goto 10, oA 2)], 1),
  (8, [(.iload_n 0, o0), (.iload_n 1, oA 1), (.iadd, o0), (.iconst 1, oC (vI 1)), (.isub, o0), (.iload_n 1, oA 1), (.idiv, o0)], 2),
  (15, [(.ireturn, o0)], 3)]
def C_M_begun : List Nat := []
set_option maxRecDepth 100000 in
def B_M_feed : List Blk := [(0, [(.aload_n 0, o0), (.getfield 226, vN, 0, 1303, 3, 900012, [(0, 1387)]), (.bipush 20, oC (vI 20)), (.iadd, o0), (.sipush 900, oC (vI 900)), (.if_icmp .le 5, oA 1), (.iconst (-1), oC (vI (-1))), (.ireturn, o0)], 1),
  (15, [(.aload_n 0, o0), (.iload_n 1, oA 1), (.invokevirtual 229, vN, 207, 2, 0, 900012, [(0, 1678)]), (.aload_n 0, o0), (.iload_n 2, oA 2), (.invokevirtual 229, vN, 207, 2, 0, 900012, [(0, 1678)]), (.aload_n 0, o0), (.iload_n 3, oA 3), (.invokevirtual 229, vN, 207, 2, 0, 900012, [(0, 1678)]), (.aload_n 0, o0), (.iload 4, oA 4), (.invokevirtual 229, vN, 207, 2, 0, 900012, [(0, 1678)]), (.aload_n 0, o0), (.iload 5, oA 5), (.invokevirtual 229, vN, 207, 2, 0, 900012, [(0, 1678)]), (.aload_n 0, o0), (.getfield 226, vN, 0, 1303, 3, 900012, [(0, 1387)]), (.ireturn, o0)], 2)]
def C_M_feed : List Nat := []
set_option maxRecDepth 100000 in
def B_M_four : List Blk := [(0, [(.bipush 24, oC (vI 24)), (.istore_n 2, oA 2)], 1),
  (3, [(.iload_n 2, oA 2), (.ifCond .lt 32, oA 2), (.aload_n 0, o0), (.getfield 57, vN, 1, 1322100900, 22, 900012, [(0, 1406)]), (.aload_n 0, o0), (.getfield 226, vN, 0, 1303, 3, 900012, [(0, 1387)]), (.iload_n 1, oA 1), (.iload_n 2, oA 2), (.ishr, o0), (.i2b, o0), (.bastore, vN, 0, 1, 0, 0, []), (.aload_n 0, o0), (.dup, o0), (.getfield 226, vN, 0, 1303, 3, 900012, [(0, 1387)]), (.iconst 1, oC (vI 1)), (.iadd, o0), (.putfield 226, vN, 0, 1303, 3, 900012, [(0, 1387)]), (.iinc 2 (-8), vI (-8), 2, 0, 0, 0, []), (.goto (-30), oA 1)], 2),
  (36, [(.return_, o0)], 3)]
def C_M_four : List Nat := [1]
set_option maxRecDepth 100000 in
def B_M_blanks : List Blk := [(0, [(.aload_n 0, o0), (.getfield 233, vN, 0, 1305, 5, 900012, [(0, 1389)]), (.aload_n 0, o0), (.getfield 236, vN, 0, 1304, 4, 900012, [(0, 1388)]), (.if_icmp .ge 44, oA 2), (.aload_n 0, o0), (.getfield 61, vN, 1, 1323100900, 23, 900012, [(0, 1407)]), (.aload_n 0, o0), (.getfield 233, vN, 0, 1305, 5, 900012, [(0, 1389)]), (.baload, vN, 0, 1, 0, 0, []), (.bipush 32, oC (vI 32)), (.if_icmp .eq 17, oA 1), (.aload_n 0, o0), (.getfield 61, vN, 1, 1323100900, 23, 900012, [(0, 1407)]), (.aload_n 0, o0), (.getfield 233, vN, 0, 1305, 5, 900012, [(0, 1389)]), (.baload, vN, 0, 1, 0, 0, []), (.bipush 10, oC (vI 10)), (.if_icmp .ne 16, oA 2)], 1),
  (39, [(.aload_n 0, o0), (.dup, o0), (.getfield 233, vN, 0, 1305, 5, 900012, [(0, 1389)]), (.iconst 1, oC (vI 1)), (.iadd, o0), (.putfield 233, vN, 0, 1305, 5, 900012, [(0, 1389)]), (.goto (-49), o0)], 2),
  (52, [(.return_, o0)], 3)]
def C_M_blanks : List Nat := [0]
set_option maxRecDepth 100000 in
def B_M_word : List Blk := [(0, [(.aload_n 0, o0), (.invokevirtual 239, vN, 208, 1, 0, 900012, [(0, 1700)]), (.aload_n 0, o0), (.aload_n 0, o0), (.getfield 233, vN, 0, 1305, 5, 900012, [(0, 1389)]), (.putfield 242, vN, 0, 1324, 24, 900012, [(0, 1408)]), (.lconst 0, oC (vL 0)), (.lstore_n 1, oA 1)], 1),
  (14, [(.aload_n 0, o0), (.getfield 242, vN, 0, 1324, 24, 900012, [(0, 1408)]), (.aload_n 0, o0), (.getfield 236, vN, 0, 1304, 4, 900012, [(0, 1388)]), (.if_icmp .ge 78, oA 4), (.aload_n 0, o0), (.getfield 61, vN, 1, 1323100900, 23, 900012, [(0, 1407)]), (.aload_n 0, o0), (.getfield 242, vN, 0, 1324, 24, 900012, [(0, 1408)]), (.baload, vN, 0, 1, 0, 0, []), (.bipush 97, oC (vI 97)), (.if_icmp .lt 64, oA 4), (.aload_n 0, o0), (.getfield 61, vN, 1, 1323100900, 23, 900012, [(0, 1407)]), (.aload_n 0, o0), (.getfield 242, vN, 0, 1324, 24, 900012, [(0, 1408)]), (.baload, vN, 0, 1, 0, 0, []), (.bipush 122, oC (vI 122)), (.if_icmp .gt 50, oA 4), (.aload_n 0, o0), (.getfield 242, vN, 0, 1324, 24, 900012, [(0, 1408)]), (.aload_n 0, o0), (.getfield 233, vN, 0, 1305, 5, 900012, [(0, 1389)]), (.isub, o0), (.bipush 7, oC (vI 7)), (.if_icmp .ge 21, oA 2), (.lload_n 1, oA 1), (.bipush 8, oC (vI 8)), (.lshl, o0), (.aload_n 0, o0), (.getfield 61, vN, 1, 1323100900, 23, 900012, [(0, 1407)]), (.aload_n 0, o0), (.getfield 242, vN, 0, 1324, 24, 900012, [(0, 1408)]), (.baload, vN, 0, 1, 0, 0, []), (.i2l, o0), (.lor, o0), (.goto 4, oA 3)], 2),
  (85, [(.lconst 0, oC (vL 0))], 3),
  (86, [(.lstore_n 1, oA 1), (.aload_n 0, o0), (.dup, o0), (.getfield 242, vN, 0, 1324, 24, 900012, [(0, 1408)]), (.iconst 1, oC (vI 1)), (.iadd, o0), (.putfield 242, vN, 0, 1324, 24, 900012, [(0, 1408)]), (.goto (-83), oA 1)], 4),
  (100, [(.aload_n 0, o0), (.getfield 242, vN, 0, 1324, 24, 900012, [(0, 1408)]), (.aload_n 0, o0), (.getfield 233, vN, 0, 1305, 5, 900012, [(0, 1389)]), (.isub, o0), (.bipush 7, oC (vI 7)), (.if_icmp .le 7, oA 5), (.lconst 0, oC (vL 0)), (.goto 4, oA 6)], 5),
  (118, [(.lload_n 1, oA 1)], 6),
  (119, [(.lreturn, o0)], 7)]
def C_M_word : List Nat := [1]
set_option maxRecDepth 100000 in
def B_M_takes : List Blk := [(0, [(.aload_n 0, o0), (.invokevirtual 245, vN, 209, 1, 2, 900012, [(0, 1713)]), (.lload_n 1, oA 1), (.lcmp, o0), (.ifCond .eq 5, oA 1), (.iconst 0, oC (vI 0)), (.ireturn, oA 1)], 1),
  (11, [(.aload_n 0, o0), (.aload_n 0, o0), (.getfield 242, vN, 0, 1324, 24, 900012, [(0, 1408)]), (.putfield 233, vN, 0, 1305, 5, 900012, [(0, 1389)]), (.iconst 1, oC (vI 1)), (.ireturn, oA 1)], 2)]
def C_M_takes : List Nat := []
set_option maxRecDepth 100000 in
def B_M_takesSign : List Blk := [(0, [(.aload_n 0, o0), (.invokevirtual 239, vN, 208, 1, 0, 900012, [(0, 1700)]), (.aload_n 0, o0), (.getfield 233, vN, 0, 1305, 5, 900012, [(0, 1389)]), (.aload_n 0, o0), (.getfield 236, vN, 0, 1304, 4, 900012, [(0, 1388)]), (.if_icmp .eq 16, oA 1), (.aload_n 0, o0), (.getfield 61, vN, 1, 1323100900, 23, 900012, [(0, 1407)]), (.aload_n 0, o0), (.getfield 233, vN, 0, 1305, 5, 900012, [(0, 1389)]), (.baload, vN, 0, 1, 0, 0, []), (.iload_n 1, oA 1), (.if_icmp .eq 5, oA 2)], 1),
  (28, [(.iconst 0, oC (vI 0)), (.ireturn, oA 1)], 2),
  (30, [(.aload_n 0, o0), (.dup, o0), (.getfield 233, vN, 0, 1305, 5, 900012, [(0, 1389)]), (.iconst 1, oC (vI 1)), (.iadd, o0), (.putfield 233, vN, 0, 1305, 5, 900012, [(0, 1389)]), (.iconst 1, oC (vI 1)), (.ireturn, oA 1)], 3)]
def C_M_takesSign : List Nat := []
set_option maxRecDepth 100000 in
def B_M_takesNumber : List Blk := [(0, [(.aload_n 0, o0), (.invokevirtual 239, vN, 208, 1, 0, 900012, [(0, 1700)]), (.aload_n 0, o0), (.getfield 233, vN, 0, 1305, 5, 900012, [(0, 1389)]), (.istore_n 3, oA 3), (.aload_n 0, o0), (.iconst 0, oC (vI 0)), (.putfield 249, vN, 0, 1325, 25, 900012, [(0, 1409)])], 1),
  (14, [(.iload_n 3, oA 3), (.aload_n 0, o0), (.getfield 236, vN, 0, 1304, 4, 900012, [(0, 1388)]), (.if_icmp .ge 62, oA 3), (.aload_n 0, o0), (.getfield 61, vN, 1, 1323100900, 23, 900012, [(0, 1407)]), (.iload_n 3, oA 3), (.baload, vN, 0, 1, 0, 0, []), (.bipush 48, oC (vI 48)), (.if_icmp .lt 51, oA 3), (.aload_n 0, o0), (.getfield 61, vN, 1, 1323100900, 23, 900012, [(0, 1407)]), (.iload_n 3, oA 3), (.baload, vN, 0, 1, 0, 0, []), (.bipush 57, oC (vI 57)), (.if_icmp .gt 40, oA 3), (.iload_n 3, oA 3), (.aload_n 0, o0), (.getfield 233, vN, 0, 1305, 5, 900012, [(0, 1389)]), (.isub, o0), (.iconst 3, oC (vI 3)), (.if_icmp .ge 24, oA 2), (.aload_n 0, o0), (.bipush 10, oC (vI 10)), (.aload_n 0, o0), (.getfield 249, vN, 0, 1325, 25, 900012, [(0, 1409)]), (.imul, o0), (.aload_n 0, o0), (.getfield 61, vN, 1, 1323100900, 23, 900012, [(0, 1407)]), (.iload_n 3, oA 3), (.baload, vN, 0, 1, 0, 0, []), (.iadd, o0), (.bipush 48, oC (vI 48)), (.isub, o0), (.putfield 249, vN, 0, 1325, 25, 900012, [(0, 1409)])], 2),
  (75, [(.iinc 3 1, vI 1, 3, 0, 0, 0, []), (.goto (-64), oA 1)], 3),
  (81, [(.iload_n 3, oA 3), (.aload_n 0, o0), (.getfield 233, vN, 0, 1305, 5, 900012, [(0, 1389)]), (.if_icmp .eq 25, oA 4), (.iload_n 3, oA 3), (.aload_n 0, o0), (.getfield 233, vN, 0, 1305, 5, 900012, [(0, 1389)]), (.isub, o0), (.iconst 3, oC (vI 3)), (.if_icmp .gt 15, oA 4), (.aload_n 0, o0), (.getfield 249, vN, 0, 1325, 25, 900012, [(0, 1409)]), (.iload_n 1, oA 1), (.iload_n 2, oA 2), (.invokestatic 221, vN, 198, 3, 1, 0, [(0, 1686)]), (.ifCond .ne 5, oA 5)], 4),
  (111, [(.iconst 0, oC (vI 0)), (.ireturn, oA 1)], 5),
  (113, [(.aload_n 0, o0), (.iload_n 3, oA 3), (.putfield 233, vN, 0, 1305, 5, 900012, [(0, 1389)]), (.iconst 1, oC (vI 1)), (.ireturn, oA 1)], 6)]
def C_M_takesNumber : List Nat := [1]
set_option maxRecDepth 100000 in
def B_M_askedBy : List Blk := [(0, [(.lload_n 0, o0), (.ldc2_w 252, vL 512736126322, 0, 0, 0, 0, [(0, 1769)]), (.lcmp, o0), (.ifCond .ne 7, oA 1), (.iconst 0, oC (vI 0)), (.goto 90, oA 9)], 1),
  (12, [(.lload_n 0, o0), (.ldc2_w 254, vL 1918986606, 0, 0, 0, 0, [(0, 1770)]), (.lcmp, o0), (.ifCond .ne 7, oA 2), (.iconst 1, oC (vI 1)), (.goto 78, oA 9)], 2),
  (24, [(.lload_n 0, o0), (.ldc2_w 256, vL 6578553, 0, 0, 0, 0, [(0, 1771)]), (.lcmp, o0), (.ifCond .ne 7, oA 3), (.iconst 2, oC (vI 2)), (.goto 66, oA 9)], 3),
  (36, [(.lload_n 0, o0), (.ldc2_w 258, vL 2003133803, 0, 0, 0, 0, [(0, 1772)]), (.lcmp, o0), (.ifCond .ne 7, oA 4), (.iconst 3, oC (vI 3)), (.goto 54, oA 9)], 4),
  (48, [(.lload_n 0, o0), (.ldc2_w 260, vL 120299592184933, 0, 0, 0, 0, [(0, 1773)]), (.lcmp, o0), (.ifCond .ne 7, oA 5), (.iconst 4, oC (vI 4)), (.goto 42, oA 9)], 5),
  (60, [(.lload_n 0, o0), (.ldc2_w 262, vL 7304564, 0, 0, 0, 0, [(0, 1774)]), (.lcmp, o0), (.ifCond .ne 7, oA 6), (.iconst 5, oC (vI 5)), (.goto 30, oA 9)], 6),
  (72, [(.lload_n 0, o0), (.ldc2_w 264, vL 1802071652, 0, 0, 0, 0, [(0, 1775)]), (.lcmp, o0), (.ifCond .ne 8, oA 7), (.bipush 6, oC (vI 6)), (.goto 17, oA 9)], 7),
  (85, [(.lload_n 0, o0), (.ldc2_w 266, vL 2003133796, 0, 0, 0, 0, [(0, 1776)]), (.lcmp, o0), (.ifCond .ne 8, oA 8), (.bipush 7, oC (vI 7)), (.goto 4, oA 9)], 8),
  (98, [(.iconst (-1), oC (vI (-1)))], 9),
  (99, [(.ireturn, o0)], 10)]
def C_M_askedBy : List Nat := []
set_option maxRecDepth 100000 in
def B_M_puts : List Blk := [(0, [(.aload_n 0, o0), (.getfield 41, vN, 1, 1317002700, 17, 900012, [(0, 1401)]), (.aload_n 0, o0), (.getfield 268, vN, 0, 1302, 2, 900012, [(0, 1386)]), (.iload_n 1, oA 1), (.iastore, o0), (.aload_n 0, o0), (.getfield 44, vN, 1, 1318002700, 18, 900012, [(0, 1402)]), (.aload_n 0, o0), (.getfield 268, vN, 0, 1302, 2, 900012, [(0, 1386)]), (.iload_n 2, oA 2), (.iastore, o0), (.aload_n 0, o0), (.getfield 47, vN, 1, 1319002700, 19, 900012, [(0, 1403)]), (.aload_n 0, o0), (.getfield 268, vN, 0, 1302, 2, 900012, [(0, 1386)]), (.iload_n 3, oA 3), (.iastore, o0), (.aload_n 0, o0), (.dup, o0), (.getfield 268, vN, 0, 1302, 2, 900012, [(0, 1386)]), (.iconst 1, oC (vI 1)), (.iadd, o0), (.putfield 268, vN, 0, 1302, 2, 900012, [(0, 1386)]), (.return_, o0)], 1)]
def C_M_puts : List Nat := []
set_option maxRecDepth 100000 in
def B_M_opens : List Blk := [(0, [(.aload_n 0, o0), (.getfield 271, vN, 0, 1306, 6, 900012, [(0, 1390)]), (.bipush 8, oC (vI 8)), (.if_icmp .ne 5, oA 1), (.iconst 0, oC (vI 0)), (.ireturn, oA 1)], 1),
  (11, [(.aload_n 0, o0), (.dup, o0), (.getfield 271, vN, 0, 1306, 6, 900012, [(0, 1390)]), (.iconst 1, oC (vI 1)), (.iadd, o0), (.putfield 271, vN, 0, 1306, 6, 900012, [(0, 1390)]), (.iconst 1, oC (vI 1)), (.ireturn, oA 1)], 2)]
def C_M_opens : List Nat := []
set_option maxRecDepth 100000 in
def B_M_any : List Blk := [(0, [(.aload_n 0, o0), (.invokevirtual 274, vN, 217, 1, 1, 900012, [(0, 1745)]), (.ifCond .ne 5, oA 1), (.iconst 0, oC (vI 0)), (.ireturn, oA 1)], 1),
  (9, [(.aload_n 0, o0), (.ldc2_w 278, vL 28530, 0, 0, 0, 0, [(0, 1778)]), (.invokevirtual 280, vN, 210, 2, 1, 900012, [(0, 1709)]), (.ifCond .eq 22, oA 3), (.aload_n 0, o0), (.invokevirtual 274, vN, 217, 1, 1, 900012, [(0, 1745)]), (.ifCond .ne 5, oA 2), (.iconst 0, oC (vI 0)), (.ireturn, oA 1)], 2),
  (28, [(.aload_n 0, o0), (.iconst 3, oC (vI 3)), (.iconst 0, oC (vI 0)), (.iconst 0, oC (vI 0)), (.invokevirtual 284, vN, 214, 4, 0, 900012, [(0, 1758)]), (.goto (-26), oA 1)], 3),
  (38, [(.iconst 1, oC (vI 1)), (.ireturn, oA 1)], 4)]
def C_M_any : List Nat := [1]
set_option maxRecDepth 100000 in
def B_M_all : List Blk := [(0, [(.aload_n 0, o0), (.invokevirtual 288, vN, 218, 1, 1, 900012, [(0, 1749)]), (.ifCond .ne 5, oA 1), (.iconst 0, oC (vI 0)), (.ireturn, oA 1)], 1),
  (9, [(.aload_n 0, o0), (.ldc2_w 291, vL 6385252, 0, 0, 0, 0, [(0, 1777)]), (.invokevirtual 280, vN, 210, 2, 1, 900012, [(0, 1709)]), (.ifCond .eq 22, oA 3), (.aload_n 0, o0), (.invokevirtual 288, vN, 218, 1, 1, 900012, [(0, 1749)]), (.ifCond .ne 5, oA 2), (.iconst 0, oC (vI 0)), (.ireturn, oA 1)], 2),
  (28, [(.aload_n 0, o0), (.iconst 4, oC (vI 4)), (.iconst 0, oC (vI 0)), (.iconst 0, oC (vI 0)), (.invokevirtual 284, vN, 214, 4, 0, 900012, [(0, 1758)]), (.goto (-26), oA 1)], 3),
  (38, [(.iconst 1, oC (vI 1)), (.ireturn, oA 1)], 4)]
def C_M_all : List Nat := [1]
set_option maxRecDepth 100000 in
def B_M_single : List Blk := [(0, [(.aload_n 0, o0), (.invokevirtual 245, vN, 209, 1, 2, 900012, [(0, 1713)]), (.ldc2_w 293, vL 7237492, 0, 0, 0, 0, [(0, 1753)]), (.lcmp, o0), (.ifCond .ne 48, oA 3), (.aload_n 0, o0), (.invokevirtual 295, vN, 215, 1, 1, 900012, [(0, 1754)]), (.ifCond .ne 5, oA 1), (.iconst 0, oC (vI 0)), (.ireturn, oA 1)], 1),
  (20, [(.aload_n 0, o0), (.aload_n 0, o0), (.getfield 242, vN, 0, 1324, 24, 900012, [(0, 1408)]), (.putfield 233, vN, 0, 1305, 5, 900012, [(0, 1389)]), (.aload_n 0, o0), (.invokevirtual 288, vN, 218, 1, 1, 900012, [(0, 1749)]), (.ifCond .ne 5, oA 2), (.iconst 0, oC (vI 0)), (.ireturn, oA 1)], 2),
  (37, [(.aload_n 0, o0), (.dup, o0), (.getfield 271, vN, 0, 1306, 6, 900012, [(0, 1390)]), (.iconst 1, oC (vI 1)), (.isub, o0), (.putfield 271, vN, 0, 1306, 6, 900012, [(0, 1390)]), (.aload_n 0, o0), (.iconst 5, oC (vI 5)), (.iconst 0, oC (vI 0)), (.iconst 0, oC (vI 0)), (.invokevirtual 284, vN, 214, 4, 0, 900012, [(0, 1758)]), (.iconst 1, oC (vI 1)), (.ireturn, oA 1)], 3),
  (56, [(.aload_n 0, o0), (.getfield 233, vN, 0, 1305, 5, 900012, [(0, 1389)]), (.aload_n 0, o0), (.getfield 236, vN, 0, 1304, 4, 900012, [(0, 1388)]), (.if_icmp .ge 66, oA 7), (.aload_n 0, o0), (.getfield 61, vN, 1, 1323100900, 23, 900012, [(0, 1407)]), (.aload_n 0, o0), (.getfield 233, vN, 0, 1305, 5, 900012, [(0, 1389)]), (.baload, vN, 0, 1, 0, 0, []), (.bipush 40, oC (vI 40)), (.if_icmp .ne 52, oA 7), (.aload_n 0, o0), (.invokevirtual 295, vN, 215, 1, 1, 900012, [(0, 1754)]), (.ifCond .ne 5, oA 4), (.iconst 0, oC (vI 0)), (.ireturn, oA 1)], 4),
  (90, [(.aload_n 0, o0), (.dup, o0), (.getfield 233, vN, 0, 1305, 5, 900012, [(0, 1389)]), (.iconst 1, oC (vI 1)), (.iadd, o0), (.putfield 233, vN, 0, 1305, 5, 900012, [(0, 1389)]), (.aload_n 0, o0), (.invokevirtual 298, vN, 216, 1, 1, 900012, [(0, 1741)]), (.ifCond .eq 12, oA 5), (.aload_n 0, o0), (.bipush 41, oC (vI 41)), (.invokevirtual 301, vN, 211, 2, 1, 900012, [(0, 1762)]), (.ifCond .ne 5, oA 6)], 5),
  (116, [(.iconst 0, oC (vI 0)), (.ireturn, oA 1)], 6),
  (118, [(.aload_n 0, o0), (.dup, o0), (.getfield 271, vN, 0, 1306, 6, 900012, [(0, 1390)]), (.iconst 1, oC (vI 1)), (.isub, o0), (.putfield 271, vN, 0, 1306, 6, 900012, [(0, 1390)]), (.iconst 1, oC (vI 1)), (.ireturn, oA 1)], 7),
  (130, [(.aload_n 0, o0), (.invokevirtual 245, vN, 209, 1, 2, 900012, [(0, 1713)]), (.invokestatic 305, vN, 213, 1, 1, 0, [(0, 1766)]), (.istore_n 1, oA 1), (.iload_n 1, oA 1), (.iconst (-1), oC (vI (-1))), (.if_icmp .ne 5, oA 8), (.iconst 0, oC (vI 0)), (.ireturn, oA 1)], 8),
  (145, [(.aload_n 0, o0), (.aload_n 0, o0), (.getfield 242, vN, 0, 1324, 24, 900012, [(0, 1408)]), (.putfield 233, vN, 0, 1305, 5, 900012, [(0, 1389)]), (.aload_n 0, o0), (.bipush 60, oC (vI 60)), (.invokevirtual 301, vN, 211, 2, 1, 900012, [(0, 1762)]), (.ifCond .eq 7, oA 9), (.iconst 0, oC (vI 0)), (.goto 30, oA 12)], 9),
  (166, [(.aload_n 0, o0), (.bipush 62, oC (vI 62)), (.invokevirtual 301, vN, 211, 2, 1, 900012, [(0, 1762)]), (.ifCond .eq 7, oA 10), (.iconst 1, oC (vI 1)), (.goto 17, oA 12)], 10),
  (179, [(.aload_n 0, o0), (.bipush 61, oC (vI 61)), (.invokevirtual 301, vN, 211, 2, 1, 900012, [(0, 1762)]), (.ifCond .eq 7, oA 11), (.iconst 2, oC (vI 2)), (.goto 4, oA 12)], 11),
  (192, [(.iconst (-1), oC (vI (-1)))], 12),
  (193, [(.istore_n 2, oA 2), (.iload_n 2, oA 2), (.iconst (-1), oC (vI (-1))), (.if_icmp .eq 14, oA 13), (.aload_n 0, o0), (.iconst 0, oC (vI 0)), (.sipush 999, oC (vI 999)), (.invokevirtual 309, vN, 212, 3, 1, 900012, [(0, 1721)]), (.ifCond .ne 5, oA 14)], 13),
  (210, [(.iconst 0, oC (vI 0)), (.ireturn, oA 1)], 14),
  (212, [(.aload_n 0, o0), (.iload_n 2, oA 2), (.iload_n 1, oA 1), (.aload_n 0, o0), (.getfield 249, vN, 0, 1325, 25, 900012, [(0, 1409)]), (.invokevirtual 284, vN, 214, 4, 0, 900012, [(0, 1758)]), (.iconst 1, oC (vI 1)), (.ireturn, oA 1)], 15)]
def C_M_single : List Nat := [7, 12]
set_option maxRecDepth 100000 in
def B_M_says : List Blk := [(0, [(.aload_n 0, o0), (.getfield 13, vN, 1, 1308000384, 8, 900012, [(0, 1392)]), (.sipush 320, oC (vI 320)), (.iload_n 1, oA 1), (.iadd, o0), (.iload_n 2, oA 2), (.iastore, o0), (.return_, o0)], 1)]
def C_M_says : List Nat := []
set_option maxRecDepth 100000 in
def B_M_eachTold : List Blk := [(0, [(.aload_n 0, o0), (.ldc2_w 313, vL 1700881256, 0, 0, 0, 0, [(0, 1729)]), (.invokevirtual 280, vN, 210, 2, 1, 900012, [(0, 1709)]), (.ifCond .eq 14, oA 1), (.aload_n 0, o0), (.iconst 1, oC (vI 1)), (.sipush 240, oC (vI 240)), (.invokevirtual 309, vN, 212, 3, 1, 900012, [(0, 1721)]), (.ifCond .ne 5, oA 2)], 1),
  (21, [(.iconst 0, oC (vI 0)), (.ireturn, oA 1)], 2),
  (23, [(.aload_n 0, o0), (.iload_n 1, oA 1), (.aload_n 0, o0), (.getfield 249, vN, 0, 1325, 25, 900012, [(0, 1409)]), (.invokevirtual 315, vN, 219, 3, 0, 900012, [(0, 1730)]), (.iconst 1, oC (vI 1)), (.ireturn, oA 1)], 3)]
def C_M_eachTold : List Nat := []
set_option maxRecDepth 100000 in
def B_M_priceTold : List Blk := [(0, [(.aload_n 0, o0), (.iconst 0, oC (vI 0)), (.iconst 3, oC (vI 3)), (.invokevirtual 309, vN, 212, 3, 1, 900012, [(0, 1721)]), (.ifCond .ne 5, oA 1), (.iconst 0, oC (vI 0)), (.ireturn, oA 1)], 1),
  (11, [(.aload_n 0, o0), (.getfield 249, vN, 0, 1325, 25, 900012, [(0, 1409)]), (.istore_n 1, oA 1), (.aload_n 0, o0), (.iconst 0, oC (vI 0)), (.sipush 999, oC (vI 999)), (.invokevirtual 309, vN, 212, 3, 1, 900012, [(0, 1721)]), (.ifCond .ne 5, oA 2), (.iconst 0, oC (vI 0)), (.ireturn, oA 1)], 2),
  (29, [(.aload_n 0, o0), (.getfield 249, vN, 0, 1325, 25, 900012, [(0, 1409)]), (.istore_n 2, oA 2), (.aload_n 0, o0), (.iconst 4, oC (vI 4)), (.iload_n 1, oA 1), (.iadd, o0), (.invokevirtual 319, vN, 220, 2, 1, 900012, [(0, 1725)]), (.ifCond .ne 5, oA 3), (.iconst 0, oC (vI 0)), (.ireturn, oA 1)], 3),
  (46, [(.aload_n 0, o0), (.iload_n 1, oA 1), (.iload_n 2, oA 2), (.invokevirtual 315, vN, 219, 3, 0, 900012, [(0, 1730)]), (.iconst 1, oC (vI 1)), (.ireturn, oA 1)], 4)]
def C_M_priceTold : List Nat := []
set_option maxRecDepth 100000 in
def B_M_depositTold : List Blk := [(0, [(.aload_n 0, o0), (.iconst 0, oC (vI 0)), (.iconst 3, oC (vI 3)), (.invokevirtual 309, vN, 212, 3, 1, 900012, [(0, 1721)]), (.ifCond .ne 5, oA 1), (.iconst 0, oC (vI 0)), (.ireturn, oA 1)], 1),
  (11, [(.aload_n 0, o0), (.getfield 249, vN, 0, 1325, 25, 900012, [(0, 1409)]), (.istore_n 1, oA 1), (.aload_n 0, o0), (.iconst 0, oC (vI 0)), (.sipush 999, oC (vI 999)), (.invokevirtual 309, vN, 212, 3, 1, 900012, [(0, 1721)]), (.ifCond .ne 5, oA 2), (.iconst 0, oC (vI 0)), (.ireturn, oA 1)], 2),
  (29, [(.aload_n 0, o0), (.bipush 8, oC (vI 8)), (.iload_n 1, oA 1), (.iadd, o0), (.aload_n 0, o0), (.getfield 249, vN, 0, 1325, 25, 900012, [(0, 1409)]), (.invokevirtual 315, vN, 219, 3, 0, 900012, [(0, 1730)]), (.iconst 1, oC (vI 1)), (.ireturn, oA 1)], 3)]
def C_M_depositTold : List Nat := []
set_option maxRecDepth 100000 in
def B_M_lateTold : List Blk := [(0, [(.aload_n 0, o0), (.iconst 0, oC (vI 0)), (.sipush 999, oC (vI 999)), (.invokevirtual 309, vN, 212, 3, 1, 900012, [(0, 1721)]), (.ifCond .ne 5, oA 1), (.iconst 0, oC (vI 0)), (.ireturn, oA 1)], 1),
  (13, [(.aload_n 0, o0), (.bipush 12, oC (vI 12)), (.aload_n 0, o0), (.getfield 249, vN, 0, 1325, 25, 900012, [(0, 1409)]), (.invokevirtual 315, vN, 219, 3, 0, 900012, [(0, 1730)]), (.aload_n 0, o0), (.bipush 13, oC (vI 13)), (.invokevirtual 319, vN, 220, 2, 1, 900012, [(0, 1725)]), (.ifCond .eq 24, oA 2), (.aload_n 0, o0), (.ldc2_w 322, vL 444300616549, 0, 0, 0, 0, [(0, 1789)]), (.invokevirtual 280, vN, 210, 2, 1, 900012, [(0, 1709)]), (.ifCond .eq 14, oA 2), (.aload_n 0, o0), (.iconst 0, oC (vI 0)), (.sipush 240, oC (vI 240)), (.invokevirtual 309, vN, 212, 3, 1, 900012, [(0, 1721)]), (.ifCond .ne 5, oA 3)], 2),
  (53, [(.iconst 0, oC (vI 0)), (.ireturn, oA 1)], 3),
  (55, [(.aload_n 0, o0), (.bipush 14, oC (vI 14)), (.aload_n 0, o0), (.getfield 249, vN, 0, 1325, 25, 900012, [(0, 1409)]), (.invokevirtual 315, vN, 219, 3, 0, 900012, [(0, 1730)]), (.iconst 1, oC (vI 1)), (.ireturn, oA 1)], 4)]
def C_M_lateTold : List Nat := []
set_option maxRecDepth 100000 in
def B_M_rightTold : List Blk := [(0, [(.aload_n 0, o0), (.iconst 0, oC (vI 0)), (.bipush 9, oC (vI 9)), (.invokevirtual 309, vN, 212, 3, 1, 900012, [(0, 1721)]), (.ifCond .ne 5, oA 1), (.iconst 0, oC (vI 0)), (.ireturn, oA 1)], 1),
  (12, [(.aload_n 0, o0), (.getfield 249, vN, 0, 1325, 25, 900012, [(0, 1409)]), (.istore_n 1, oA 1), (.aload_n 0, o0), (.iconst 0, oC (vI 0)), (.iconst 3, oC (vI 3)), (.invokevirtual 309, vN, 212, 3, 1, 900012, [(0, 1721)]), (.ifCond .ne 5, oA 2), (.iconst 0, oC (vI 0)), (.ireturn, oA 1)], 2),
  (28, [(.aload_n 0, o0), (.getfield 249, vN, 0, 1325, 25, 900012, [(0, 1409)]), (.istore_n 2, oA 2), (.aload_n 0, o0), (.iconst 1, oC (vI 1)), (.sipush 240, oC (vI 240)), (.invokevirtual 309, vN, 212, 3, 1, 900012, [(0, 1721)]), (.ifCond .ne 5, oA 3), (.iconst 0, oC (vI 0)), (.ireturn, oA 1)], 3),
  (46, [(.aload_n 0, o0), (.bipush 20, oC (vI 20)), (.iconst 4, oC (vI 4)), (.iload_n 1, oA 1), (.imul, o0), (.iadd, o0), (.iload_n 2, oA 2), (.iadd, o0), (.aload_n 0, o0), (.getfield 249, vN, 0, 1325, 25, 900012, [(0, 1409)]), (.invokevirtual 315, vN, 219, 3, 0, 900012, [(0, 1730)]), (.iconst 1, oC (vI 1)), (.ireturn, oA 1)], 4)]
def C_M_rightTold : List Nat := []
set_option maxRecDepth 100000 in
def B_M_oneTold : List Blk := [(0, [(.aload_n 0, o0), (.iconst 0, oC (vI 0)), (.iload_n 2, oA 2), (.invokevirtual 309, vN, 212, 3, 1, 900012, [(0, 1721)]), (.ifCond .ne 5, oA 1), (.iconst 0, oC (vI 0)), (.ireturn, oA 1)], 1),
  (11, [(.aload_n 0, o0), (.iload_n 1, oA 1), (.aload_n 0, o0), (.getfield 249, vN, 0, 1325, 25, 900012, [(0, 1409)]), (.invokevirtual 315, vN, 219, 3, 0, 900012, [(0, 1730)]), (.iconst 1, oC (vI 1)), (.ireturn, oA 1)], 2)]
def C_M_oneTold : List Nat := []
set_option maxRecDepth 100000 in
def B_M_clauseTold : List Blk := [(0, [(.sipush 200, oC (vI 200)), (.aload_n 0, o0), (.getfield 20, vN, 1, 1310000006, 10, 900012, [(0, 1394)]), (.iconst 5, oC (vI 5)), (.iaload, o0), (.iadd, o0), (.istore_n 2, oA 2), (.aload_n 0, o0), (.getfield 23, vN, 1, 1311000240, 11, 900012, [(0, 1395)]), (.iload_n 2, oA 2), (.iload_n 1, oA 1), (.iastore, o0), (.iload_n 1, oA 1), (.ifCond .ne 64, oA 4), (.aload_n 0, o0), (.iconst 0, oC (vI 0)), (.sipush 719, oC (vI 719)), (.invokevirtual 309, vN, 212, 3, 1, 900012, [(0, 1721)]), (.ifCond .ne 5, oA 1), (.iconst 0, oC (vI 0)), (.ireturn, oA 1)], 1),
  (35, [(.aload_n 0, o0), (.getfield 26, vN, 1, 1312000240, 12, 900012, [(0, 1396)]), (.iload_n 2, oA 2), (.aload_n 0, o0), (.getfield 249, vN, 0, 1325, 25, 900012, [(0, 1409)]), (.iastore, o0), (.aload_n 0, o0), (.ldc2_w 324, vL 29807, 0, 0, 0, 0, [(0, 1739)]), (.invokevirtual 280, vN, 210, 2, 1, 900012, [(0, 1709)]), (.ifCond .eq 19, oA 2), (.aload_n 0, o0), (.aload_n 0, o0), (.getfield 26, vN, 1, 1312000240, 12, 900012, [(0, 1396)]), (.iload_n 2, oA 2), (.iaload, o0), (.sipush 719, oC (vI 719)), (.invokevirtual 309, vN, 212, 3, 1, 900012, [(0, 1721)]), (.ifCond .ne 5, oA 3)], 2),
  (71, [(.iconst 0, oC (vI 0)), (.ireturn, oA 1)], 3),
  (73, [(.aload_n 0, o0), (.getfield 29, vN, 1, 1313000240, 13, 900012, [(0, 1397)]), (.iload_n 2, oA 2), (.aload_n 0, o0), (.getfield 249, vN, 0, 1325, 25, 900012, [(0, 1409)]), (.iastore, o0)], 4),
  (83, [(.aload_n 0, o0), (.getfield 32, vN, 1, 1314000240, 14, 900012, [(0, 1398)]), (.iload_n 2, oA 2), (.iconst 0, oC (vI 0)), (.iastore, o0), (.iload_n 1, oA 1), (.iconst 2, oC (vI 2)), (.if_icmp .eq 25, oA 6), (.aload_n 0, o0), (.iconst 0, oC (vI 0)), (.bipush 100, oC (vI 100)), (.invokevirtual 309, vN, 212, 3, 1, 900012, [(0, 1721)]), (.ifCond .ne 5, oA 5), (.iconst 0, oC (vI 0)), (.ireturn, oA 1)], 5),
  (107, [(.aload_n 0, o0), (.getfield 32, vN, 1, 1314000240, 14, 900012, [(0, 1398)]), (.iload_n 2, oA 2), (.aload_n 0, o0), (.getfield 249, vN, 0, 1325, 25, 900012, [(0, 1409)]), (.iastore, o0)], 6),
  (117, [(.aload_n 0, o0), (.getfield 35, vN, 1, 1315000240, 15, 900012, [(0, 1399)]), (.iload_n 2, oA 2), (.aload_n 0, o0), (.getfield 268, vN, 0, 1302, 2, 900012, [(0, 1386)]), (.iastore, o0), (.iload_n 1, oA 1), (.iconst 2, oC (vI 2)), (.if_icmp .ne 16, oA 7), (.aload_n 0, o0), (.invokevirtual 245, vN, 209, 1, 2, 900012, [(0, 1713)]), (.ldc2_w 326, vL 26982, 0, 0, 0, 0, [(0, 1740)]), (.lcmp, o0), (.ifCond .eq 5, oA 7), (.iconst 0, oC (vI 0)), (.ireturn, oA 1)], 7),
  (145, [(.iload_n 1, oA 1), (.ifCond .eq 22, oA 8), (.aload_n 0, o0), (.ldc2_w 326, vL 26982, 0, 0, 0, 0, [(0, 1740)]), (.invokevirtual 280, vN, 210, 2, 1, 900012, [(0, 1709)]), (.ifCond .eq 12, oA 8), (.aload_n 0, o0), (.invokevirtual 298, vN, 216, 1, 1, 900012, [(0, 1741)]), (.ifCond .ne 5, oA 8), (.iconst 0, oC (vI 0)), (.ireturn, oA 1)], 8),
  (168, [(.aload_n 0, o0), (.getfield 38, vN, 1, 1316000240, 16, 900012, [(0, 1400)]), (.iload_n 2, oA 2), (.aload_n 0, o0), (.getfield 268, vN, 0, 1302, 2, 900012, [(0, 1386)]), (.iastore, o0), (.aload_n 0, o0), (.getfield 20, vN, 1, 1310000006, 10, 900012, [(0, 1394)]), (.iconst 5, oC (vI 5)), (.dup2, o0), (.iaload, o0), (.iconst 1, oC (vI 1)), (.iadd, o0), (.iastore, o0), (.iconst 1, oC (vI 1)), (.ireturn, oA 1)], 9)]
def C_M_clauseTold : List Nat := [4, 7]
set_option maxRecDepth 100000 in
def B_M_rule_0 : List Blk := [(0, [(.aload_n 0, o0), (.iconst 0, oC (vI 0)), (.putfield 271, vN, 0, 1306, 6, 900012, [(0, 1390)]), (.aload_n 0, o0), (.ldc2_w 328, vL 482955846501, 0, 0, 0, 0, [(0, 1708)]), (.invokevirtual 280, vN, 210, 2, 1, 900012, [(0, 1709)]), (.ifCond .eq 8, oA 1), (.aload_n 0, o0), (.invokevirtual 330, vN, 221, 1, 1, 900012, [(0, 1717)]), (.ireturn, oA 1)], 1),
  (20, [(.aload_n 0, o0), (.ldc2_w 333, vL 1651864441, 0, 0, 0, 0, [(0, 1734)]), (.invokevirtual 280, vN, 210, 2, 1, 900012, [(0, 1709)]), (.ifCond .eq 9, oA 2), (.aload_n 0, o0), (.iconst 0, oC (vI 0)), (.invokevirtual 335, vN, 226, 2, 1, 900012, [(0, 1735)]), (.ireturn, oA 1)], 2),
  (36, [(.aload_n 0, o0), (.ldc2_w 338, vL 28259031251642740, 0, 0, 0, 0, [(0, 1779)]), (.invokevirtual 280, vN, 210, 2, 1, 900012, [(0, 1709)]), (.ifCond .eq 8, oA 3), (.aload_n 0, o0), (.invokevirtual 340, vN, 222, 1, 1, 900012, [(0, 1780)]), (.ireturn, oA 1)], 3),
  (51, [(.aload_n 0, o0), (.ldc2_w 343, vL 1818326117, 0, 0, 0, 0, [(0, 1784)]), (.invokevirtual 280, vN, 210, 2, 1, 900012, [(0, 1709)]), (.ifCond .eq 8, oA 4), (.aload_n 0, o0), (.invokevirtual 345, vN, 223, 1, 1, 900012, [(0, 1785)]), (.ireturn, oA 1)], 4),
  (66, [(.aload_n 0, o0), (.ldc2_w 254, vL 1918986606, 0, 0, 0, 0, [(0, 1770)]), (.invokevirtual 280, vN, 210, 2, 1, 900012, [(0, 1709)]), (.ifCond .eq 12, oA 5), (.aload_n 0, o0), (.bipush 15, oC (vI 15)), (.bipush 100, oC (vI 100)), (.invokevirtual 348, vN, 225, 3, 1, 900012, [(0, 1790)]), (.ireturn, oA 1)], 5),
  (85, [(.aload_n 0, o0), (.ldc2_w 351, vL 491394656372, 0, 0, 0, 0, [(0, 1794)]), (.invokevirtual 280, vN, 210, 2, 1, 900012, [(0, 1709)]), (.ifCond .eq 8, oA 6), (.aload_n 0, o0), (.invokevirtual 353, vN, 224, 1, 1, 900012, [(0, 1795)]), (.ireturn, oA 1)], 6),
  (100, [(.aload_n 0, o0), (.ldc2_w 356, vL 27995161227784046, 0, 0, 0, 0, [(0, 1799)]), (.invokevirtual 280, vN, 210, 2, 1, 900012, [(0, 1709)]), (.ifCond .eq 13, oA 7), (.aload_n 0, o0), (.bipush 16, oC (vI 16)), (.sipush 999, oC (vI 999)), (.invokevirtual 348, vN, 225, 3, 1, 900012, [(0, 1790)]), (.ireturn, oA 1)], 7),
  (120, [(.aload_n 0, o0), (.ldc2_w 358, vL 1751216749, 0, 0, 0, 0, [(0, 1800)]), (.invokevirtual 280, vN, 210, 2, 1, 900012, [(0, 1709)]), (.ifCond .eq 9, oA 8), (.aload_n 0, o0), (.iconst 1, oC (vI 1)), (.invokevirtual 335, vN, 226, 2, 1, 900012, [(0, 1735)]), (.ireturn, oA 1)], 8),
  (136, [(.aload_n 0, o0), (.ldc2_w 360, vL 1936225652, 0, 0, 0, 0, [(0, 1801)]), (.invokevirtual 280, vN, 210, 2, 1, 900012, [(0, 1709)]), (.ifCond .eq 15, oA 9), (.aload_n 0, o0), (.iconst 2, oC (vI 2)), (.invokevirtual 335, vN, 226, 2, 1, 900012, [(0, 1735)]), (.ifCond .eq 7, oA 9), (.iconst 1, oC (vI 1)), (.goto 4, oA 10)], 9),
  (158, [(.iconst 0, oC (vI 0))], 10),
  (159, [(.ireturn, oA 1)], 11)]
def C_M_rule_0 : List Nat := []
set_option maxRecDepth 100000 in
def B_M_bare : List Blk := [(0, [(.iconst 0, oC (vI 0)), (.istore_n 2, oA 2)], 1),
  (2, [(.iload_n 2, oA 2), (.bipush 64, oC (vI 64)), (.if_icmp .ge 43, oA 6), (.aload_n 0, o0), (.getfield 13, vN, 1, 1308000384, 8, 900012, [(0, 1392)]), (.bipush 64, oC (vI 64)), (.iload_n 1, oA 1), (.imul, o0), (.iload_n 2, oA 2), (.iadd, o0), (.iload_n 2, oA 2), (.iconst 4, oC (vI 4)), (.if_icmp .lt 9, oA 2), (.iload_n 2, oA 2), (.bipush 8, oC (vI 8)), (.if_icmp .lt 9, oA 3)], 2),
  (29, [(.iload_n 2, oA 2), (.bipush 13, oC (vI 13)), (.if_icmp .ne 8, oA 4)], 3),
  (35, [(.bipush 60, oC (vI 60)), (.goto 4, oA 5)], 4),
  (40, [(.iconst 0, oC (vI 0))], 5),
  (41, [(.iastore, o0), (.iinc 2 1, vI 1, 2, 0, 0, 0, []), (.goto (-43), oA 1)], 6),
  (48, [(.aload_n 0, o0), (.getfield 20, vN, 1, 1310000006, 10, 900012, [(0, 1394)]), (.iload_n 1, oA 1), (.iconst 0, oC (vI 0)), (.iastore, o0), (.return_, o0)], 7)]
def C_M_bare : List Nat := [1]
set_option maxRecDepth 100000 in
def B_M_reads : List Blk := [(0, [(.iconst 0, oC (vI 0)), (.istore_n 2, oA 2)], 1),
  (2, [(.iload_n 2, oA 2), (.iload_n 1, oA 1), (.if_icmp .ge 21, oA 2), (.aload_n 0, o0), (.getfield 61, vN, 1, 1323100900, 23, 900012, [(0, 1407)]), (.iload_n 2, oA 2), (.aload_n 0, o0), (.getfield 57, vN, 1, 1322100900, 22, 900012, [(0, 1406)]), (.iload_n 2, oA 2), (.baload, vN, 0, 1, 0, 0, []), (.bastore, vN, 0, 1, 0, 0, []), (.iinc 2 1, vI 1, 2, 0, 0, 0, []), (.goto (-20), oA 1)], 2),
  (25, [(.aload_n 0, o0), (.iload_n 1, oA 1), (.putfield 236, vN, 0, 1304, 4, 900012, [(0, 1388)]), (.aload_n 0, o0), (.iconst 0, oC (vI 0)), (.putfield 226, vN, 0, 1303, 3, 900012, [(0, 1387)]), (.aload_n 0, o0), (.iconst 0, oC (vI 0)), (.putfield 233, vN, 0, 1305, 5, 900012, [(0, 1389)]), (.aload_n 0, o0), (.iconst 0, oC (vI 0)), (.putfield 362, vN, 0, 1301, 1, 900012, [(0, 1385)]), (.aload_n 0, o0), (.sipush 2250, oC (vI 2250)), (.putfield 268, vN, 0, 1302, 2, 900012, [(0, 1386)]), (.aload_n 0, o0), (.iconst 5, oC (vI 5)), (.invokevirtual 365, vN, 228, 2, 0, 900012, [(0, 1696)]), (.iconst 1, oC (vI 1)), (.istore_n 2, oA 2), (.aload_n 0, o0), (.invokevirtual 239, vN, 208, 1, 0, 900012, [(0, 1700)])], 3),
  (63, [(.iload_n 2, oA 2), (.ifCond .eq 69, oA 7), (.aload_n 0, o0), (.getfield 233, vN, 0, 1305, 5, 900012, [(0, 1389)]), (.aload_n 0, o0), (.getfield 236, vN, 0, 1304, 4, 900012, [(0, 1388)]), (.if_icmp .ge 58, oA 7), (.aload_n 0, o0), (.getfield 362, vN, 0, 1301, 1, 900012, [(0, 1385)]), (.bipush 40, oC (vI 40)), (.if_icmp .ge 23, oA 4), (.aload_n 0, o0), (.invokevirtual 368, vN, 227, 1, 1, 900012, [(0, 1704)]), (.ifCond .eq 16, oA 4), (.aload_n 0, o0), (.bipush 59, oC (vI 59)), (.invokevirtual 301, vN, 211, 2, 1, 900012, [(0, 1762)]), (.ifCond .eq 7, oA 4), (.iconst 1, oC (vI 1)), (.goto 4, oA 5)], 4),
  (107, [(.iconst 0, oC (vI 0))], 5),
  (108, [(.istore_n 2, oA 2), (.iload_n 2, oA 2), (.ifCond .ne 6, oA 6), (.goto (-50), oA 3)], 6),
  (116, [(.aload_n 0, o0), (.dup, o0), (.getfield 362, vN, 0, 1301, 1, 900012, [(0, 1385)]), (.iconst 1, oC (vI 1)), (.iadd, o0), (.putfield 362, vN, 0, 1301, 1, 900012, [(0, 1385)]), (.aload_n 0, o0), (.invokevirtual 239, vN, 208, 1, 0, 900012, [(0, 1700)]), (.goto (-67), oA 3)], 7),
  (133, [(.iload_n 2, oA 2), (.ifCond .ne 7, oA 8), (.aload_n 0, o0), (.invokevirtual 239, vN, 208, 1, 0, 900012, [(0, 1700)])], 8),
  (141, [(.aload_n 0, o0), (.iload_n 2, oA 2), (.ifCond .eq 7, oA 9), (.iconst (-1), oC (vI (-1))), (.goto 7, oA 10)], 9),
  (150, [(.aload_n 0, o0), (.getfield 233, vN, 0, 1305, 5, 900012, [(0, 1389)])], 10),
  (154, [(.putfield 9, vN, 0, 1307, 7, 900012, [(0, 1391)]), (.iload_n 2, oA 2), (.ireturn, oA 1)], 11)]
def C_M_reads : List Nat := [1, 3, 8]
set_option maxRecDepth 100000 in
def B_M_law : List Blk := [(0, [(.iload_n 1, oA 1), (.iconst 0, oC (vI 0)), (.aload_n 0, o0), (.getfield 226, vN, 0, 1303, 3, 900012, [(0, 1387)]), (.invokestatic 221, vN, 198, 3, 1, 0, [(0, 1686)]), (.ifCond .eq 10, oA 1), (.iload_n 2, oA 2), (.invokestatic 371, vN, 202, 1, 1, 0, [(0, 1689)]), (.ifCond .ne 6, oA 2)], 1),
  (19, [(.bipush (-2), oC (vI (-2))), (.ireturn, o0)], 2),
  (22, [(.aload_n 0, o0), (.getfield 374, vN, 0, 1300, 0, 900012, [(0, 1384)]), (.iconst 5, oC (vI 5)), (.if_icmp .ne 6, oA 3), (.bipush (-3), oC (vI (-3))), (.ireturn, o0)], 3),
  (33, [(.aload_n 0, o0), (.iload_n 1, oA 1), (.invokevirtual 377, vN, 229, 2, 1, 900012, [(0, 1692)]), (.ifCond .ne 5, oA 4), (.iconst (-1), oC (vI (-1))), (.ireturn, o0)], 4),
  (43, [(.sipush 450, oC (vI 450)), (.aload_n 0, o0), (.getfield 374, vN, 0, 1300, 0, 900012, [(0, 1384)]), (.iconst 5, oC (vI 5)), (.isub, o0), (.imul, o0), (.istore_n 3, oA 3), (.iconst 0, oC (vI 0)), (.istore 4, oA 4)], 5),
  (57, [(.iload 4, oA 4), (.bipush 64, oC (vI 64)), (.if_icmp .ge 35, oA 6), (.aload_n 0, o0), (.getfield 13, vN, 1, 1308000384, 8, 900012, [(0, 1392)]), (.bipush 64, oC (vI 64)), (.aload_n 0, o0), (.getfield 374, vN, 0, 1300, 0, 900012, [(0, 1384)]), (.imul, o0), (.iload 4, oA 4), (.iadd, o0), (.aload_n 0, o0), (.getfield 13, vN, 1, 1308000384, 8, 900012, [(0, 1392)]), (.sipush 320, oC (vI 320)), (.iload 4, oA 4), (.iadd, o0), (.iaload, o0), (.iastore, o0), (.iinc 4 1, vI 1, 4, 0, 0, 0, []), (.goto (-36), oA 5)], 6),
  (96, [(.aload_n 0, o0), (.getfield 20, vN, 1, 1310000006, 10, 900012, [(0, 1394)]), (.aload_n 0, o0), (.getfield 374, vN, 0, 1300, 0, 900012, [(0, 1384)]), (.aload_n 0, o0), (.getfield 20, vN, 1, 1310000006, 10, 900012, [(0, 1394)]), (.iconst 5, oC (vI 5)), (.iaload, o0), (.iastore, o0), (.iconst 0, oC (vI 0)), (.istore 4, oA 4)], 7),
  (114, [(.iload 4, oA 4), (.aload_n 0, o0), (.getfield 20, vN, 1, 1310000006, 10, 900012, [(0, 1394)]), (.aload_n 0, o0), (.getfield 374, vN, 0, 1300, 0, 900012, [(0, 1384)]), (.iaload, o0), (.if_icmp .ge 117, oA 8), (.sipush 200, oC (vI 200)), (.iload 4, oA 4), (.iadd, o0), (.istore 5, oA 5), (.bipush 40, oC (vI 40)), (.aload_n 0, o0), (.getfield 374, vN, 0, 1300, 0, 900012, [(0, 1384)]), (.imul, o0), (.iload 4, oA 4), (.iadd, o0), (.istore 6, oA 6), (.aload_n 0, o0), (.getfield 23, vN, 1, 1311000240, 11, 900012, [(0, 1395)]), (.iload 6, oA 6), (.aload_n 0, o0), (.getfield 23, vN, 1, 1311000240, 11, 900012, [(0, 1395)]), (.iload 5, oA 5), (.iaload, o0), (.iastore, o0), (.aload_n 0, o0), (.getfield 26, vN, 1, 1312000240, 12, 900012, [(0, 1396)]), (.iload 6, oA 6), (.aload_n 0, o0), (.getfield 26, vN, 1, 1312000240, 12, 900012, [(0, 1396)]), (.iload 5, oA 5), (.iaload, o0), (.iastore, o0), (.aload_n 0, o0), (.getfield 29, vN, 1, 1313000240, 13, 900012, [(0, 1397)]), (.iload 6, oA 6), (.aload_n 0, o0), (.getfield 29, vN, 1, 1313000240, 13, 900012, [(0, 1397)]), (.iload 5, oA 5), (.iaload, o0), (.iastore, o0), (.aload_n 0, o0), (.getfield 32, vN, 1, 1314000240, 14, 900012, [(0, 1398)]), (.iload 6, oA 6), (.aload_n 0, o0), (.getfield 32, vN, 1, 1314000240, 14, 900012, [(0, 1398)]), (.iload 5, oA 5), (.iaload, o0), (.iastore, o0), (.aload_n 0, o0), (.getfield 35, vN, 1, 1315000240, 15, 900012, [(0, 1399)]), (.iload 6, oA 6), (.aload_n 0, o0), (.getfield 35, vN, 1, 1315000240, 15, 900012, [(0, 1399)]), (.iload 5, oA 5), (.iaload, o0), (.iload_n 3, oA 3), (.iadd, o0), (.iastore, o0), (.aload_n 0, o0), (.getfield 38, vN, 1, 1316000240, 16, 900012, [(0, 1400)]), (.iload 6, oA 6), (.aload_n 0, o0), (.getfield 38, vN, 1, 1316000240, 16, 900012, [(0, 1400)]), (.iload 5, oA 5), (.iaload, o0), (.iload_n 3, oA 3), (.iadd, o0), (.iastore, o0), (.iinc 4 1, vI 1, 4, 0, 0, 0, []), (.goto (-125), oA 7)], 8),
  (242, [(.sipush 2250, oC (vI 2250)), (.istore 4, oA 4)], 9),
  (247, [(.iload 4, oA 4), (.aload_n 0, o0), (.getfield 268, vN, 0, 1302, 2, 900012, [(0, 1386)]), (.if_icmp .ge 57, oA 10), (.aload_n 0, o0), (.getfield 41, vN, 1, 1317002700, 17, 900012, [(0, 1401)]), (.iload 4, oA 4), (.iload_n 3, oA 3), (.iadd, o0), (.aload_n 0, o0), (.getfield 41, vN, 1, 1317002700, 17, 900012, [(0, 1401)]), (.iload 4, oA 4), (.iaload, o0), (.iastore, o0), (.aload_n 0, o0), (.getfield 44, vN, 1, 1318002700, 18, 900012, [(0, 1402)]), (.iload 4, oA 4), (.iload_n 3, oA 3), (.iadd, o0), (.aload_n 0, o0), (.getfield 44, vN, 1, 1318002700, 18, 900012, [(0, 1402)]), (.iload 4, oA 4), (.iaload, o0), (.iastore, o0), (.aload_n 0, o0), (.getfield 47, vN, 1, 1319002700, 19, 900012, [(0, 1403)]), (.iload 4, oA 4), (.iload_n 3, oA 3), (.iadd, o0), (.aload_n 0, o0), (.getfield 47, vN, 1, 1319002700, 19, 900012, [(0, 1403)]), (.iload 4, oA 4), (.iaload, o0), (.iastore, o0), (.iinc 4 1, vI 1, 4, 0, 0, 0, []), (.goto (-60), oA 9)], 10),
  (310, [(.aload_n 0, o0), (.getfield 17, vN, 1, 1309000006, 9, 900012, [(0, 1393)]), (.aload_n 0, o0), (.getfield 374, vN, 0, 1300, 0, 900012, [(0, 1384)]), (.iload_n 2, oA 2), (.iastore, o0), (.aload_n 0, o0), (.dup, o0), (.getfield 374, vN, 0, 1300, 0, 900012, [(0, 1384)]), (.iconst 1, oC (vI 1)), (.iadd, o0), (.putfield 374, vN, 0, 1300, 0, 900012, [(0, 1384)]), (.aload_n 0, o0), (.getfield 374, vN, 0, 1300, 0, 900012, [(0, 1384)]), (.iconst 1, oC (vI 1)), (.isub, o0), (.ireturn, o0)], 11)]
def C_M_law : List Nat := [5, 7, 9]
set_option maxRecDepth 100000 in
def B_M_fault : List Blk := [(0, [(.aload_n 0, o0), (.getfield 9, vN, 0, 1307, 7, 900012, [(0, 1391)]), (.ireturn, o0)], 1)]
def C_M_fault : List Nat := []
set_option maxRecDepth 100000 in
def B_M_lawOf : List Blk := [(0, [(.iconst (-1), oC (vI (-1))), (.istore_n 2, oA 2), (.iconst 0, oC (vI 0)), (.istore_n 3, oA 3)], 1),
  (4, [(.iload_n 3, oA 3), (.aload_n 0, o0), (.getfield 374, vN, 0, 1300, 0, 900012, [(0, 1384)]), (.if_icmp .ge 41, oA 4), (.aload_n 0, o0), (.getfield 17, vN, 1, 1309000006, 9, 900012, [(0, 1393)]), (.iload_n 3, oA 3), (.iaload, o0), (.iload_n 1, oA 1), (.if_icmp .gt 25, oA 3), (.iload_n 2, oA 2), (.iconst (-1), oC (vI (-1))), (.if_icmp .eq 18, oA 2), (.aload_n 0, o0), (.getfield 17, vN, 1, 1309000006, 9, 900012, [(0, 1393)]), (.iload_n 3, oA 3), (.iaload, o0), (.aload_n 0, o0), (.getfield 17, vN, 1, 1309000006, 9, 900012, [(0, 1393)]), (.iload_n 2, oA 2), (.iaload, o0), (.if_icmp .lt 5, oA 3)], 2),
  (42, [(.iload_n 3, oA 3), (.istore_n 2, oA 2)], 3),
  (44, [(.iinc 3 1, vI 1, 3, 0, 0, 0, []), (.goto (-43), oA 1)], 4),
  (50, [(.iload_n 2, oA 2), (.ireturn, o0)], 5)]
def C_M_lawOf : List Nat := [1]
set_option maxRecDepth 100000 in
def B_M_said : List Blk := [(0, [(.iload_n 1, oA 1), (.iconst (-1), oC (vI (-1))), (.if_icmp .eq 17, oA 1), (.aload_n 0, o0), (.getfield 13, vN, 1, 1308000384, 8, 900012, [(0, 1392)]), (.bipush 64, oC (vI 64)), (.iload_n 1, oA 1), (.imul, o0), (.iload_n 2, oA 2), (.iadd, o0), (.iaload, o0), (.goto 26, oA 5)], 1),
  (19, [(.iload_n 2, oA 2), (.iconst 4, oC (vI 4)), (.if_icmp .lt 9, oA 2), (.iload_n 2, oA 2), (.bipush 8, oC (vI 8)), (.if_icmp .lt 9, oA 3)], 2),
  (30, [(.iload_n 2, oA 2), (.bipush 13, oC (vI 13)), (.if_icmp .ne 8, oA 4)], 3),
  (36, [(.bipush 60, oC (vI 60)), (.goto 4, oA 5)], 4),
  (41, [(.iconst 0, oC (vI 0))], 5),
  (42, [(.ireturn, o0)], 6)]
def C_M_said : List Nat := []
set_option maxRecDepth 100000 in
def B_M_rule_1 : List Blk := [(0, [(.iload_n 1, oA 1), (.invokestatic 371, vN, 202, 1, 1, 0, [(0, 1689)]), (.ifCond .ne 5, oA 1), (.iconst (-1), oC (vI (-1))), (.ireturn, o0)], 1),
  (9, [(.aload_n 0, o0), (.iload_n 1, oA 1), (.invokevirtual 380, vN, 232, 2, 1, 900012, [(0, 1810)]), (.istore_n 3, oA 3), (.iload_n 2, oA 2), (.ifCond .ne 5, oA 2), (.iload_n 3, oA 3), (.ireturn, o0)], 2),
  (21, [(.iload_n 2, oA 2), (.bipush 10, oC (vI 10)), (.bipush 13, oC (vI 13)), (.invokestatic 221, vN, 198, 3, 1, 0, [(0, 1686)]), (.ifCond .eq 13, oA 3), (.aload_n 0, o0), (.iload_n 3, oA 3), (.iload_n 2, oA 2), (.bipush 10, oC (vI 10)), (.isub, o0), (.invokevirtual 384, vN, 233, 3, 1, 900012, [(0, 1814)]), (.ireturn, o0)], 3),
  (42, [(.iload_n 2, oA 2), (.bipush 20, oC (vI 20)), (.bipush 23, oC (vI 23)), (.invokestatic 221, vN, 198, 3, 1, 0, [(0, 1686)]), (.ifCond .eq 15, oA 4), (.aload_n 0, o0), (.iload_n 3, oA 3), (.iconst 4, oC (vI 4)), (.iload_n 2, oA 2), (.iadd, o0), (.bipush 20, oC (vI 20)), (.isub, o0), (.invokevirtual 384, vN, 233, 3, 1, 900012, [(0, 1814)]), (.ireturn, o0)], 4),
  (65, [(.iload_n 2, oA 2), (.bipush 30, oC (vI 30)), (.bipush 33, oC (vI 33)), (.invokestatic 221, vN, 198, 3, 1, 0, [(0, 1686)]), (.ifCond .eq 16, oA 5), (.aload_n 0, o0), (.iload_n 3, oA 3), (.bipush 8, oC (vI 8)), (.iload_n 2, oA 2), (.iadd, o0), (.bipush 30, oC (vI 30)), (.isub, o0), (.invokevirtual 384, vN, 233, 3, 1, 900012, [(0, 1814)]), (.ireturn, o0)], 5),
  (89, [(.iload_n 2, oA 2), (.bipush 40, oC (vI 40)), (.bipush 44, oC (vI 44)), (.invokestatic 221, vN, 198, 3, 1, 0, [(0, 1686)]), (.ifCond .eq 16, oA 6), (.aload_n 0, o0), (.iload_n 3, oA 3), (.bipush 12, oC (vI 12)), (.iload_n 2, oA 2), (.iadd, o0), (.bipush 40, oC (vI 40)), (.isub, o0), (.invokevirtual 384, vN, 233, 3, 1, 900012, [(0, 1814)]), (.ireturn, o0)], 6),
  (113, [(.iload_n 2, oA 2), (.bipush 100, oC (vI 100)), (.sipush 199, oC (vI 199)), (.invokestatic 221, vN, 198, 3, 1, 0, [(0, 1686)]), (.ifCond .eq 36, oA 7), (.iload_n 2, oA 2), (.bipush 10, oC (vI 10)), (.irem, o0), (.iconst 4, oC (vI 4)), (.if_icmp .ge 28, oA 7), (.aload_n 0, o0), (.iload_n 3, oA 3), (.bipush 20, oC (vI 20)), (.iconst 4, oC (vI 4)), (.iload_n 2, oA 2), (.bipush 100, oC (vI 100)), (.isub, o0), (.bipush 10, oC (vI 10)), (.idiv, o0), (.imul, o0), (.iadd, o0), (.iload_n 2, oA 2), (.bipush 10, oC (vI 10)), (.irem, o0), (.iadd, o0), (.invokevirtual 384, vN, 233, 3, 1, 900012, [(0, 1814)]), (.goto 4, oA 8)], 7),
  (158, [(.iconst (-1), oC (vI (-1)))], 8),
  (159, [(.ireturn, o0)], 9)]
def C_M_rule_1 : List Nat := []
set_option maxRecDepth 100000 in
def B_M_water : List Blk := [(0, [(.iload_n 1, oA 1), (.invokestatic 371, vN, 202, 1, 1, 0, [(0, 1689)]), (.ifCond .eq 13, oA 1), (.iload_n 2, oA 2), (.iconst 0, oC (vI 0)), (.bipush 99, oC (vI 99)), (.invokestatic 221, vN, 198, 3, 1, 0, [(0, 1686)]), (.ifCond .ne 5, oA 2)], 1),
  (17, [(.iconst 0, oC (vI 0)), (.ireturn, oA 1)], 2),
  (19, [(.aload_n 0, o0), (.getfield 64, vN, 1, 1330000100, 30, 900012, [(0, 1414)]), (.iload_n 1, oA 1), (.iload_n 2, oA 2), (.iastore, o0), (.iconst 1, oC (vI 1)), (.ireturn, oA 1)], 3)]
def C_M_water : List Nat := []
set_option maxRecDepth 100000 in
def B_M_rain : List Blk := [(0, [(.iload_n 1, oA 1), (.invokestatic 371, vN, 202, 1, 1, 0, [(0, 1689)]), (.ifCond .eq 34, oA 1), (.iload_n 2, oA 2), (.iconst 0, oC (vI 0)), (.sipush 719, oC (vI 719)), (.invokestatic 221, vN, 198, 3, 1, 0, [(0, 1686)]), (.ifCond .eq 23, oA 1), (.iload_n 3, oA 3), (.iload_n 2, oA 2), (.sipush 719, oC (vI 719)), (.invokestatic 221, vN, 198, 3, 1, 0, [(0, 1686)]), (.ifCond .eq 12, oA 1), (.aload_n 0, o0), (.getfield 388, vN, 0, 1326, 26, 900012, [(0, 1410)]), (.bipush 40, oC (vI 40)), (.if_icmp .ne 5, oA 2)], 1),
  (38, [(.iconst (-1), oC (vI (-1))), (.ireturn, o0)], 2),
  (40, [(.aload_n 0, o0), (.getfield 70, vN, 1, 1332000040, 32, 900012, [(0, 1416)]), (.aload_n 0, o0), (.getfield 388, vN, 0, 1326, 26, 900012, [(0, 1410)]), (.iload_n 1, oA 1), (.iastore, o0), (.aload_n 0, o0), (.getfield 73, vN, 1, 1333000040, 33, 900012, [(0, 1417)]), (.aload_n 0, o0), (.getfield 388, vN, 0, 1326, 26, 900012, [(0, 1410)]), (.iload_n 2, oA 2), (.iastore, o0), (.aload_n 0, o0), (.getfield 76, vN, 1, 1334000040, 34, 900012, [(0, 1418)]), (.aload_n 0, o0), (.getfield 388, vN, 0, 1326, 26, 900012, [(0, 1410)]), (.iload_n 3, oA 3), (.iastore, o0), (.aload_n 0, o0), (.dup, o0), (.getfield 388, vN, 0, 1326, 26, 900012, [(0, 1410)]), (.iconst 1, oC (vI 1)), (.iadd, o0), (.putfield 388, vN, 0, 1326, 26, 900012, [(0, 1410)]), (.aload_n 0, o0), (.getfield 388, vN, 0, 1326, 26, 900012, [(0, 1410)]), (.ireturn, o0)], 3)]
def C_M_rain : List Nat := []
set_option maxRecDepth 100000 in
def B_M_rains : List Blk := [(0, [(.iconst 0, oC (vI 0)), (.istore_n 3, oA 3), (.iconst 0, oC (vI 0)), (.istore 4, oA 4)], 1),
  (5, [(.iload 4, oA 4), (.aload_n 0, o0), (.getfield 388, vN, 0, 1326, 26, 900012, [(0, 1410)]), (.if_icmp .ge 51, oA 5), (.iload_n 3, oA 3), (.ifCond .ne 35, oA 2), (.aload_n 0, o0), (.getfield 70, vN, 1, 1332000040, 32, 900012, [(0, 1416)]), (.iload 4, oA 4), (.iaload, o0), (.iload_n 1, oA 1), (.if_icmp .ne 28, oA 3), (.iload_n 2, oA 2), (.aload_n 0, o0), (.getfield 73, vN, 1, 1333000040, 33, 900012, [(0, 1417)]), (.iload 4, oA 4), (.iaload, o0), (.aload_n 0, o0), (.getfield 76, vN, 1, 1334000040, 34, 900012, [(0, 1418)]), (.iload 4, oA 4), (.iaload, o0), (.invokestatic 221, vN, 198, 3, 1, 0, [(0, 1686)]), (.ifCond .eq 7, oA 3)], 2),
  (50, [(.iconst 1, oC (vI 1)), (.goto 4, oA 4)], 3),
  (54, [(.iconst 0, oC (vI 0))], 4),
  (55, [(.istore_n 3, oA 3), (.iinc 4 1, vI 1, 4, 0, 0, 0, []), (.goto (-54), oA 1)], 5),
  (62, [(.iload_n 3, oA 3), (.ireturn, oA 1)], 6)]
def C_M_rains : List Nat := [1]
set_option maxRecDepth 100000 in
def B_M_weed : List Blk := [(0, [(.iload_n 1, oA 1), (.iconst 0, oC (vI 0)), (.bipush 99, oC (vI 99)), (.invokestatic 221, vN, 198, 3, 1, 0, [(0, 1686)]), (.ifCond .ne 5, oA 1), (.iconst 0, oC (vI 0)), (.ireturn, oA 1)], 1),
  (12, [(.aload_n 0, o0), (.iload_n 1, oA 1), (.putfield 391, vN, 0, 1327, 27, 900012, [(0, 1411)]), (.iconst 1, oC (vI 1)), (.ireturn, oA 1)], 2)]
def C_M_weed : List Nat := []
set_option maxRecDepth 100000 in
def B_M_cut : List Blk := [(0, [(.iload_n 1, oA 1), (.invokestatic 371, vN, 202, 1, 1, 0, [(0, 1689)]), (.ifCond .eq 13, oA 1), (.aload_n 0, o0), (.getfield 67, vN, 1, 1331000100, 31, 900012, [(0, 1415)]), (.iload_n 1, oA 1), (.iaload, o0), (.iconst 1, oC (vI 1)), (.if_icmp .ne 5, oA 2)], 1),
  (17, [(.iconst 0, oC (vI 0)), (.ireturn, oA 1)], 2),
  (19, [(.aload_n 0, o0), (.getfield 67, vN, 1, 1331000100, 31, 900012, [(0, 1415)]), (.iload_n 1, oA 1), (.iconst 1, oC (vI 1)), (.iastore, o0), (.iconst 1, oC (vI 1)), (.ireturn, oA 1)], 3)]
def C_M_cut : List Nat := []
set_option maxRecDepth 100000 in
def B_M_weedOn : List Blk := [(0, [(.iload_n 1, oA 1), (.istore_n 2, oA 2)], 1),
  (2, [(.iload_n 2, oA 2), (.ifCond .le 18, oA 2), (.aload_n 0, o0), (.getfield 67, vN, 1, 1331000100, 31, 900012, [(0, 1415)]), (.iload_n 2, oA 2), (.iaload, o0), (.ifCond .ne 9, oA 2), (.iinc 2 (-1), vI (-1), 2, 0, 0, 0, []), (.goto (-16), oA 1)], 2),
  (21, [(.sipush 999, oC (vI 999)), (.aload_n 0, o0), (.getfield 391, vN, 0, 1327, 27, 900012, [(0, 1411)]), (.iload_n 1, oA 1), (.iload_n 2, oA 2), (.isub, o0), (.imul, o0), (.invokestatic 394, vN, 337, 2, 1, 0, [(0, 1895)]), (.ireturn, o0)], 3)]
def C_M_weedOn : List Nat := [1]
set_option maxRecDepth 100000 in
def B_M_boat : List Blk := [(0, [(.iload_n 1, oA 1), (.invokestatic 399, vN, 204, 1, 1, 0, [(0, 1838)]), (.ifCond .eq 12, oA 1), (.aload_n 0, o0), (.getfield 402, vN, 0, 1335, 35, 900012, [(0, 1419)]), (.bipush 20, oC (vI 20)), (.if_icmp .ne 5, oA 2)], 1),
  (16, [(.iconst (-1), oC (vI (-1))), (.ireturn, o0)], 2),
  (18, [(.aload_n 0, o0), (.getfield 79, vN, 1, 1338000020, 38, 900012, [(0, 1422)]), (.aload_n 0, o0), (.getfield 402, vN, 0, 1335, 35, 900012, [(0, 1419)]), (.iload_n 1, oA 1), (.iastore, o0), (.aload_n 0, o0), (.dup, o0), (.getfield 402, vN, 0, 1335, 35, 900012, [(0, 1419)]), (.iconst 1, oC (vI 1)), (.iadd, o0), (.putfield 402, vN, 0, 1335, 35, 900012, [(0, 1419)]), (.aload_n 0, o0), (.getfield 402, vN, 0, 1335, 35, 900012, [(0, 1419)]), (.iconst 1, oC (vI 1)), (.isub, o0), (.ireturn, o0)], 3)]
def C_M_boat : List Nat := []
set_option maxRecDepth 100000 in
def B_M_isBoat : List Blk := [(0, [(.iload_n 1, oA 1), (.iconst 0, oC (vI 0)), (.aload_n 0, o0), (.getfield 402, vN, 0, 1335, 35, 900012, [(0, 1419)]), (.iconst 1, oC (vI 1)), (.isub, o0), (.invokestatic 221, vN, 198, 3, 1, 0, [(0, 1686)]), (.ireturn, oA 1)], 1)]
def C_M_isBoat : List Nat := []
set_option maxRecDepth 100000 in
def B_M_isHire : List Blk := [(0, [(.iload_n 1, oA 1), (.iconst 0, oC (vI 0)), (.aload_n 0, o0), (.getfield 405, vN, 0, 1336, 36, 900012, [(0, 1420)]), (.iconst 1, oC (vI 1)), (.isub, o0), (.invokestatic 221, vN, 198, 3, 1, 0, [(0, 1686)]), (.ireturn, oA 1)], 1)]
def C_M_isHire : List Nat := []
set_option maxRecDepth 100000 in
def B_M_isTelling : List Blk := [(0, [(.iload_n 1, oA 1), (.iconst 0, oC (vI 0)), (.aload_n 0, o0), (.getfield 408, vN, 0, 1337, 37, 900012, [(0, 1421)]), (.invokestatic 221, vN, 198, 3, 1, 0, [(0, 1686)]), (.ireturn, oA 1)], 1)]
def C_M_isTelling : List Nat := []
set_option maxRecDepth 100000 in
def B_M_knows : List Blk := [(0, [(.aload_n 0, o0), (.iload_n 1, oA 1), (.putfield 411, vN, 0, 1354, 54, 900012, [(0, 1438)]), (.iconst 0, oC (vI 0)), (.istore_n 2, oA 2)], 1),
  (7, [(.iload_n 2, oA 2), (.aload_n 0, o0), (.getfield 405, vN, 0, 1336, 36, 900012, [(0, 1420)]), (.if_icmp .ge 37, oA 2), (.aload_n 0, o0), (.getfield 115, vN, 1, 1350000120, 50, 900012, [(0, 1434)]), (.iload_n 2, oA 2), (.iconst (-1), oC (vI (-1))), (.iastore, o0), (.aload_n 0, o0), (.getfield 118, vN, 1, 1351000120, 51, 900012, [(0, 1435)]), (.iload_n 2, oA 2), (.iconst 0, oC (vI 0)), (.iastore, o0), (.aload_n 0, o0), (.getfield 121, vN, 1, 1352000120, 52, 900012, [(0, 1436)]), (.iload_n 2, oA 2), (.iconst 0, oC (vI 0)), (.iastore, o0), (.aload_n 0, o0), (.getfield 124, vN, 1, 1353000120, 53, 900012, [(0, 1437)]), (.iload_n 2, oA 2), (.iconst 0, oC (vI 0)), (.iastore, o0), (.iinc 2 1, vI 1, 2, 0, 0, 0, []), (.goto (-39), oA 1)], 2),
  (49, [(.iconst 1, oC (vI 1)), (.istore_n 2, oA 2)], 3),
  (51, [(.iload_n 2, oA 2), (.iload_n 1, oA 1), (.if_icmp .gt 94, oA 7), (.aload_n 0, o0), (.getfield 106, vN, 1, 1347000401, 47, 900012, [(0, 1431)]), (.iload_n 2, oA 2), (.iaload, o0), (.istore_n 3, oA 3), (.aload_n 0, o0), (.getfield 103, vN, 1, 1346000401, 46, 900012, [(0, 1430)]), (.iload_n 2, oA 2), (.iaload, o0), (.iconst 1, oC (vI 1)), (.if_icmp .ne 15, oA 4), (.aload_n 0, o0), (.getfield 115, vN, 1, 1350000120, 50, 900012, [(0, 1434)]), (.iload_n 3, oA 3), (.aload_n 0, o0), (.getfield 109, vN, 1, 1348000401, 48, 900012, [(0, 1432)]), (.iload_n 2, oA 2), (.iaload, o0), (.iastore, o0)], 4),
  (85, [(.aload_n 0, o0), (.getfield 103, vN, 1, 1346000401, 46, 900012, [(0, 1430)]), (.iload_n 2, oA 2), (.iaload, o0), (.iconst 2, oC (vI 2)), (.if_icmp .ne 15, oA 5), (.aload_n 0, o0), (.getfield 118, vN, 1, 1351000120, 51, 900012, [(0, 1435)]), (.iload_n 3, oA 3), (.aload_n 0, o0), (.getfield 109, vN, 1, 1348000401, 48, 900012, [(0, 1432)]), (.iload_n 2, oA 2), (.iaload, o0), (.iastore, o0)], 5),
  (107, [(.aload_n 0, o0), (.getfield 103, vN, 1, 1346000401, 46, 900012, [(0, 1430)]), (.iload_n 2, oA 2), (.iaload, o0), (.iconst 3, oC (vI 3)), (.if_icmp .ne 27, oA 6), (.aload_n 0, o0), (.getfield 121, vN, 1, 1352000120, 52, 900012, [(0, 1436)]), (.iload_n 3, oA 3), (.aload_n 0, o0), (.getfield 109, vN, 1, 1348000401, 48, 900012, [(0, 1432)]), (.iload_n 2, oA 2), (.iaload, o0), (.iastore, o0), (.aload_n 0, o0), (.getfield 124, vN, 1, 1353000120, 53, 900012, [(0, 1437)]), (.iload_n 3, oA 3), (.aload_n 0, o0), (.getfield 112, vN, 1, 1349000401, 49, 900012, [(0, 1433)]), (.iload_n 2, oA 2), (.iaload, o0), (.iastore, o0)], 6),
  (141, [(.iinc 2 1, vI 1, 2, 0, 0, 0, []), (.goto (-93), oA 3)], 7),
  (147, [(.return_, o0)], 8)]
def C_M_knows : List Nat := [1, 3, 5]
set_option maxRecDepth 100000 in
def B_M_isKnown : List Blk := [(0, [(.aload_n 0, o0), (.getfield 94, vN, 1, 1343000120, 43, 900012, [(0, 1427)]), (.iload_n 1, oA 1), (.iaload, o0), (.aload_n 0, o0), (.getfield 411, vN, 0, 1354, 54, 900012, [(0, 1438)]), (.if_icmp .gt 7, oA 1), (.iconst 1, oC (vI 1)), (.goto 4, oA 2)], 1),
  (17, [(.iconst 0, oC (vI 0))], 2),
  (18, [(.ireturn, oA 1)], 3)]
def C_M_isKnown : List Nat := []
set_option maxRecDepth 100000 in
def B_M_isBack : List Blk := [(0, [(.aload_n 0, o0), (.iload_n 1, oA 1), (.invokevirtual 414, vN, 246, 2, 1, 900012, [(0, 1873)]), (.ifCond .eq 17, oA 1), (.aload_n 0, o0), (.getfield 115, vN, 1, 1350000120, 50, 900012, [(0, 1434)]), (.iload_n 1, oA 1), (.iaload, o0), (.iconst (-1), oC (vI (-1))), (.if_icmp .eq 7, oA 1), (.iconst 1, oC (vI 1)), (.goto 4, oA 2)], 1),
  (22, [(.iconst 0, oC (vI 0))], 2),
  (23, [(.ireturn, oA 1)], 3)]
def C_M_isBack : List Nat := []
set_option maxRecDepth 100000 in
def B_M_isOut : List Blk := [(0, [(.aload_n 0, o0), (.iload_n 1, oA 1), (.invokevirtual 414, vN, 246, 2, 1, 900012, [(0, 1873)]), (.ifCond .eq 37, oA 2), (.aload_n 0, o0), (.getfield 88, vN, 1, 1341000120, 41, 900012, [(0, 1425)]), (.iload_n 1, oA 1), (.iaload, o0), (.iload_n 2, oA 2), (.if_icmp .gt 27, oA 2), (.aload_n 0, o0), (.getfield 115, vN, 1, 1350000120, 50, 900012, [(0, 1434)]), (.iload_n 1, oA 1), (.iaload, o0), (.iconst (-1), oC (vI (-1))), (.if_icmp .eq 13, oA 1), (.aload_n 0, o0), (.getfield 115, vN, 1, 1350000120, 50, 900012, [(0, 1434)]), (.iload_n 1, oA 1), (.iaload, o0), (.iload_n 2, oA 2), (.if_icmp .le 7, oA 2)], 1),
  (38, [(.iconst 1, oC (vI 1)), (.goto 4, oA 3)], 2),
  (42, [(.iconst 0, oC (vI 0))], 3),
  (43, [(.ireturn, oA 1)], 4)]
def C_M_isOut : List Nat := []
set_option maxRecDepth 100000 in
def B_M_outSet : List Blk := [(0, [(.iconst 0, oC (vI 0)), (.istore_n 2, oA 2), (.iconst 0, oC (vI 0)), (.istore_n 3, oA 3)], 1),
  (4, [(.iload_n 3, oA 3), (.aload_n 0, o0), (.getfield 405, vN, 0, 1336, 36, 900012, [(0, 1420)]), (.if_icmp .ge 29, oA 3), (.aload_n 0, o0), (.iload_n 3, oA 3), (.iload_n 1, oA 1), (.invokevirtual 417, vN, 248, 3, 1, 900012, [(0, 1869)]), (.ifCond .eq 14, oA 2), (.iload_n 2, oA 2), (.iconst 1, oC (vI 1)), (.aload_n 0, o0), (.getfield 82, vN, 1, 1339000120, 39, 900012, [(0, 1423)]), (.iload_n 3, oA 3), (.iaload, o0), (.ishl, o0), (.ior, o0), (.istore_n 2, oA 2)], 2),
  (32, [(.iinc 3 1, vI 1, 3, 0, 0, 0, []), (.goto (-31), oA 1)], 3),
  (38, [(.iload_n 2, oA 2), (.ireturn, o0)], 4)]
def C_M_outSet : List Nat := [1]
set_option maxRecDepth 100000 in
def B_M_asks : List Blk := [(0, [(.iload_n 1, oA 1), (.sipush 720, oC (vI 720)), (.idiv, o0), (.istore 4, oA 4), (.aload_n 0, o0), (.getfield 50, vN, 1, 1320000008, 20, 900012, [(0, 1404)]), (.iconst 0, oC (vI 0)), (.aload_n 0, o0), (.getfield 64, vN, 1, 1330000100, 30, 900012, [(0, 1414)]), (.iload 4, oA 4), (.iaload, o0), (.iastore, o0), (.aload_n 0, o0), (.getfield 50, vN, 1, 1320000008, 20, 900012, [(0, 1404)]), (.iconst 1, oC (vI 1)), (.aload_n 0, o0), (.iload 4, oA 4), (.iload_n 1, oA 1), (.sipush 720, oC (vI 720)), (.irem, o0), (.invokevirtual 420, vN, 237, 3, 1, 900012, [(0, 1884)]), (.invokestatic 423, vN, 199, 1, 1, 0, [(0, 1888)]), (.iastore, o0), (.aload_n 0, o0), (.getfield 50, vN, 1, 1320000008, 20, 900012, [(0, 1404)]), (.iconst 2, oC (vI 2)), (.iload 4, oA 4), (.iastore, o0), (.aload_n 0, o0), (.getfield 50, vN, 1, 1320000008, 20, 900012, [(0, 1404)]), (.iconst 3, oC (vI 3)), (.iload 4, oA 4), (.bipush 7, oC (vI 7)), (.irem, o0), (.iastore, o0), (.aload_n 0, o0), (.getfield 50, vN, 1, 1320000008, 20, 900012, [(0, 1404)]), (.iconst 4, oC (vI 4)), (.iload_n 1, oA 1), (.sipush 720, oC (vI 720)), (.irem, o0), (.iastore, o0), (.aload_n 0, o0), (.getfield 50, vN, 1, 1320000008, 20, 900012, [(0, 1404)]), (.iconst 5, oC (vI 5)), (.iload_n 3, oA 3), (.iastore, o0), (.aload_n 0, o0), (.getfield 50, vN, 1, 1320000008, 20, 900012, [(0, 1404)]), (.bipush 6, oC (vI 6)), (.iload_n 2, oA 2), (.iastore, o0), (.aload_n 0, o0), (.getfield 50, vN, 1, 1320000008, 20, 900012, [(0, 1404)]), (.bipush 7, oC (vI 7)), (.aload_n 0, o0), (.iload 4, oA 4), (.invokevirtual 427, vN, 240, 2, 1, 900012, [(0, 1891)]), (.iastore, o0), (.return_, o0)], 1)]
def C_M_asks : List Nat := []
set_option maxRecDepth 100000 in
def B_M_isTrue : List Blk := [(0, [(.iconst 0, oC (vI 0)), (.istore_n 2, oA 2), (.aload_n 0, o0), (.getfield 35, vN, 1, 1315000240, 15, 900012, [(0, 1399)]), (.iload_n 1, oA 1), (.iaload, o0), (.istore_n 3, oA 3)], 1),
  (9, [(.iload_n 3, oA 3), (.aload_n 0, o0), (.getfield 38, vN, 1, 1316000240, 16, 900012, [(0, 1400)]), (.iload_n 1, oA 1), (.iaload, o0), (.if_icmp .ge 228, oA 18), (.aload_n 0, o0), (.getfield 41, vN, 1, 1317002700, 17, 900012, [(0, 1401)]), (.iload_n 3, oA 3), (.iaload, o0), (.iconst 2, oC (vI 2)), (.if_icmp .gt 101, oA 8), (.aload_n 0, o0), (.getfield 50, vN, 1, 1320000008, 20, 900012, [(0, 1404)]), (.aload_n 0, o0), (.getfield 44, vN, 1, 1318002700, 18, 900012, [(0, 1402)]), (.iload_n 3, oA 3), (.iaload, o0), (.iaload, o0), (.istore 4, oA 4), (.aload_n 0, o0), (.getfield 53, vN, 1, 1321200064, 21, 900012, [(0, 1405)]), (.iload_n 2, oA 2), (.aload_n 0, o0), (.getfield 41, vN, 1, 1317002700, 17, 900012, [(0, 1401)]), (.iload_n 3, oA 3), (.iaload, o0), (.ifCond .ne 22, oA 3), (.iload 4, oA 4), (.aload_n 0, o0), (.getfield 47, vN, 1, 1319002700, 19, 900012, [(0, 1403)]), (.iload_n 3, oA 3), (.iaload, o0), (.if_icmp .ge 7, oA 2), (.iconst 1, oC (vI 1)), (.goto 52, oA 7)], 2),
  (71, [(.iconst 0, oC (vI 0)), (.goto 48, oA 7)], 3),
  (75, [(.aload_n 0, o0), (.getfield 41, vN, 1, 1317002700, 17, 900012, [(0, 1401)]), (.iload_n 3, oA 3), (.iaload, o0), (.iconst 1, oC (vI 1)), (.if_icmp .ne 22, oA 5), (.iload 4, oA 4), (.aload_n 0, o0), (.getfield 47, vN, 1, 1319002700, 19, 900012, [(0, 1403)]), (.iload_n 3, oA 3), (.iaload, o0), (.if_icmp .le 7, oA 4), (.iconst 1, oC (vI 1)), (.goto 23, oA 7)], 4),
  (100, [(.iconst 0, oC (vI 0)), (.goto 19, oA 7)], 5),
  (104, [(.iload 4, oA 4), (.aload_n 0, o0), (.getfield 47, vN, 1, 1319002700, 19, 900012, [(0, 1403)]), (.iload_n 3, oA 3), (.iaload, o0), (.if_icmp .ne 7, oA 6), (.iconst 1, oC (vI 1)), (.goto 4, oA 7)], 6),
  (119, [(.iconst 0, oC (vI 0))], 7),
  (120, [(.bastore, vN, 0, 2, 0, 0, []), (.iinc 2 1, vI 1, 2, 0, 0, 0, []), (.goto 114, oA 17)], 8),
  (127, [(.aload_n 0, o0), (.getfield 41, vN, 1, 1317002700, 17, 900012, [(0, 1401)]), (.iload_n 3, oA 3), (.iaload, o0), (.iconst 5, oC (vI 5)), (.if_icmp .ne 30, oA 11), (.aload_n 0, o0), (.getfield 53, vN, 1, 1321200064, 21, 900012, [(0, 1405)]), (.iload_n 2, oA 2), (.iconst 1, oC (vI 1)), (.isub, o0), (.aload_n 0, o0), (.getfield 53, vN, 1, 1321200064, 21, 900012, [(0, 1405)]), (.iload_n 2, oA 2), (.iconst 1, oC (vI 1)), (.isub, o0), (.baload, vN, 0, 2, 0, 0, []), (.ifCond .ne 7, oA 9), (.iconst 1, oC (vI 1)), (.goto 4, oA 10)], 9),
  (159, [(.iconst 0, oC (vI 0))], 10),
  (160, [(.bastore, vN, 0, 2, 0, 0, []), (.goto 77, oA 17)], 11),
  (164, [(.iinc 2 (-1), vI (-1), 2, 0, 0, 0, []), (.aload_n 0, o0), (.getfield 53, vN, 1, 1321200064, 21, 900012, [(0, 1405)]), (.iload_n 2, oA 2), (.iconst 1, oC (vI 1)), (.isub, o0), (.aload_n 0, o0), (.getfield 41, vN, 1, 1317002700, 17, 900012, [(0, 1401)]), (.iload_n 3, oA 3), (.iaload, o0), (.iconst 3, oC (vI 3)), (.if_icmp .ne 31, oA 14), (.aload_n 0, o0), (.getfield 53, vN, 1, 1321200064, 21, 900012, [(0, 1405)]), (.iload_n 2, oA 2), (.iconst 1, oC (vI 1)), (.isub, o0), (.baload, vN, 0, 2, 0, 0, []), (.ifCond .ne 12, oA 12), (.aload_n 0, o0), (.getfield 53, vN, 1, 1321200064, 21, 900012, [(0, 1405)]), (.iload_n 2, oA 2), (.baload, vN, 0, 2, 0, 0, []), (.ifCond .eq 7, oA 13)], 12),
  (204, [(.iconst 1, oC (vI 1)), (.goto 32, oA 16)], 13),
  (208, [(.iconst 0, oC (vI 0)), (.goto 28, oA 16)], 14),
  (212, [(.aload_n 0, o0), (.getfield 53, vN, 1, 1321200064, 21, 900012, [(0, 1405)]), (.iload_n 2, oA 2), (.iconst 1, oC (vI 1)), (.isub, o0), (.baload, vN, 0, 2, 0, 0, []), (.ifCond .eq 16, oA 15), (.aload_n 0, o0), (.getfield 53, vN, 1, 1321200064, 21, 900012, [(0, 1405)]), (.iload_n 2, oA 2), (.baload, vN, 0, 2, 0, 0, []), (.ifCond .eq 7, oA 15), (.iconst 1, oC (vI 1)), (.goto 4, oA 16)], 15),
  (236, [(.iconst 0, oC (vI 0))], 16),
  (237, [(.bastore, vN, 0, 2, 0, 0, [])], 17),
  (238, [(.iinc 3 1, vI 1, 3, 0, 0, 0, []), (.goto (-232), oA 1)], 18),
  (244, [(.aload_n 0, o0), (.getfield 35, vN, 1, 1315000240, 15, 900012, [(0, 1399)]), (.iload_n 1, oA 1), (.iaload, o0), (.aload_n 0, o0), (.getfield 38, vN, 1, 1316000240, 16, 900012, [(0, 1400)]), (.iload_n 1, oA 1), (.iaload, o0), (.if_icmp .eq 12, oA 19), (.aload_n 0, o0), (.getfield 53, vN, 1, 1321200064, 21, 900012, [(0, 1405)]), (.iconst 0, oC (vI 0)), (.baload, vN, 0, 2, 0, 0, []), (.ifCond .eq 7, oA 20)], 19),
  (268, [(.iconst 1, oC (vI 1)), (.goto 4, oA 21)], 20),
  (272, [(.iconst 0, oC (vI 0))], 21),
  (273, [(.ireturn, oA 1)], 22)]
def C_M_isTrue : List Nat := [1, 17]
set_option maxRecDepth 100000 in
def B_M_isShut : List Blk := [(0, [(.aload_n 0, o0), (.iload_n 2, oA 2), (.sipush 720, oC (vI 720)), (.idiv, o0), (.invokevirtual 380, vN, 232, 2, 1, 900012, [(0, 1810)]), (.istore_n 3, oA 3), (.iload_n 3, oA 3), (.iconst (-1), oC (vI (-1))), (.if_icmp .ne 5, oA 1), (.iconst 0, oC (vI 0)), (.ireturn, oA 1)], 1),
  (17, [(.aload_n 0, o0), (.iload_n 2, oA 2), (.aload_n 0, o0), (.getfield 79, vN, 1, 1338000020, 38, 900012, [(0, 1422)]), (.iload_n 1, oA 1), (.iaload, o0), (.aload_n 0, o0), (.iload_n 2, oA 2), (.invokevirtual 430, vN, 249, 2, 1, 900012, [(0, 1865)]), (.invokestatic 433, vN, 201, 1, 1, 0, [(0, 1877)]), (.invokevirtual 436, vN, 250, 4, 0, 900012, [(0, 1880)]), (.iconst 0, oC (vI 0)), (.istore 4, oA 4), (.bipush 40, oC (vI 40)), (.iload_n 3, oA 3), (.imul, o0), (.istore 5, oA 5)], 2),
  (45, [(.iload 5, oA 5), (.bipush 40, oC (vI 40)), (.iload_n 3, oA 3), (.imul, o0), (.aload_n 0, o0), (.getfield 20, vN, 1, 1310000006, 10, 900012, [(0, 1394)]), (.iload_n 3, oA 3), (.iaload, o0), (.iadd, o0), (.if_icmp .ge 41, oA 6), (.iload 4, oA 4), (.ifCond .ne 23, oA 3), (.aload_n 0, o0), (.getfield 23, vN, 1, 1311000240, 11, 900012, [(0, 1395)]), (.iload 5, oA 5), (.iaload, o0), (.iconst 2, oC (vI 2)), (.if_icmp .ne 16, oA 4), (.aload_n 0, o0), (.iload 5, oA 5), (.invokevirtual 439, vN, 251, 2, 1, 900012, [(0, 1896)]), (.ifCond .eq 7, oA 4)], 3),
  (86, [(.iconst 1, oC (vI 1)), (.goto 4, oA 5)], 4),
  (90, [(.iconst 0, oC (vI 0))], 5),
  (91, [(.istore 4, oA 4), (.iinc 5 1, vI 1, 5, 0, 0, 0, []), (.goto (-51), oA 2)], 6),
  (99, [(.iload 4, oA 4), (.ireturn, oA 1)], 7)]
def C_M_isShut : List Nat := [2]
set_option maxRecDepth 100000 in
def B_M_mayGo : List Blk := [(0, [(.aload_n 0, o0), (.aload_n 0, o0), (.getfield 408, vN, 0, 1337, 37, 900012, [(0, 1421)]), (.invokevirtual 442, vN, 245, 2, 0, 900012, [(0, 1857)]), (.iconst 0, oC (vI 0)), (.istore_n 3, oA 3)], 1),
  (10, [(.iload_n 3, oA 3), (.aload_n 0, o0), (.getfield 405, vN, 0, 1336, 36, 900012, [(0, 1420)]), (.if_icmp .ge 41, oA 4), (.aload_n 0, o0), (.getfield 82, vN, 1, 1339000120, 39, 900012, [(0, 1423)]), (.iload_n 3, oA 3), (.iaload, o0), (.iload_n 1, oA 1), (.if_icmp .ne 25, oA 3), (.aload_n 0, o0), (.getfield 115, vN, 1, 1350000120, 50, 900012, [(0, 1434)]), (.iload_n 3, oA 3), (.iaload, o0), (.iconst (-1), oC (vI (-1))), (.if_icmp .eq 13, oA 2), (.aload_n 0, o0), (.getfield 115, vN, 1, 1350000120, 50, 900012, [(0, 1434)]), (.iload_n 3, oA 3), (.iaload, o0), (.iload_n 2, oA 2), (.if_icmp .le 5, oA 3)], 2),
  (48, [(.iconst 0, oC (vI 0)), (.ireturn, oA 1)], 3),
  (50, [(.iinc 3 1, vI 1, 3, 0, 0, 0, []), (.goto (-43), oA 1)], 4),
  (56, [(.aload_n 0, o0), (.iload_n 1, oA 1), (.iload_n 2, oA 2), (.invokevirtual 445, vN, 252, 3, 1, 900012, [(0, 1861)]), (.ifCond .ne 7, oA 5), (.iconst 1, oC (vI 1)), (.goto 4, oA 6)], 5),
  (69, [(.iconst 0, oC (vI 0))], 6),
  (70, [(.ireturn, oA 1)], 7)]
def C_M_mayGo : List Nat := [1]
set_option maxRecDepth 100000 in
def B_M_free : List Blk := [(0, [(.aload_n 0, o0), (.iload_n 1, oA 1), (.invokevirtual 448, vN, 242, 2, 1, 900012, [(0, 1845)]), (.ifCond .eq 22, oA 1), (.iload_n 2, oA 2), (.invokestatic 451, vN, 203, 1, 1, 0, [(0, 1849)]), (.ifCond .eq 15, oA 1), (.aload_n 0, o0), (.iload_n 1, oA 1), (.iload_n 2, oA 2), (.invokevirtual 454, vN, 253, 3, 1, 900012, [(0, 1853)]), (.invokestatic 423, vN, 199, 1, 1, 0, [(0, 1888)]), (.goto 4, oA 2)], 1),
  (27, [(.iconst (-1), oC (vI (-1)))], 2),
  (28, [(.ireturn, o0)], 3)]
def C_M_free : List Nat := []
set_option maxRecDepth 100000 in
def B_M_tells : List Blk := [(0, [(.aload_n 0, o0), (.dup, o0), (.getfield 408, vN, 0, 1337, 37, 900012, [(0, 1421)]), (.iconst 1, oC (vI 1)), (.iadd, o0), (.putfield 408, vN, 0, 1337, 37, 900012, [(0, 1421)]), (.aload_n 0, o0), (.getfield 103, vN, 1, 1346000401, 46, 900012, [(0, 1430)]), (.aload_n 0, o0), (.getfield 408, vN, 0, 1337, 37, 900012, [(0, 1421)]), (.iload_n 1, oA 1), (.iastore, o0), (.aload_n 0, o0), (.getfield 106, vN, 1, 1347000401, 47, 900012, [(0, 1431)]), (.aload_n 0, o0), (.getfield 408, vN, 0, 1337, 37, 900012, [(0, 1421)]), (.iload_n 2, oA 2), (.iastore, o0), (.aload_n 0, o0), (.getfield 109, vN, 1, 1348000401, 48, 900012, [(0, 1432)]), (.aload_n 0, o0), (.getfield 408, vN, 0, 1337, 37, 900012, [(0, 1421)]), (.iload_n 3, oA 3), (.iastore, o0), (.aload_n 0, o0), (.getfield 112, vN, 1, 1349000401, 49, 900012, [(0, 1433)]), (.aload_n 0, o0), (.getfield 408, vN, 0, 1337, 37, 900012, [(0, 1421)]), (.iload 4, oA 4), (.iastore, o0), (.aload_n 0, o0), (.getfield 408, vN, 0, 1337, 37, 900012, [(0, 1421)]), (.ireturn, o0)], 1)]
def C_M_tells : List Nat := []
set_option maxRecDepth 100000 in
def B_M_out : List Blk := [(0, [(.aload_n 0, o0), (.iload_n 1, oA 1), (.invokevirtual 448, vN, 242, 2, 1, 900012, [(0, 1845)]), (.ifCond .eq 66, oA 1), (.iload_n 2, oA 2), (.iconst 0, oC (vI 0)), (.bipush 9, oC (vI 9)), (.invokestatic 221, vN, 198, 3, 1, 0, [(0, 1686)]), (.ifCond .eq 56, oA 1), (.iload_n 3, oA 3), (.invokestatic 451, vN, 203, 1, 1, 0, [(0, 1849)]), (.ifCond .eq 49, oA 1), (.iload 4, oA 4), (.iconst 1, oC (vI 1)), (.sipush 720, oC (vI 720)), (.iload_n 3, oA 3), (.sipush 720, oC (vI 720)), (.irem, o0), (.isub, o0), (.invokestatic 221, vN, 198, 3, 1, 0, [(0, 1686)]), (.ifCond .eq 31, oA 1), (.aload_n 0, o0), (.getfield 405, vN, 0, 1336, 36, 900012, [(0, 1420)]), (.bipush 120, oC (vI 120)), (.if_icmp .eq 22, oA 1), (.aload_n 0, o0), (.getfield 408, vN, 0, 1337, 37, 900012, [(0, 1421)]), (.sipush 400, oC (vI 400)), (.if_icmp .eq 12, oA 1), (.aload_n 0, o0), (.iload_n 1, oA 1), (.iload_n 3, oA 3), (.invokevirtual 454, vN, 253, 3, 1, 900012, [(0, 1853)]), (.ifCond .ne 5, oA 2)], 1),
  (71, [(.iconst (-1), oC (vI (-1))), (.ireturn, o0)], 2),
  (73, [(.aload_n 0, o0), (.getfield 82, vN, 1, 1339000120, 39, 900012, [(0, 1423)]), (.aload_n 0, o0), (.getfield 405, vN, 0, 1336, 36, 900012, [(0, 1420)]), (.iload_n 1, oA 1), (.iastore, o0), (.aload_n 0, o0), (.getfield 85, vN, 1, 1340000120, 40, 900012, [(0, 1424)]), (.aload_n 0, o0), (.getfield 405, vN, 0, 1336, 36, 900012, [(0, 1420)]), (.iload_n 2, oA 2), (.iastore, o0), (.aload_n 0, o0), (.getfield 88, vN, 1, 1341000120, 41, 900012, [(0, 1425)]), (.aload_n 0, o0), (.getfield 405, vN, 0, 1336, 36, 900012, [(0, 1420)]), (.iload_n 3, oA 3), (.iastore, o0), (.aload_n 0, o0), (.getfield 91, vN, 1, 1342000120, 42, 900012, [(0, 1426)]), (.aload_n 0, o0), (.getfield 405, vN, 0, 1336, 36, 900012, [(0, 1420)]), (.iload 4, oA 4), (.iastore, o0), (.aload_n 0, o0), (.getfield 97, vN, 1, 1344000120, 44, 900012, [(0, 1428)]), (.aload_n 0, o0), (.getfield 405, vN, 0, 1336, 36, 900012, [(0, 1420)]), (.iconst 0, oC (vI 0)), (.iastore, o0), (.aload_n 0, o0), (.getfield 100, vN, 1, 1345000120, 45, 900012, [(0, 1429)]), (.aload_n 0, o0), (.getfield 405, vN, 0, 1336, 36, 900012, [(0, 1420)]), (.iconst 0, oC (vI 0)), (.iastore, o0), (.aload_n 0, o0), (.getfield 94, vN, 1, 1343000120, 43, 900012, [(0, 1427)]), (.aload_n 0, o0), (.getfield 405, vN, 0, 1336, 36, 900012, [(0, 1420)]), (.aload_n 0, o0), (.iconst 0, oC (vI 0)), (.aload_n 0, o0), (.getfield 405, vN, 0, 1336, 36, 900012, [(0, 1420)]), (.iconst 0, oC (vI 0)), (.iconst 0, oC (vI 0)), (.invokevirtual 457, vN, 255, 5, 1, 900012, [(0, 1904)]), (.iastore, o0), (.aload_n 0, o0), (.dup, o0), (.getfield 405, vN, 0, 1336, 36, 900012, [(0, 1420)]), (.iconst 1, oC (vI 1)), (.iadd, o0), (.putfield 405, vN, 0, 1336, 36, 900012, [(0, 1420)]), (.aload_n 0, o0), (.getfield 405, vN, 0, 1336, 36, 900012, [(0, 1420)]), (.iconst 1, oC (vI 1)), (.isub, o0), (.ireturn, o0)], 3)]
def C_M_out : List Nat := []
set_option maxRecDepth 100000 in
def B_M_mayBe : List Blk := [(0, [(.aload_n 0, o0), (.iload_n 1, oA 1), (.invokevirtual 461, vN, 243, 2, 1, 900012, [(0, 1916)]), (.ifCond .eq 52, oA 1), (.iload_n 2, oA 2), (.invokestatic 451, vN, 203, 1, 1, 0, [(0, 1849)]), (.ifCond .eq 45, oA 1), (.iload_n 2, oA 2), (.sipush 720, oC (vI 720)), (.idiv, o0), (.aload_n 0, o0), (.getfield 88, vN, 1, 1341000120, 41, 900012, [(0, 1425)]), (.iload_n 1, oA 1), (.iaload, o0), (.sipush 720, oC (vI 720)), (.idiv, o0), (.if_icmp .ne 27, oA 1), (.iload_n 2, oA 2), (.aload_n 0, o0), (.getfield 88, vN, 1, 1341000120, 41, 900012, [(0, 1425)]), (.iload_n 1, oA 1), (.iaload, o0), (.if_icmp .lt 17, oA 1), (.aload_n 0, o0), (.getfield 408, vN, 0, 1337, 37, 900012, [(0, 1421)]), (.sipush 400, oC (vI 400)), (.if_icmp .ge 7, oA 1), (.iconst 1, oC (vI 1)), (.goto 4, oA 2)], 1),
  (57, [(.iconst 0, oC (vI 0))], 2),
  (58, [(.ireturn, oA 1)], 3)]
def C_M_mayBe : List Nat := []
set_option maxRecDepth 100000 in
def B_M_back : List Blk := [(0, [(.aload_n 0, o0), (.iload_n 1, oA 1), (.iload_n 2, oA 2), (.invokevirtual 464, vN, 257, 3, 1, 900012, [(0, 1912)]), (.ifCond .ne 5, oA 1), (.iconst (-1), oC (vI (-1))), (.ireturn, o0)], 1),
  (11, [(.aload_n 0, o0), (.aload_n 0, o0), (.getfield 408, vN, 0, 1337, 37, 900012, [(0, 1421)]), (.invokevirtual 442, vN, 245, 2, 0, 900012, [(0, 1857)]), (.aload_n 0, o0), (.getfield 115, vN, 1, 1350000120, 50, 900012, [(0, 1434)]), (.iload_n 1, oA 1), (.iaload, o0), (.iconst (-1), oC (vI (-1))), (.if_icmp .ne 14, oA 2), (.aload_n 0, o0), (.iconst 1, oC (vI 1)), (.iload_n 1, oA 1), (.iload_n 2, oA 2), (.iconst 0, oC (vI 0)), (.invokevirtual 457, vN, 255, 5, 1, 900012, [(0, 1904)]), (.goto 4, oA 3)], 2),
  (40, [(.iconst (-1), oC (vI (-1)))], 3),
  (41, [(.ireturn, o0)], 4)]
def C_M_back : List Nat := []
set_option maxRecDepth 100000 in
def B_M_mend : List Blk := [(0, [(.aload_n 0, o0), (.iload_n 1, oA 1), (.iload_n 2, oA 2), (.invokevirtual 464, vN, 257, 3, 1, 900012, [(0, 1912)]), (.ifCond .ne 5, oA 1), (.iconst (-1), oC (vI (-1))), (.ireturn, o0)], 1),
  (11, [(.aload_n 0, o0), (.aload_n 0, o0), (.getfield 408, vN, 0, 1337, 37, 900012, [(0, 1421)]), (.invokevirtual 442, vN, 245, 2, 0, 900012, [(0, 1857)]), (.aload_n 0, o0), (.getfield 115, vN, 1, 1350000120, 50, 900012, [(0, 1434)]), (.iload_n 1, oA 1), (.iaload, o0), (.iconst (-1), oC (vI (-1))), (.if_icmp .ne 5, oA 2), (.iconst (-1), oC (vI (-1))), (.ireturn, o0)], 2),
  (31, [(.iload_n 1, oA 1), (.iconst 1, oC (vI 1)), (.iadd, o0), (.istore_n 3, oA 3)], 3),
  (35, [(.iload_n 3, oA 3), (.aload_n 0, o0), (.getfield 405, vN, 0, 1336, 36, 900012, [(0, 1420)]), (.if_icmp .ge 36, oA 5), (.aload_n 0, o0), (.getfield 82, vN, 1, 1339000120, 39, 900012, [(0, 1423)]), (.iload_n 3, oA 3), (.iaload, o0), (.aload_n 0, o0), (.getfield 82, vN, 1, 1339000120, 39, 900012, [(0, 1423)]), (.iload_n 1, oA 1), (.iaload, o0), (.if_icmp .ne 15, oA 4), (.aload_n 0, o0), (.getfield 88, vN, 1, 1341000120, 41, 900012, [(0, 1425)]), (.iload_n 3, oA 3), (.iaload, o0), (.iload_n 2, oA 2), (.if_icmp .ge 5, oA 4), (.iconst (-1), oC (vI (-1))), (.ireturn, o0)], 4),
  (70, [(.iinc 3 1, vI 1, 3, 0, 0, 0, []), (.goto (-38), oA 3)], 5),
  (76, [(.aload_n 0, o0), (.iconst 1, oC (vI 1)), (.iload_n 1, oA 1), (.iload_n 2, oA 2), (.iconst 0, oC (vI 0)), (.invokevirtual 457, vN, 255, 5, 1, 900012, [(0, 1904)]), (.ireturn, o0)], 6)]
def C_M_mend : List Nat := [3]
set_option maxRecDepth 100000 in
def B_M_swamp : List Blk := [(0, [(.aload_n 0, o0), (.iload_n 1, oA 1), (.invokevirtual 461, vN, 243, 2, 1, 900012, [(0, 1916)]), (.ifCond .eq 35, oA 1), (.iload_n 2, oA 2), (.iconst 0, oC (vI 0)), (.sipush 9999, oC (vI 9999)), (.invokestatic 221, vN, 198, 3, 1, 0, [(0, 1686)]), (.ifCond .eq 24, oA 1), (.aload_n 0, o0), (.getfield 408, vN, 0, 1337, 37, 900012, [(0, 1421)]), (.sipush 400, oC (vI 400)), (.if_icmp .ge 14, oA 1), (.aload_n 0, o0), (.iconst 2, oC (vI 2)), (.iload_n 1, oA 1), (.iload_n 2, oA 2), (.iconst 0, oC (vI 0)), (.invokevirtual 457, vN, 255, 5, 1, 900012, [(0, 1904)]), (.goto 4, oA 2)], 1),
  (40, [(.iconst (-1), oC (vI (-1)))], 2),
  (41, [(.ireturn, o0)], 3)]
def C_M_swamp : List Nat := []
set_option maxRecDepth 100000 in
def B_M_cushions : List Blk := [(0, [(.aload_n 0, o0), (.iload_n 1, oA 1), (.invokevirtual 461, vN, 243, 2, 1, 900012, [(0, 1916)]), (.ifCond .eq 44, oA 1), (.iload_n 2, oA 2), (.iconst 0, oC (vI 0)), (.bipush 9, oC (vI 9)), (.invokestatic 221, vN, 198, 3, 1, 0, [(0, 1686)]), (.ifCond .eq 34, oA 1), (.iload_n 3, oA 3), (.iconst 0, oC (vI 0)), (.bipush 9, oC (vI 9)), (.invokestatic 221, vN, 198, 3, 1, 0, [(0, 1686)]), (.ifCond .eq 24, oA 1), (.aload_n 0, o0), (.getfield 408, vN, 0, 1337, 37, 900012, [(0, 1421)]), (.sipush 400, oC (vI 400)), (.if_icmp .ge 14, oA 1), (.aload_n 0, o0), (.iconst 3, oC (vI 3)), (.iload_n 1, oA 1), (.iload_n 2, oA 2), (.iload_n 3, oA 3), (.invokevirtual 457, vN, 255, 5, 1, 900012, [(0, 1904)]), (.goto 4, oA 2)], 1),
  (49, [(.iconst (-1), oC (vI (-1)))], 2),
  (50, [(.ireturn, o0)], 3)]
def C_M_cushions : List Nat := []
set_option maxRecDepth 100000 in
def B_M_hire : List Blk := [(0, [(.aload_n 0, o0), (.iload_n 1, oA 1), (.invokevirtual 461, vN, 243, 2, 1, 900012, [(0, 1916)]), (.ifCond .ne 5, oA 1), (.iconst (-1), oC (vI (-1))), (.ireturn, o0)], 1),
  (10, [(.iload_n 2, oA 2), (.tableswitch 90 0 6 #[41, 48, 55, 62, 69, 76, 83], vN, 9, 0, 0, 0, [(0, 2), (1, 3), (2, 4), (3, 5), (4, 6), (5, 7), (6, 8)])], 2),
  (52, [(.aload_n 0, o0), (.getfield 82, vN, 1, 1339000120, 39, 900012, [(0, 1423)]), (.iload_n 1, oA 1), (.iaload, o0), (.ireturn, o0)], 3),
  (59, [(.aload_n 0, o0), (.getfield 85, vN, 1, 1340000120, 40, 900012, [(0, 1424)]), (.iload_n 1, oA 1), (.iaload, o0), (.ireturn, o0)], 4),
  (66, [(.aload_n 0, o0), (.getfield 88, vN, 1, 1341000120, 41, 900012, [(0, 1425)]), (.iload_n 1, oA 1), (.iaload, o0), (.ireturn, o0)], 5),
  (73, [(.aload_n 0, o0), (.getfield 91, vN, 1, 1342000120, 42, 900012, [(0, 1426)]), (.iload_n 1, oA 1), (.iaload, o0), (.ireturn, o0)], 6),
  (80, [(.aload_n 0, o0), (.getfield 94, vN, 1, 1343000120, 43, 900012, [(0, 1427)]), (.iload_n 1, oA 1), (.iaload, o0), (.ireturn, o0)], 7),
  (87, [(.aload_n 0, o0), (.getfield 97, vN, 1, 1344000120, 44, 900012, [(0, 1428)]), (.iload_n 1, oA 1), (.iaload, o0), (.ireturn, o0)], 8),
  (94, [(.aload_n 0, o0), (.getfield 100, vN, 1, 1345000120, 45, 900012, [(0, 1429)]), (.iload_n 1, oA 1), (.iaload, o0), (.ireturn, o0)], 9),
  (101, [(.iconst (-1), oC (vI (-1))), (.ireturn, o0)], 10)]
def C_M_hire : List Nat := []
set_option maxRecDepth 100000 in
def B_M_known : List Blk := [(0, [(.aload_n 0, o0), (.iload_n 1, oA 1), (.invokevirtual 461, vN, 243, 2, 1, 900012, [(0, 1916)]), (.ifCond .eq 21, oA 1), (.aload_n 0, o0), (.iload_n 2, oA 2), (.invokevirtual 467, vN, 244, 2, 1, 900012, [(0, 1940)]), (.ifCond .eq 13, oA 1), (.aload_n 0, o0), (.getfield 94, vN, 1, 1343000120, 43, 900012, [(0, 1427)]), (.iload_n 1, oA 1), (.iaload, o0), (.iload_n 2, oA 2), (.if_icmp .le 6, oA 2)], 1),
  (26, [(.bipush (-2), oC (vI (-2))), (.ireturn, o0)], 2),
  (29, [(.aload_n 0, o0), (.iload_n 2, oA 2), (.invokevirtual 442, vN, 245, 2, 0, 900012, [(0, 1857)]), (.aload_n 0, o0), (.getfield 115, vN, 1, 1350000120, 50, 900012, [(0, 1434)]), (.iload_n 1, oA 1), (.iaload, o0), (.ireturn, o0)], 3)]
def C_M_known : List Nat := []
set_option maxRecDepth 100000 in
def B_M_lawBy : List Blk := [(0, [(.aload_n 0, o0), (.aload_n 0, o0), (.getfield 88, vN, 1, 1341000120, 41, 900012, [(0, 1425)]), (.iload_n 1, oA 1), (.iaload, o0), (.sipush 720, oC (vI 720)), (.idiv, o0), (.invokevirtual 380, vN, 232, 2, 1, 900012, [(0, 1810)]), (.ireturn, o0)], 1)]
def C_M_lawBy : List Nat := []
set_option maxRecDepth 100000 in
def B_M_kindBy : List Blk := [(0, [(.aload_n 0, o0), (.getfield 79, vN, 1, 1338000020, 38, 900012, [(0, 1422)]), (.aload_n 0, o0), (.getfield 82, vN, 1, 1339000120, 39, 900012, [(0, 1423)]), (.iload_n 1, oA 1), (.iaload, o0), (.iaload, o0), (.ireturn, o0)], 1)]
def C_M_kindBy : List Nat := []
set_option maxRecDepth 100000 in
def B_M_minutes : List Blk := [(0, [(.aload_n 0, o0), (.getfield 115, vN, 1, 1350000120, 50, 900012, [(0, 1434)]), (.iload_n 1, oA 1), (.iaload, o0), (.aload_n 0, o0), (.getfield 88, vN, 1, 1341000120, 41, 900012, [(0, 1425)]), (.iload_n 1, oA 1), (.iaload, o0), (.isub, o0), (.ireturn, o0)], 1)]
def C_M_minutes : List Nat := []
set_option maxRecDepth 100000 in
def B_M_freeOf : List Blk := [(0, [(.aload_n 0, o0), (.aload_n 0, o0), (.iload_n 1, oA 1), (.invokevirtual 470, vN, 264, 2, 1, 900012, [(0, 1961)]), (.bipush 20, oC (vI 20)), (.iconst 4, oC (vI 4)), (.aload_n 0, o0), (.getfield 85, vN, 1, 1340000120, 40, 900012, [(0, 1424)]), (.iload_n 1, oA 1), (.iaload, o0), (.imul, o0), (.iadd, o0), (.aload_n 0, o0), (.iload_n 1, oA 1), (.invokevirtual 473, vN, 265, 2, 1, 900012, [(0, 1965)]), (.iadd, o0), (.invokevirtual 384, vN, 233, 3, 1, 900012, [(0, 1814)]), (.istore_n 2, oA 2), (.aload_n 0, o0), (.getfield 88, vN, 1, 1341000120, 41, 900012, [(0, 1425)]), (.iload_n 1, oA 1), (.iaload, o0), (.sipush 720, oC (vI 720)), (.idiv, o0), (.istore_n 3, oA 3), (.iconst 0, oC (vI 0)), (.istore 4, oA 4)], 1),
  (41, [(.iload 4, oA 4), (.aload_n 0, o0), (.getfield 405, vN, 0, 1336, 36, 900012, [(0, 1420)]), (.if_icmp .ge 119, oA 5), (.iload 4, oA 4), (.iload_n 1, oA 1), (.if_icmp .eq 107, oA 4), (.aload_n 0, o0), (.iload 4, oA 4), (.invokevirtual 476, vN, 247, 2, 1, 900012, [(0, 1949)]), (.ifCond .eq 98, oA 4), (.aload_n 0, o0), (.getfield 85, vN, 1, 1340000120, 40, 900012, [(0, 1424)]), (.iload 4, oA 4), (.iaload, o0), (.aload_n 0, o0), (.getfield 85, vN, 1, 1340000120, 40, 900012, [(0, 1424)]), (.iload_n 1, oA 1), (.iaload, o0), (.if_icmp .ne 82, oA 4), (.aload_n 0, o0), (.iload 4, oA 4), (.invokevirtual 473, vN, 265, 2, 1, 900012, [(0, 1965)]), (.aload_n 0, o0), (.iload_n 1, oA 1), (.invokevirtual 473, vN, 265, 2, 1, 900012, [(0, 1965)]), (.if_icmp .ne 68, oA 4), (.aload_n 0, o0), (.getfield 88, vN, 1, 1341000120, 41, 900012, [(0, 1425)]), (.iload 4, oA 4), (.iaload, o0), (.sipush 720, oC (vI 720)), (.idiv, o0), (.iload_n 3, oA 3), (.if_icmp .eq 6, oA 2), (.goto 50, oA 4)], 2),
  (113, [(.aload_n 0, o0), (.getfield 88, vN, 1, 1341000120, 41, 900012, [(0, 1425)]), (.iload 4, oA 4), (.iaload, o0), (.aload_n 0, o0), (.getfield 88, vN, 1, 1341000120, 41, 900012, [(0, 1425)]), (.iload_n 1, oA 1), (.iaload, o0), (.if_icmp .lt 25, oA 3), (.aload_n 0, o0), (.getfield 88, vN, 1, 1341000120, 41, 900012, [(0, 1425)]), (.iload 4, oA 4), (.iaload, o0), (.aload_n 0, o0), (.getfield 88, vN, 1, 1341000120, 41, 900012, [(0, 1425)]), (.iload_n 1, oA 1), (.iaload, o0), (.if_icmp .ne 18, oA 4), (.iload 4, oA 4), (.iload_n 1, oA 1), (.if_icmp .ge 12, oA 4)], 3),
  (151, [(.iload_n 2, oA 2), (.aload_n 0, o0), (.iload 4, oA 4), (.invokevirtual 479, vN, 266, 2, 1, 900012, [(0, 1953)]), (.isub, o0), (.istore_n 2, oA 2)], 4),
  (160, [(.iinc 4 1, vI 1, 4, 0, 0, 0, []), (.goto (-122), oA 1)], 5),
  (166, [(.iconst 0, oC (vI 0)), (.iload_n 2, oA 2), (.aload_n 0, o0), (.iload_n 1, oA 1), (.invokevirtual 479, vN, 266, 2, 1, 900012, [(0, 1953)]), (.invokestatic 394, vN, 337, 2, 1, 0, [(0, 1895)]), (.invokestatic 482, vN, 336, 2, 1, 0, [(0, 1969)]), (.ireturn, o0)], 6)]
def C_M_freeOf : List Nat := [1]
set_option maxRecDepth 100000 in
def B_M_priceOf : List Blk := [(0, [(.aload_n 0, o0), (.iload_n 1, oA 1), (.invokevirtual 470, vN, 264, 2, 1, 900012, [(0, 1961)]), (.istore_n 3, oA 3), (.aload_n 0, o0), (.iload_n 1, oA 1), (.invokevirtual 479, vN, 266, 2, 1, 900012, [(0, 1953)]), (.iload_n 2, oA 2), (.isub, o0), (.aload_n 0, o0), (.iload_n 3, oA 3), (.iconst 4, oC (vI 4)), (.aload_n 0, o0), (.iload_n 1, oA 1), (.invokevirtual 473, vN, 265, 2, 1, 900012, [(0, 1965)]), (.iadd, o0), (.invokevirtual 384, vN, 233, 3, 1, 900012, [(0, 1814)]), (.invokestatic 485, vN, 205, 2, 1, 0, [(0, 1974)]), (.aload_n 0, o0), (.iload_n 3, oA 3), (.aload_n 0, o0), (.iload_n 1, oA 1), (.invokevirtual 473, vN, 265, 2, 1, 900012, [(0, 1965)]), (.invokevirtual 384, vN, 233, 3, 1, 900012, [(0, 1814)]), (.imul, o0), (.istore 4, oA 4), (.iconst 0, oC (vI 0)), (.istore 5, oA 5), (.bipush 40, oC (vI 40)), (.iload_n 3, oA 3), (.imul, o0), (.istore 6, oA 6)], 1),
  (50, [(.iload_n 3, oA 3), (.iconst (-1), oC (vI (-1))), (.if_icmp .eq 77, oA 3), (.iload 6, oA 6), (.bipush 40, oC (vI 40)), (.iload_n 3, oA 3), (.imul, o0), (.aload_n 0, o0), (.getfield 20, vN, 1, 1310000006, 10, 900012, [(0, 1394)]), (.iload_n 3, oA 3), (.iaload, o0), (.iadd, o0), (.if_icmp .ge 61, oA 3), (.aload_n 0, o0), (.getfield 23, vN, 1, 1311000240, 11, 900012, [(0, 1395)]), (.iload 6, oA 6), (.iaload, o0), (.ifCond .ne 45, oA 2), (.aload_n 0, o0), (.getfield 88, vN, 1, 1341000120, 41, 900012, [(0, 1425)]), (.iload_n 1, oA 1), (.iaload, o0), (.sipush 720, oC (vI 720)), (.irem, o0), (.aload_n 0, o0), (.getfield 26, vN, 1, 1312000240, 12, 900012, [(0, 1396)]), (.iload 6, oA 6), (.iaload, o0), (.aload_n 0, o0), (.getfield 29, vN, 1, 1313000240, 13, 900012, [(0, 1397)]), (.iload 6, oA 6), (.iaload, o0), (.invokestatic 221, vN, 198, 3, 1, 0, [(0, 1686)]), (.ifCond .eq 15, oA 2), (.iload 5, oA 5), (.aload_n 0, o0), (.getfield 32, vN, 1, 1314000240, 14, 900012, [(0, 1398)]), (.iload 6, oA 6), (.iaload, o0), (.iadd, o0), (.istore 5, oA 5)], 2),
  (123, [(.iinc 6 1, vI 1, 6, 0, 0, 0, []), (.goto (-76), oA 1)], 3),
  (129, [(.iload 4, oA 4), (.iload 4, oA 4), (.sipush 900, oC (vI 900)), (.iload 5, oA 5), (.invokestatic 394, vN, 337, 2, 1, 0, [(0, 1895)]), (.imul, o0), (.bipush 100, oC (vI 100)), (.idiv, o0), (.iadd, o0), (.ireturn, o0)], 4)]
def C_M_priceOf : List Nat := [1]
set_option maxRecDepth 100000 in
def B_M_lateOf : List Blk := [(0, [(.aload_n 0, o0), (.iload_n 1, oA 1), (.invokevirtual 470, vN, 264, 2, 1, 900012, [(0, 1961)]), (.istore_n 2, oA 2), (.aload_n 0, o0), (.iload_n 1, oA 1), (.invokevirtual 479, vN, 266, 2, 1, 900012, [(0, 1953)]), (.aload_n 0, o0), (.getfield 91, vN, 1, 1342000120, 42, 900012, [(0, 1426)]), (.iload_n 1, oA 1), (.iaload, o0), (.isub, o0), (.istore_n 3, oA 3), (.iload_n 3, oA 3), (.aload_n 0, o0), (.iload_n 2, oA 2), (.bipush 14, oC (vI 14)), (.invokevirtual 384, vN, 233, 3, 1, 900012, [(0, 1814)]), (.if_icmp .le 25, oA 1), (.iload_n 3, oA 3), (.aload_n 0, o0), (.iload_n 2, oA 2), (.bipush 13, oC (vI 13)), (.invokevirtual 384, vN, 233, 3, 1, 900012, [(0, 1814)]), (.invokestatic 485, vN, 205, 2, 1, 0, [(0, 1974)]), (.aload_n 0, o0), (.iload_n 2, oA 2), (.bipush 12, oC (vI 12)), (.invokevirtual 384, vN, 233, 3, 1, 900012, [(0, 1814)]), (.imul, o0), (.goto 4, oA 2)], 1),
  (52, [(.iconst 0, oC (vI 0))], 2),
  (53, [(.ireturn, o0)], 3)]
def C_M_lateOf : List Nat := []
set_option maxRecDepth 100000 in
def B_M_wetOf : List Blk := [(0, [(.aload_n 0, o0), (.iload_n 1, oA 1), (.invokevirtual 479, vN, 266, 2, 1, 900012, [(0, 1953)]), (.ifCond .ne 5, oA 1), (.iconst 0, oC (vI 0)), (.ireturn, o0)], 1),
  (10, [(.iconst 0, oC (vI 0)), (.istore 4, oA 4), (.aload_n 0, o0), (.getfield 88, vN, 1, 1341000120, 41, 900012, [(0, 1425)]), (.iload_n 1, oA 1), (.iaload, o0), (.istore 5, oA 5)], 2),
  (21, [(.iload 5, oA 5), (.aload_n 0, o0), (.getfield 115, vN, 1, 1350000120, 50, 900012, [(0, 1434)]), (.iload_n 1, oA 1), (.iaload, o0), (.if_icmp .ge 63, oA 6), (.iload 4, oA 4), (.aload_n 0, o0), (.iload 5, oA 5), (.sipush 720, oC (vI 720)), (.idiv, o0), (.iload 5, oA 5), (.sipush 720, oC (vI 720)), (.irem, o0), (.invokevirtual 420, vN, 237, 3, 1, 900012, [(0, 1884)]), (.ifCond .ne 25, oA 3), (.iload_n 3, oA 3), (.iconst (-1), oC (vI (-1))), (.if_icmp .eq 24, oA 4), (.iload 5, oA 5), (.sipush 720, oC (vI 720)), (.irem, o0), (.iload_n 3, oA 3), (.iload_n 3, oA 3), (.bipush 59, oC (vI 59)), (.iadd, o0), (.invokestatic 221, vN, 198, 3, 1, 0, [(0, 1686)]), (.ifCond .eq 7, oA 4)], 3),
  (75, [(.iconst 1, oC (vI 1)), (.goto 4, oA 5)], 4),
  (79, [(.iconst 0, oC (vI 0))], 5),
  (80, [(.invokestatic 423, vN, 199, 1, 1, 0, [(0, 1888)]), (.iadd, o0), (.istore 4, oA 4), (.iinc 5 1, vI 1, 5, 0, 0, 0, []), (.goto (-68), oA 2)], 6),
  (92, [(.iload_n 2, oA 2), (.i2l, o0), (.aload_n 0, o0), (.aload_n 0, o0), (.iload_n 1, oA 1), (.invokevirtual 470, vN, 264, 2, 1, 900012, [(0, 1961)]), (.bipush 15, oC (vI 15)), (.invokevirtual 384, vN, 233, 3, 1, 900012, [(0, 1814)]), (.i2l, o0), (.lmul, o0), (.iload 4, oA 4), (.i2l, o0), (.lmul, o0), (.ldc2_w 488, vL 100, 0, 0, 0, 0, [(0, 1985)]), (.aload_n 0, o0), (.iload_n 1, oA 1), (.invokevirtual 479, vN, 266, 2, 1, 900012, [(0, 1953)]), (.i2l, o0), (.lmul, o0), (.ldiv, o0), (.l2i, o0), (.ireturn, o0)], 7)]
def C_M_wetOf : List Nat := [2]
set_option maxRecDepth 100000 in
def B_M_harmOf : List Blk := [(0, [(.aload_n 0, o0), (.iload_n 1, oA 1), (.invokevirtual 470, vN, 264, 2, 1, 900012, [(0, 1961)]), (.istore_n 2, oA 2), (.bipush 100, oC (vI 100)), (.istore_n 3, oA 3), (.aload_n 0, o0), (.aload_n 0, o0), (.getfield 88, vN, 1, 1341000120, 41, 900012, [(0, 1425)]), (.iload_n 1, oA 1), (.iaload, o0), (.aload_n 0, o0), (.iload_n 1, oA 1), (.invokevirtual 473, vN, 265, 2, 1, 900012, [(0, 1965)]), (.aload_n 0, o0), (.aload_n 0, o0), (.getfield 88, vN, 1, 1341000120, 41, 900012, [(0, 1425)]), (.iload_n 1, oA 1), (.iaload, o0), (.invokevirtual 430, vN, 249, 2, 1, 900012, [(0, 1865)]), (.invokestatic 433, vN, 201, 1, 1, 0, [(0, 1877)]), (.invokevirtual 436, vN, 250, 4, 0, 900012, [(0, 1880)]), (.iconst 0, oC (vI 0)), (.istore 4, oA 4), (.bipush 40, oC (vI 40)), (.iload_n 2, oA 2), (.imul, o0), (.istore 5, oA 5)], 1),
  (46, [(.iload_n 2, oA 2), (.iconst (-1), oC (vI (-1))), (.if_icmp .eq 64, oA 4), (.iload 5, oA 5), (.bipush 40, oC (vI 40)), (.iload_n 2, oA 2), (.imul, o0), (.aload_n 0, o0), (.getfield 20, vN, 1, 1310000006, 10, 900012, [(0, 1394)]), (.iload_n 2, oA 2), (.iaload, o0), (.iadd, o0), (.if_icmp .ge 48, oA 4), (.iload 4, oA 4), (.ifCond .ne 43, oA 4), (.aload_n 0, o0), (.getfield 23, vN, 1, 1311000240, 11, 900012, [(0, 1395)]), (.iload 5, oA 5), (.iaload, o0), (.iconst 1, oC (vI 1)), (.if_icmp .ne 26, oA 3), (.aload_n 0, o0), (.iload 5, oA 5), (.invokevirtual 439, vN, 251, 2, 1, 900012, [(0, 1896)]), (.ifCond .ne 6, oA 2), (.goto 14, oA 3)], 2),
  (95, [(.aload_n 0, o0), (.getfield 32, vN, 1, 1314000240, 14, 900012, [(0, 1398)]), (.iload 5, oA 5), (.iaload, o0), (.istore_n 3, oA 3), (.iconst 1, oC (vI 1)), (.istore 4, oA 4)], 3),
  (106, [(.iinc 5 1, vI 1, 5, 0, 0, 0, []), (.goto (-63), oA 1)], 4),
  (112, [(.aload_n 0, o0), (.getfield 118, vN, 1, 1351000120, 51, 900012, [(0, 1435)]), (.iload_n 1, oA 1), (.iaload, o0), (.iload_n 3, oA 3), (.imul, o0), (.bipush 100, oC (vI 100)), (.idiv, o0), (.ireturn, o0)], 5)]
def C_M_harmOf : List Nat := [1]
set_option maxRecDepth 100000 in
def B_M_cushionsOf : List Blk := [(0, [(.iconst 0, oC (vI 0)), (.aload_n 0, o0), (.getfield 121, vN, 1, 1352000120, 52, 900012, [(0, 1436)]), (.iload_n 1, oA 1), (.iaload, o0), (.aload_n 0, o0), (.getfield 124, vN, 1, 1353000120, 53, 900012, [(0, 1437)]), (.iload_n 1, oA 1), (.iaload, o0), (.isub, o0), (.invokestatic 482, vN, 336, 2, 1, 0, [(0, 1969)]), (.aload_n 0, o0), (.aload_n 0, o0), (.iload_n 1, oA 1), (.invokevirtual 470, vN, 264, 2, 1, 900012, [(0, 1961)]), (.bipush 16, oC (vI 16)), (.invokevirtual 384, vN, 233, 3, 1, 900012, [(0, 1814)]), (.imul, o0), (.ireturn, o0)], 1)]
def C_M_cushionsOf : List Nat := []
set_option maxRecDepth 100000 in
def B_M_owedOf : List Blk := [(0, [(.aload_n 0, o0), (.iload_n 1, oA 1), (.aload_n 0, o0), (.iload_n 1, oA 1), (.invokevirtual 490, vN, 267, 2, 1, 900012, [(0, 1957)]), (.invokevirtual 493, vN, 268, 3, 1, 900012, [(0, 1970)]), (.istore_n 2, oA 2), (.iload_n 2, oA 2), (.aload_n 0, o0), (.iload_n 1, oA 1), (.invokevirtual 496, vN, 269, 2, 1, 900012, [(0, 1977)]), (.iadd, o0), (.aload_n 0, o0), (.iload_n 1, oA 1), (.invokevirtual 499, vN, 271, 2, 1, 900012, [(0, 1986)]), (.iadd, o0), (.aload_n 0, o0), (.iload_n 1, oA 1), (.invokevirtual 502, vN, 272, 2, 1, 900012, [(0, 1994)]), (.iadd, o0), (.aload_n 0, o0), (.iload_n 1, oA 1), (.iload_n 2, oA 2), (.iconst (-1), oC (vI (-1))), (.invokevirtual 505, vN, 270, 4, 1, 900012, [(0, 1981)]), (.isub, o0), (.ireturn, o0)], 1)]
def C_M_owedOf : List Nat := []
set_option maxRecDepth 100000 in
def B_M_bill : List Blk := [(0, [(.aload_n 0, o0), (.iload_n 1, oA 1), (.invokevirtual 461, vN, 243, 2, 1, 900012, [(0, 1916)]), (.ifCond .eq 11, oA 1), (.aload_n 0, o0), (.iload_n 2, oA 2), (.invokevirtual 467, vN, 244, 2, 1, 900012, [(0, 1940)]), (.ifCond .ne 7, oA 2)], 1),
  (16, [(.ldc_w 509, vI (-1000000), 0, 0, 0, 0, [(0, 1948)]), (.ireturn, o0)], 2),
  (20, [(.aload_n 0, o0), (.iload_n 2, oA 2), (.invokevirtual 442, vN, 245, 2, 0, 900012, [(0, 1857)]), (.aload_n 0, o0), (.iload_n 1, oA 1), (.invokevirtual 476, vN, 247, 2, 1, 900012, [(0, 1949)]), (.ifCond .ne 7, oA 3), (.ldc_w 509, vI (-1000000), 0, 0, 0, 0, [(0, 1948)]), (.ireturn, o0)], 3),
  (37, [(.iload_n 3, oA 3), (.tableswitch 154 0 8 #[50, 56, 62, 73, 79, 96, 102, 108, 148], vN, 13, 0, 0, 0, [(0, 4), (1, 5), (2, 6), (3, 7), (4, 8), (5, 9), (6, 10), (7, 11), (8, 12)])], 4),
  (88, [(.aload_n 0, o0), (.iload_n 1, oA 1), (.invokevirtual 479, vN, 266, 2, 1, 900012, [(0, 1953)]), (.ireturn, o0)], 5),
  (94, [(.aload_n 0, o0), (.iload_n 1, oA 1), (.invokevirtual 490, vN, 267, 2, 1, 900012, [(0, 1957)]), (.ireturn, o0)], 6),
  (100, [(.aload_n 0, o0), (.iload_n 1, oA 1), (.aload_n 0, o0), (.iload_n 1, oA 1), (.invokevirtual 490, vN, 267, 2, 1, 900012, [(0, 1957)]), (.invokevirtual 493, vN, 268, 3, 1, 900012, [(0, 1970)]), (.ireturn, o0)], 7),
  (111, [(.aload_n 0, o0), (.iload_n 1, oA 1), (.invokevirtual 496, vN, 269, 2, 1, 900012, [(0, 1977)]), (.ireturn, o0)], 8),
  (117, [(.aload_n 0, o0), (.iload_n 1, oA 1), (.aload_n 0, o0), (.iload_n 1, oA 1), (.aload_n 0, o0), (.iload_n 1, oA 1), (.invokevirtual 490, vN, 267, 2, 1, 900012, [(0, 1957)]), (.invokevirtual 493, vN, 268, 3, 1, 900012, [(0, 1970)]), (.iconst (-1), oC (vI (-1))), (.invokevirtual 505, vN, 270, 4, 1, 900012, [(0, 1981)]), (.ireturn, o0)], 9),
  (134, [(.aload_n 0, o0), (.iload_n 1, oA 1), (.invokevirtual 499, vN, 271, 2, 1, 900012, [(0, 1986)]), (.ireturn, o0)], 10),
  (140, [(.aload_n 0, o0), (.iload_n 1, oA 1), (.invokevirtual 510, vN, 273, 2, 1, 900012, [(0, 1990)]), (.ireturn, o0)], 11),
  (146, [(.iconst 0, oC (vI 0)), (.aload_n 0, o0), (.aload_n 0, o0), (.iload_n 1, oA 1), (.invokevirtual 470, vN, 264, 2, 1, 900012, [(0, 1961)]), (.bipush 8, oC (vI 8)), (.aload_n 0, o0), (.iload_n 1, oA 1), (.invokevirtual 473, vN, 265, 2, 1, 900012, [(0, 1965)]), (.iadd, o0), (.invokevirtual 384, vN, 233, 3, 1, 900012, [(0, 1814)]), (.aload_n 0, o0), (.iload_n 1, oA 1), (.invokevirtual 496, vN, 269, 2, 1, 900012, [(0, 1977)]), (.isub, o0), (.aload_n 0, o0), (.iload_n 1, oA 1), (.invokevirtual 499, vN, 271, 2, 1, 900012, [(0, 1986)]), (.isub, o0), (.aload_n 0, o0), (.iload_n 1, oA 1), (.invokevirtual 502, vN, 272, 2, 1, 900012, [(0, 1994)]), (.isub, o0), (.invokestatic 482, vN, 336, 2, 1, 0, [(0, 1969)]), (.ireturn, o0)], 12),
  (186, [(.aload_n 0, o0), (.iload_n 1, oA 1), (.invokevirtual 502, vN, 272, 2, 1, 900012, [(0, 1994)]), (.ireturn, o0)], 13),
  (192, [(.ldc_w 509, vI (-1000000), 0, 0, 0, 0, [(0, 1948)]), (.ireturn, o0)], 14)]
def C_M_bill : List Nat := []
set_option maxRecDepth 100000 in
def B_M_outs : List Blk := [(0, [(.iload_n 1, oA 1), (.invokestatic 451, vN, 203, 1, 1, 0, [(0, 1849)]), (.ifCond .eq 11, oA 1), (.aload_n 0, o0), (.iload_n 2, oA 2), (.invokevirtual 467, vN, 244, 2, 1, 900012, [(0, 1940)]), (.ifCond .ne 5, oA 2)], 1),
  (15, [(.iconst (-1), oC (vI (-1))), (.ireturn, o0)], 2),
  (17, [(.aload_n 0, o0), (.iload_n 2, oA 2), (.invokevirtual 442, vN, 245, 2, 0, 900012, [(0, 1857)]), (.aload_n 0, o0), (.iload_n 1, oA 1), (.invokevirtual 430, vN, 249, 2, 1, 900012, [(0, 1865)]), (.ireturn, o0)], 3)]
def C_M_outs : List Nat := []
set_option maxRecDepth 100000 in
def B_M_isOn : List Blk := [(0, [(.aload_n 0, o0), (.iload_n 1, oA 1), (.invokevirtual 476, vN, 247, 2, 1, 900012, [(0, 1949)]), (.ifCond .eq 21, oA 1), (.aload_n 0, o0), (.getfield 88, vN, 1, 1341000120, 41, 900012, [(0, 1425)]), (.iload_n 1, oA 1), (.iaload, o0), (.sipush 720, oC (vI 720)), (.idiv, o0), (.iload_n 2, oA 2), (.if_icmp .ne 7, oA 1), (.iconst 1, oC (vI 1)), (.goto 4, oA 2)], 1),
  (26, [(.iconst 0, oC (vI 0))], 2),
  (27, [(.ireturn, oA 1)], 3)]
def C_M_isOn : List Nat := []
set_option maxRecDepth 100000 in
def B_M_takings : List Blk := [(0, [(.iload_n 1, oA 1), (.invokestatic 371, vN, 202, 1, 1, 0, [(0, 1689)]), (.ifCond .eq 11, oA 1), (.aload_n 0, o0), (.iload_n 2, oA 2), (.invokevirtual 467, vN, 244, 2, 1, 900012, [(0, 1940)]), (.ifCond .ne 7, oA 2)], 1),
  (15, [(.ldc_w 509, vI (-1000000), 0, 0, 0, 0, [(0, 1948)]), (.ireturn, o0)], 2),
  (19, [(.aload_n 0, o0), (.iload_n 2, oA 2), (.invokevirtual 442, vN, 245, 2, 0, 900012, [(0, 1857)]), (.iconst 0, oC (vI 0)), (.istore_n 3, oA 3), (.iconst 0, oC (vI 0)), (.istore 4, oA 4)], 3),
  (29, [(.iload 4, oA 4), (.aload_n 0, o0), (.getfield 405, vN, 0, 1336, 36, 900012, [(0, 1420)]), (.if_icmp .ge 32, oA 6), (.iload_n 3, oA 3), (.aload_n 0, o0), (.iload 4, oA 4), (.iload_n 1, oA 1), (.invokevirtual 513, vN, 276, 3, 1, 900012, [(0, 2006)]), (.ifCond .eq 12, oA 4), (.aload_n 0, o0), (.iload 4, oA 4), (.invokevirtual 510, vN, 273, 2, 1, 900012, [(0, 1990)]), (.goto 4, oA 5)], 4),
  (58, [(.iconst 0, oC (vI 0))], 5),
  (59, [(.iadd, o0), (.istore_n 3, oA 3), (.iinc 4 1, vI 1, 4, 0, 0, 0, []), (.goto (-35), oA 3)], 6),
  (67, [(.iload_n 3, oA 3), (.ireturn, o0)], 7)]
def C_M_takings : List Nat := [3]
set_option maxRecDepth 100000 in
def B_M_keeps : List Blk := [(0, [(.iconst 0, oC (vI 0)), (.istore_n 1, oA 1)], 1),
  (2, [(.iload_n 1, oA 1), (.aload_n 0, o0), (.getfield 405, vN, 0, 1336, 36, 900012, [(0, 1420)]), (.if_icmp .ge 89, oA 2), (.aload_n 0, o0), (.getfield 127, vN, 1, 1355000600, 55, 900012, [(0, 1439)]), (.iconst 5, oC (vI 5)), (.iload_n 1, oA 1), (.imul, o0), (.aload_n 0, o0), (.iload_n 1, oA 1), (.invokevirtual 414, vN, 246, 2, 1, 900012, [(0, 1873)]), (.invokestatic 423, vN, 199, 1, 1, 0, [(0, 1888)]), (.iastore, o0), (.aload_n 0, o0), (.getfield 127, vN, 1, 1355000600, 55, 900012, [(0, 1439)]), (.iconst 5, oC (vI 5)), (.iload_n 1, oA 1), (.imul, o0), (.iconst 1, oC (vI 1)), (.iadd, o0), (.aload_n 0, o0), (.getfield 115, vN, 1, 1350000120, 50, 900012, [(0, 1434)]), (.iload_n 1, oA 1), (.iaload, o0), (.iastore, o0), (.aload_n 0, o0), (.getfield 127, vN, 1, 1355000600, 55, 900012, [(0, 1439)]), (.iconst 5, oC (vI 5)), (.iload_n 1, oA 1), (.imul, o0), (.iconst 2, oC (vI 2)), (.iadd, o0), (.aload_n 0, o0), (.getfield 118, vN, 1, 1351000120, 51, 900012, [(0, 1435)]), (.iload_n 1, oA 1), (.iaload, o0), (.iastore, o0), (.aload_n 0, o0), (.getfield 127, vN, 1, 1355000600, 55, 900012, [(0, 1439)]), (.iconst 5, oC (vI 5)), (.iload_n 1, oA 1), (.imul, o0), (.iconst 3, oC (vI 3)), (.iadd, o0), (.aload_n 0, o0), (.getfield 121, vN, 1, 1352000120, 52, 900012, [(0, 1436)]), (.iload_n 1, oA 1), (.iaload, o0), (.iastore, o0), (.aload_n 0, o0), (.getfield 127, vN, 1, 1355000600, 55, 900012, [(0, 1439)]), (.iconst 5, oC (vI 5)), (.iload_n 1, oA 1), (.imul, o0), (.iconst 4, oC (vI 4)), (.iadd, o0), (.aload_n 0, o0), (.getfield 124, vN, 1, 1353000120, 53, 900012, [(0, 1437)]), (.iload_n 1, oA 1), (.iaload, o0), (.iastore, o0), (.iinc 1 1, vI 1, 1, 0, 0, 0, []), (.goto (-91), oA 1)], 2),
  (96, [(.return_, o0)], 3)]
def C_M_keeps : List Nat := [1]
set_option maxRecDepth 100000 in
def B_M_differ : List Blk := [(0, [(.aload_n 0, o0), (.iload_n 1, oA 1), (.invokevirtual 467, vN, 244, 2, 1, 900012, [(0, 1940)]), (.ifCond .eq 16, oA 1), (.aload_n 0, o0), (.iload_n 2, oA 2), (.invokevirtual 467, vN, 244, 2, 1, 900012, [(0, 1940)]), (.ifCond .eq 8, oA 1), (.iload_n 3, oA 3), (.iconst (-1), oC (vI (-1))), (.if_icmp .ge 5, oA 2)], 1),
  (21, [(.iconst (-1), oC (vI (-1))), (.ireturn, o0)], 2),
  (23, [(.aload_n 0, o0), (.iload_n 2, oA 2), (.invokevirtual 442, vN, 245, 2, 0, 900012, [(0, 1857)]), (.aload_n 0, o0), (.invokevirtual 516, vN, 278, 1, 0, 900012, [(0, 2014)]), (.aload_n 0, o0), (.iload_n 1, oA 1), (.invokevirtual 442, vN, 245, 2, 0, 900012, [(0, 1857)]), (.iconst 0, oC (vI 0)), (.istore 4, oA 4), (.iconst 0, oC (vI 0)), (.istore 5, oA 5)], 3),
  (43, [(.iload 5, oA 5), (.aload_n 0, o0), (.getfield 405, vN, 0, 1336, 36, 900012, [(0, 1420)]), (.if_icmp .ge 147, oA 11), (.aload_n 0, o0), (.getfield 127, vN, 1, 1355000600, 55, 900012, [(0, 1439)]), (.iconst 5, oC (vI 5)), (.iload 5, oA 5), (.imul, o0), (.iaload, o0), (.iconst 1, oC (vI 1)), (.if_icmp .ne 7, oA 4), (.iconst 1, oC (vI 1)), (.goto 4, oA 5)], 4),
  (69, [(.iconst 0, oC (vI 0))], 5),
  (70, [(.aload_n 0, o0), (.iload 5, oA 5), (.invokevirtual 414, vN, 246, 2, 1, 900012, [(0, 1873)]), (.if_icmp .ne 91, oA 6), (.aload_n 0, o0), (.getfield 127, vN, 1, 1355000600, 55, 900012, [(0, 1439)]), (.iconst 5, oC (vI 5)), (.iload 5, oA 5), (.imul, o0), (.iconst 1, oC (vI 1)), (.iadd, o0), (.iaload, o0), (.aload_n 0, o0), (.getfield 115, vN, 1, 1350000120, 50, 900012, [(0, 1434)]), (.iload 5, oA 5), (.iaload, o0), (.if_icmp .ne 70, oA 6), (.aload_n 0, o0), (.getfield 127, vN, 1, 1355000600, 55, 900012, [(0, 1439)]), (.iconst 5, oC (vI 5)), (.iload 5, oA 5), (.imul, o0), (.iconst 2, oC (vI 2)), (.iadd, o0), (.iaload, o0), (.aload_n 0, o0), (.getfield 118, vN, 1, 1351000120, 51, 900012, [(0, 1435)]), (.iload 5, oA 5), (.iaload, o0), (.if_icmp .ne 49, oA 6), (.aload_n 0, o0), (.getfield 127, vN, 1, 1355000600, 55, 900012, [(0, 1439)]), (.iconst 5, oC (vI 5)), (.iload 5, oA 5), (.imul, o0), (.iconst 3, oC (vI 3)), (.iadd, o0), (.iaload, o0), (.aload_n 0, o0), (.getfield 121, vN, 1, 1352000120, 52, 900012, [(0, 1436)]), (.iload 5, oA 5), (.iaload, o0), (.if_icmp .ne 28, oA 6), (.aload_n 0, o0), (.getfield 127, vN, 1, 1355000600, 55, 900012, [(0, 1439)]), (.iconst 5, oC (vI 5)), (.iload 5, oA 5), (.imul, o0), (.iconst 4, oC (vI 4)), (.iadd, o0), (.iaload, o0), (.aload_n 0, o0), (.getfield 124, vN, 1, 1353000120, 53, 900012, [(0, 1437)]), (.iload 5, oA 5), (.iaload, o0), (.if_icmp .ne 7, oA 6), (.iconst 1, oC (vI 1)), (.goto 4, oA 7)], 6),
  (167, [(.iconst 0, oC (vI 0))], 7),
  (168, [(.istore 6, oA 6), (.iload 6, oA 6), (.ifCond .eq 6, oA 8), (.goto 15, oA 10)], 8),
  (178, [(.iload 4, oA 4), (.iload_n 3, oA 3), (.if_icmp .ne 6, oA 9), (.iload 5, oA 5), (.ireturn, o0)], 9),
  (187, [(.iinc 4 1, vI 1, 4, 0, 0, 0, [])], 10),
  (190, [(.iinc 5 1, vI 1, 5, 0, 0, 0, []), (.goto (-150), oA 3)], 11),
  (196, [(.iload_n 3, oA 3), (.iconst (-1), oC (vI (-1))), (.if_icmp .ne 8, oA 12), (.iload 4, oA 4), (.goto 4, oA 13)], 12),
  (206, [(.iconst (-1), oC (vI (-1)))], 13),
  (207, [(.ireturn, o0)], 14)]
def C_M_differ : List Nat := [3, 5, 7]
set_option maxRecDepth 100000 in
def B_M_cost : List Blk := [(0, [(.iload_n 1, oA 1), (.iconst 0, oC (vI 0)), (.bipush 9, oC (vI 9)), (.invokestatic 221, vN, 198, 3, 1, 0, [(0, 1686)]), (.ifCond .eq 11, oA 1), (.aload_n 0, o0), (.iload_n 2, oA 2), (.invokevirtual 467, vN, 244, 2, 1, 900012, [(0, 1940)]), (.ifCond .ne 5, oA 2)], 1),
  (18, [(.iconst (-1), oC (vI (-1))), (.ireturn, o0)], 2),
  (20, [(.aload_n 0, o0), (.iload_n 2, oA 2), (.invokevirtual 442, vN, 245, 2, 0, 900012, [(0, 1857)]), (.iconst 0, oC (vI 0)), (.istore_n 3, oA 3), (.iconst 0, oC (vI 0)), (.istore 4, oA 4)], 3),
  (30, [(.iload 4, oA 4), (.aload_n 0, o0), (.getfield 405, vN, 0, 1336, 36, 900012, [(0, 1420)]), (.if_icmp .ge 56, oA 6), (.iload_n 3, oA 3), (.aload_n 0, o0), (.iload 4, oA 4), (.invokevirtual 476, vN, 247, 2, 1, 900012, [(0, 1949)]), (.ifCond .eq 37, oA 4), (.aload_n 0, o0), (.getfield 85, vN, 1, 1340000120, 40, 900012, [(0, 1424)]), (.iload 4, oA 4), (.iaload, o0), (.iload_n 1, oA 1), (.if_icmp .ne 26, oA 4), (.aload_n 0, o0), (.iload 4, oA 4), (.iconst 0, oC (vI 0)), (.invokevirtual 493, vN, 268, 3, 1, 900012, [(0, 1970)]), (.aload_n 0, o0), (.iload 4, oA 4), (.aload_n 0, o0), (.iload 4, oA 4), (.invokevirtual 490, vN, 267, 2, 1, 900012, [(0, 1957)]), (.invokevirtual 493, vN, 268, 3, 1, 900012, [(0, 1970)]), (.isub, o0), (.goto 4, oA 5)], 4),
  (83, [(.iconst 0, oC (vI 0))], 5),
  (84, [(.iadd, o0), (.istore_n 3, oA 3), (.iinc 4 1, vI 1, 4, 0, 0, 0, []), (.goto (-59), oA 3)], 6),
  (92, [(.iload_n 3, oA 3), (.ireturn, o0)], 7)]
def C_M_cost : List Nat := [3]
set_option maxRecDepth 100000 in
def B_M_worst : List Blk := [(0, [(.iload_n 1, oA 1), (.invokestatic 371, vN, 202, 1, 1, 0, [(0, 1689)]), (.ifCond .eq 20, oA 1), (.aload_n 0, o0), (.iload_n 2, oA 2), (.invokevirtual 467, vN, 244, 2, 1, 900012, [(0, 1940)]), (.ifCond .eq 12, oA 1), (.iload_n 3, oA 3), (.iconst 0, oC (vI 0)), (.iconst 1, oC (vI 1)), (.invokestatic 221, vN, 198, 3, 1, 0, [(0, 1686)]), (.ifCond .ne 5, oA 2)], 1),
  (24, [(.iconst (-1), oC (vI (-1))), (.ireturn, o0)], 2),
  (26, [(.aload_n 0, o0), (.iload_n 2, oA 2), (.invokevirtual 442, vN, 245, 2, 0, 900012, [(0, 1857)]), (.iconst 0, oC (vI 0)), (.istore 4, oA 4)], 3),
  (34, [(.iload 4, oA 4), (.aload_n 0, o0), (.getfield 405, vN, 0, 1336, 36, 900012, [(0, 1420)]), (.if_icmp .ge 42, oA 6), (.aload_n 0, o0), (.getfield 130, vN, 1, 1356000120, 56, 900012, [(0, 1440)]), (.iload 4, oA 4), (.aload_n 0, o0), (.iload 4, oA 4), (.iload_n 1, oA 1), (.invokevirtual 513, vN, 276, 3, 1, 900012, [(0, 2006)]), (.ifCond .eq 18, oA 4), (.aload_n 0, o0), (.iload 4, oA 4), (.aload_n 0, o0), (.iload 4, oA 4), (.invokevirtual 490, vN, 267, 2, 1, 900012, [(0, 1957)]), (.invokevirtual 493, vN, 268, 3, 1, 900012, [(0, 1970)]), (.goto 4, oA 5)], 4),
  (74, [(.iconst 0, oC (vI 0))], 5),
  (75, [(.iastore, o0), (.iinc 4 1, vI 1, 4, 0, 0, 0, []), (.goto (-45), oA 3)], 6),
  (82, [(.iconst 0, oC (vI 0)), (.istore 4, oA 4), (.iconst (-1), oC (vI (-1))), (.istore 5, oA 5), (.iconst 0, oC (vI 0)), (.istore 6, oA 6)], 7),
  (91, [(.iload 6, oA 6), (.sipush 660, oC (vI 660)), (.if_icmp .gt 82, oA 14), (.iconst 0, oC (vI 0)), (.istore 7, oA 7), (.iconst 0, oC (vI 0)), (.istore 8, oA 8)], 8),
  (105, [(.iload 8, oA 8), (.aload_n 0, o0), (.getfield 405, vN, 0, 1336, 36, 900012, [(0, 1420)]), (.if_icmp .ge 43, oA 11), (.iload 7, oA 7), (.aload_n 0, o0), (.iload 8, oA 8), (.iload_n 1, oA 1), (.invokevirtual 513, vN, 276, 3, 1, 900012, [(0, 2006)]), (.ifCond .eq 21, oA 9), (.aload_n 0, o0), (.iload 8, oA 8), (.aload_n 0, o0), (.getfield 130, vN, 1, 1356000120, 56, 900012, [(0, 1440)]), (.iload 8, oA 8), (.iaload, o0), (.iload 6, oA 6), (.invokevirtual 505, vN, 270, 4, 1, 900012, [(0, 1981)]), (.goto 4, oA 10)], 9),
  (144, [(.iconst 0, oC (vI 0))], 10),
  (145, [(.iadd, o0), (.istore 7, oA 7), (.iinc 8 1, vI 1, 8, 0, 0, 0, []), (.goto (-46), oA 8)], 11),
  (154, [(.iload 7, oA 7), (.iload 5, oA 5), (.if_icmp .gt 6, oA 12), (.goto 11, oA 13)], 12),
  (164, [(.iload 7, oA 7), (.istore 5, oA 5), (.iload 6, oA 6), (.istore 4, oA 4)], 13),
  (172, [(.iinc 6 1, vI 1, 6, 0, 0, 0, []), (.goto (-84), oA 7)], 14),
  (178, [(.iload_n 3, oA 3), (.ifCond .ne 8, oA 15), (.iload 4, oA 4), (.goto 5, oA 16)], 15),
  (187, [(.iload 5, oA 5)], 16),
  (189, [(.ireturn, o0)], 17)]
def C_M_worst : List Nat := [3, 7, 8]
set_option maxRecDepth 100000 in
def B_M_hasOut : List Blk := [(0, [(.iconst 0, oC (vI 0)), (.istore_n 3, oA 3), (.iconst 0, oC (vI 0)), (.istore 4, oA 4)], 1),
  (5, [(.iload 4, oA 4), (.aload_n 0, o0), (.getfield 405, vN, 0, 1336, 36, 900012, [(0, 1420)]), (.if_icmp .ge 40, oA 5), (.iload_n 3, oA 3), (.ifCond .ne 24, oA 2), (.aload_n 0, o0), (.getfield 85, vN, 1, 1340000120, 40, 900012, [(0, 1424)]), (.iload 4, oA 4), (.iaload, o0), (.iload_n 1, oA 1), (.if_icmp .ne 17, oA 3), (.aload_n 0, o0), (.iload 4, oA 4), (.iload_n 2, oA 2), (.invokevirtual 417, vN, 248, 3, 1, 900012, [(0, 1869)]), (.ifCond .eq 7, oA 3)], 2),
  (39, [(.iconst 1, oC (vI 1)), (.goto 4, oA 4)], 3),
  (43, [(.iconst 0, oC (vI 0))], 4),
  (44, [(.istore_n 3, oA 3), (.iinc 4 1, vI 1, 4, 0, 0, 0, []), (.goto (-43), oA 1)], 5),
  (51, [(.iload_n 3, oA 3), (.ireturn, oA 1)], 6)]
def C_M_hasOut : List Nat := [1]
set_option maxRecDepth 100000 in
def B_M_together : List Blk := [(0, [(.iload_n 1, oA 1), (.iconst 0, oC (vI 0)), (.bipush 9, oC (vI 9)), (.invokestatic 221, vN, 198, 3, 1, 0, [(0, 1686)]), (.ifCond .eq 44, oA 1), (.iload_n 2, oA 2), (.iconst 0, oC (vI 0)), (.bipush 9, oC (vI 9)), (.invokestatic 221, vN, 198, 3, 1, 0, [(0, 1686)]), (.ifCond .eq 34, oA 1), (.iload_n 1, oA 1), (.iload_n 2, oA 2), (.if_icmp .eq 29, oA 1), (.iload_n 3, oA 3), (.invokestatic 371, vN, 202, 1, 1, 0, [(0, 1689)]), (.ifCond .eq 22, oA 1), (.aload_n 0, o0), (.iload 4, oA 4), (.invokevirtual 467, vN, 244, 2, 1, 900012, [(0, 1940)]), (.ifCond .eq 13, oA 1), (.iload 5, oA 5), (.iconst 0, oC (vI 0)), (.iconst 1, oC (vI 1)), (.invokestatic 221, vN, 198, 3, 1, 0, [(0, 1686)]), (.ifCond .ne 5, oA 2)], 1),
  (51, [(.iconst (-1), oC (vI (-1))), (.ireturn, o0)], 2),
  (53, [(.aload_n 0, o0), (.iload 4, oA 4), (.invokevirtual 442, vN, 245, 2, 0, 900012, [(0, 1857)]), (.iconst 0, oC (vI 0)), (.istore 6, oA 6), (.iconst (-1), oC (vI (-1))), (.istore 7, oA 7), (.iconst 0, oC (vI 0)), (.istore 8, oA 8)], 3),
  (68, [(.iload 8, oA 8), (.sipush 720, oC (vI 720)), (.if_icmp .ge 56, oA 7), (.aload_n 0, o0), (.iload_n 1, oA 1), (.sipush 720, oC (vI 720)), (.iload_n 3, oA 3), (.imul, o0), (.iload 8, oA 8), (.iadd, o0), (.invokevirtual 519, vN, 282, 3, 1, 900012, [(0, 2030)]), (.ifCond .eq 34, oA 6), (.aload_n 0, o0), (.iload_n 2, oA 2), (.sipush 720, oC (vI 720)), (.iload_n 3, oA 3), (.imul, o0), (.iload 8, oA 8), (.iadd, o0), (.invokevirtual 519, vN, 282, 3, 1, 900012, [(0, 2030)]), (.ifCond .ne 6, oA 4), (.goto 15, oA 6)], 4),
  (111, [(.iload 6, oA 6), (.ifCond .ne 7, oA 5), (.iload 8, oA 8), (.istore 7, oA 7)], 5),
  (120, [(.iinc 6 1, vI 1, 6, 0, 0, 0, [])], 6),
  (123, [(.iinc 8 1, vI 1, 8, 0, 0, 0, []), (.goto (-58), oA 3)], 7),
  (129, [(.iload 5, oA 5), (.ifCond .ne 8, oA 8), (.iload 6, oA 6), (.goto 5, oA 9)], 8),
  (139, [(.iload 7, oA 7)], 9),
  (141, [(.ireturn, o0)], 10)]
def C_M_together : List Nat := [3]
set_option maxRecDepth 100000 in
def B_M_wornNow : List Blk := [(0, [(.iconst 0, oC (vI 0)), (.istore_n 2, oA 2), (.iconst 0, oC (vI 0)), (.istore_n 3, oA 3)], 1),
  (4, [(.iload_n 3, oA 3), (.aload_n 0, o0), (.getfield 405, vN, 0, 1336, 36, 900012, [(0, 1420)]), (.if_icmp .ge 39, oA 4), (.iload_n 2, oA 2), (.aload_n 0, o0), (.iload_n 3, oA 3), (.invokevirtual 476, vN, 247, 2, 1, 900012, [(0, 1949)]), (.ifCond .eq 21, oA 2), (.aload_n 0, o0), (.getfield 82, vN, 1, 1339000120, 39, 900012, [(0, 1423)]), (.iload_n 3, oA 3), (.iaload, o0), (.iload_n 1, oA 1), (.if_icmp .ne 11, oA 2), (.aload_n 0, o0), (.iload_n 3, oA 3), (.invokevirtual 479, vN, 266, 2, 1, 900012, [(0, 1953)]), (.goto 4, oA 3)], 2),
  (39, [(.iconst 0, oC (vI 0))], 3),
  (40, [(.iadd, o0), (.istore_n 2, oA 2), (.iinc 3 1, vI 1, 3, 0, 0, 0, []), (.goto (-41), oA 1)], 4),
  (48, [(.iload_n 2, oA 2), (.ireturn, o0)], 5)]
def C_M_wornNow : List Nat := [1]
set_option maxRecDepth 100000 in
def B_M_worn : List Blk := [(0, [(.aload_n 0, o0), (.iload_n 1, oA 1), (.invokevirtual 448, vN, 242, 2, 1, 900012, [(0, 1845)]), (.ifCond .eq 20, oA 1), (.aload_n 0, o0), (.iload_n 2, oA 2), (.invokevirtual 467, vN, 244, 2, 1, 900012, [(0, 1940)]), (.ifCond .eq 12, oA 1), (.iload_n 3, oA 3), (.iconst 0, oC (vI 0)), (.iconst 1, oC (vI 1)), (.invokestatic 221, vN, 198, 3, 1, 0, [(0, 1686)]), (.ifCond .ne 5, oA 2)], 1),
  (25, [(.iconst (-1), oC (vI (-1))), (.ireturn, o0)], 2),
  (27, [(.aload_n 0, o0), (.iload_n 2, oA 2), (.invokevirtual 442, vN, 245, 2, 0, 900012, [(0, 1857)]), (.iload_n 3, oA 3), (.ifCond .ne 9, oA 3), (.aload_n 0, o0), (.iload_n 1, oA 1), (.invokevirtual 522, vN, 284, 2, 1, 900012, [(0, 2038)]), (.ireturn, o0)], 3),
  (42, [(.iconst 0, oC (vI 0)), (.istore 4, oA 4), (.iconst 0, oC (vI 0)), (.istore 5, oA 5)], 4),
  (48, [(.iload 5, oA 5), (.aload_n 0, o0), (.getfield 405, vN, 0, 1336, 36, 900012, [(0, 1420)]), (.if_icmp .ge 42, oA 7), (.iload 4, oA 4), (.aload_n 0, o0), (.iload 5, oA 5), (.invokevirtual 476, vN, 247, 2, 1, 900012, [(0, 1949)]), (.ifCond .eq 18, oA 5), (.aload_n 0, o0), (.getfield 82, vN, 1, 1339000120, 39, 900012, [(0, 1423)]), (.iload 5, oA 5), (.iaload, o0), (.iload_n 1, oA 1), (.if_icmp .ne 7, oA 5), (.iconst 1, oC (vI 1)), (.goto 4, oA 6)], 5),
  (83, [(.iconst 0, oC (vI 0))], 6),
  (84, [(.invokestatic 423, vN, 199, 1, 1, 0, [(0, 1888)]), (.iadd, o0), (.istore 4, oA 4), (.iinc 5 1, vI 1, 5, 0, 0, 0, []), (.goto (-45), oA 4)], 7),
  (96, [(.iload 4, oA 4), (.ireturn, o0)], 8)]
def C_M_worn : List Nat := [4]
set_option maxRecDepth 100000 in
def B_M_old : List Blk := [(0, [(.aload_n 0, o0), (.iload_n 1, oA 1), (.invokevirtual 448, vN, 242, 2, 1, 900012, [(0, 1845)]), (.ifCond .eq 11, oA 1), (.aload_n 0, o0), (.iload_n 2, oA 2), (.invokevirtual 467, vN, 244, 2, 1, 900012, [(0, 1940)]), (.ifCond .ne 5, oA 2)], 1),
  (16, [(.iconst (-1), oC (vI (-1))), (.ireturn, o0)], 2),
  (18, [(.aload_n 0, o0), (.iload_n 2, oA 2), (.invokevirtual 442, vN, 245, 2, 0, 900012, [(0, 1857)]), (.iconst 0, oC (vI 0)), (.istore_n 3, oA 3)], 3),
  (25, [(.iload_n 3, oA 3), (.aload_n 0, o0), (.getfield 402, vN, 0, 1335, 35, 900012, [(0, 1419)]), (.if_icmp .ge 85, oA 10), (.iconst 0, oC (vI 0)), (.istore 4, oA 4), (.iconst 0, oC (vI 0)), (.istore 5, oA 5)], 4),
  (39, [(.iload 5, oA 5), (.aload_n 0, o0), (.getfield 402, vN, 0, 1335, 35, 900012, [(0, 1419)]), (.if_icmp .ge 56, oA 8), (.iload 4, oA 4), (.aload_n 0, o0), (.iload 5, oA 5), (.invokevirtual 522, vN, 284, 2, 1, 900012, [(0, 2038)]), (.aload_n 0, o0), (.iload_n 3, oA 3), (.invokevirtual 522, vN, 284, 2, 1, 900012, [(0, 2038)]), (.if_icmp .gt 23, oA 5), (.aload_n 0, o0), (.iload 5, oA 5), (.invokevirtual 522, vN, 284, 2, 1, 900012, [(0, 2038)]), (.aload_n 0, o0), (.iload_n 3, oA 3), (.invokevirtual 522, vN, 284, 2, 1, 900012, [(0, 2038)]), (.if_icmp .ne 13, oA 6), (.iload 5, oA 5), (.iload_n 3, oA 3), (.if_icmp .ge 7, oA 6)], 5),
  (84, [(.iconst 1, oC (vI 1)), (.goto 4, oA 7)], 6),
  (88, [(.iconst 0, oC (vI 0))], 7),
  (89, [(.invokestatic 423, vN, 199, 1, 1, 0, [(0, 1888)]), (.iadd, o0), (.istore 4, oA 4), (.iinc 5 1, vI 1, 5, 0, 0, 0, []), (.goto (-59), oA 4)], 8),
  (101, [(.iload 4, oA 4), (.iload_n 1, oA 1), (.if_icmp .ne 5, oA 9), (.iload_n 3, oA 3), (.ireturn, o0)], 9),
  (109, [(.iinc 3 1, vI 1, 3, 0, 0, 0, []), (.goto (-87), oA 3)], 10),
  (115, [(.iconst (-1), oC (vI (-1))), (.ireturn, o0)], 11)]
def C_M_old : List Nat := [3, 4]
set_option maxRecDepth 100000 in
def B_M_doubt : List Blk := [(0, [(.iload_n 1, oA 1), (.iconst 0, oC (vI 0)), (.sipush 240, oC (vI 240)), (.invokestatic 221, vN, 198, 3, 1, 0, [(0, 1686)]), (.ifCond .eq 14, oA 1), (.iload_n 2, oA 2), (.iconst 0, oC (vI 0)), (.sipush 240, oC (vI 240)), (.invokestatic 221, vN, 198, 3, 1, 0, [(0, 1686)]), (.ifCond .ne 5, oA 2)], 1),
  (22, [(.iconst 0, oC (vI 0)), (.ireturn, oA 1)], 2),
  (24, [(.aload_n 0, o0), (.iload_n 1, oA 1), (.putfield 525, vN, 0, 1328, 28, 900012, [(0, 1412)]), (.aload_n 0, o0), (.iload_n 2, oA 2), (.putfield 528, vN, 0, 1329, 29, 900012, [(0, 1413)]), (.iconst 1, oC (vI 1)), (.ireturn, oA 1)], 3)]
def C_M_doubt : List Nat := []
set_option maxRecDepth 100000 in
def B_M_comes : List Blk := [(0, [(.iconst 0, oC (vI 0)), (.istore 4, oA 4), (.iconst 0, oC (vI 0)), (.istore 5, oA 5)], 1),
  (6, [(.iload 5, oA 5), (.aload_n 0, o0), (.getfield 405, vN, 0, 1336, 36, 900012, [(0, 1420)]), (.if_icmp .ge 55, oA 3), (.aload_n 0, o0), (.getfield 82, vN, 1, 1339000120, 39, 900012, [(0, 1423)]), (.iload 5, oA 5), (.iaload, o0), (.iload_n 1, oA 1), (.if_icmp .ne 38, oA 2), (.aload_n 0, o0), (.iload 5, oA 5), (.iload_n 2, oA 2), (.invokevirtual 417, vN, 248, 3, 1, 900012, [(0, 1869)]), (.ifCond .eq 28, oA 2), (.iconst 0, oC (vI 0)), (.aload_n 0, o0), (.getfield 88, vN, 1, 1341000120, 41, 900012, [(0, 1425)]), (.iload 5, oA 5), (.iaload, o0), (.aload_n 0, o0), (.getfield 91, vN, 1, 1342000120, 42, 900012, [(0, 1426)]), (.iload 5, oA 5), (.iaload, o0), (.iadd, o0), (.iload_n 3, oA 3), (.iadd, o0), (.iload_n 2, oA 2), (.isub, o0), (.invokestatic 482, vN, 336, 2, 1, 0, [(0, 1969)]), (.istore 4, oA 4)], 2),
  (61, [(.iinc 5 1, vI 1, 5, 0, 0, 0, []), (.goto (-58), oA 1)], 3),
  (67, [(.iload 4, oA 4), (.ireturn, o0)], 4)]
def C_M_comes : List Nat := [1]
set_option maxRecDepth 100000 in
def B_M_queue : List Blk := [(0, [(.iload_n 1, oA 1), (.invokestatic 399, vN, 204, 1, 1, 0, [(0, 1838)]), (.ifCond .eq 25, oA 1), (.iload_n 3, oA 3), (.invokestatic 451, vN, 203, 1, 1, 0, [(0, 1849)]), (.ifCond .eq 18, oA 1), (.iload 4, oA 4), (.iconst 0, oC (vI 0)), (.iconst 1, oC (vI 1)), (.invokestatic 221, vN, 198, 3, 1, 0, [(0, 1686)]), (.ifCond .eq 8, oA 1), (.iload_n 2, oA 2), (.iconst 1, oC (vI 1)), (.if_icmp .ge 5, oA 2)], 1),
  (29, [(.iconst (-1), oC (vI (-1))), (.ireturn, o0)], 2),
  (31, [(.aload_n 0, o0), (.aload_n 0, o0), (.getfield 408, vN, 0, 1337, 37, 900012, [(0, 1421)]), (.invokevirtual 442, vN, 245, 2, 0, 900012, [(0, 1857)]), (.iload 4, oA 4), (.ifCond .ne 11, oA 3), (.aload_n 0, o0), (.getfield 525, vN, 0, 1328, 28, 900012, [(0, 1412)]), (.ineg, o0), (.goto 7, oA 4)], 3),
  (52, [(.aload_n 0, o0), (.getfield 528, vN, 0, 1329, 29, 900012, [(0, 1413)])], 4),
  (56, [(.istore 5, oA 5), (.iconst 0, oC (vI 0)), (.istore 6, oA 6)], 5),
  (61, [(.iload 6, oA 6), (.aload_n 0, o0), (.getfield 402, vN, 0, 1335, 35, 900012, [(0, 1419)]), (.if_icmp .ge 125, oA 15), (.aload_n 0, o0), (.getfield 79, vN, 1, 1338000020, 38, 900012, [(0, 1422)]), (.iload 6, oA 6), (.iaload, o0), (.iload_n 1, oA 1), (.if_icmp .eq 6, oA 6), (.goto 105, oA 14)], 6),
  (84, [(.aload_n 0, o0), (.iload 6, oA 6), (.iload_n 3, oA 3), (.iload 5, oA 5), (.invokevirtual 531, vN, 288, 4, 1, 900012, [(0, 2054)]), (.istore 7, oA 7), (.iconst 0, oC (vI 0)), (.istore 8, oA 8), (.iconst 0, oC (vI 0)), (.istore 9, oA 9)], 7),
  (101, [(.iload 9, oA 9), (.aload_n 0, o0), (.getfield 402, vN, 0, 1335, 35, 900012, [(0, 1419)]), (.if_icmp .ge 68, oA 13), (.aload_n 0, o0), (.getfield 79, vN, 1, 1338000020, 38, 900012, [(0, 1422)]), (.iload 9, oA 9), (.iaload, o0), (.iload_n 1, oA 1), (.if_icmp .eq 6, oA 8), (.goto 48, oA 12)], 8),
  (124, [(.aload_n 0, o0), (.iload 9, oA 9), (.iload_n 3, oA 3), (.iload 5, oA 5), (.invokevirtual 531, vN, 288, 4, 1, 900012, [(0, 2054)]), (.istore 10, oA 10), (.iload 8, oA 8), (.iload 10, oA 10), (.iload 7, oA 7), (.if_icmp .lt 17, oA 9), (.iload 10, oA 10), (.iload 7, oA 7), (.if_icmp .ne 14, oA 10), (.iload 9, oA 9), (.iload 6, oA 6), (.if_icmp .ge 7, oA 10)], 9),
  (158, [(.iconst 1, oC (vI 1)), (.goto 4, oA 11)], 10),
  (162, [(.iconst 0, oC (vI 0))], 11),
  (163, [(.invokestatic 423, vN, 199, 1, 1, 0, [(0, 1888)]), (.iadd, o0), (.istore 8, oA 8)], 12),
  (169, [(.iinc 9 1, vI 1, 9, 0, 0, 0, []), (.goto (-71), oA 7)], 13),
  (175, [(.iload 8, oA 8), (.iload_n 2, oA 2), (.iconst 1, oC (vI 1)), (.isub, o0), (.if_icmp .ne 6, oA 14), (.iload 7, oA 7), (.ireturn, o0)], 14),
  (186, [(.iinc 6 1, vI 1, 6, 0, 0, 0, []), (.goto (-128), oA 5)], 15),
  (192, [(.iconst (-1), oC (vI (-1))), (.ireturn, o0)], 16)]
def C_M_queue : List Nat := [5, 7]
set_option maxRecDepth 100000 in
def B_M_chance : List Blk := [(0, [(.iload_n 1, oA 1), (.iconst 0, oC (vI 0)), (.bipush 11, oC (vI 11)), (.invokestatic 221, vN, 198, 3, 1, 0, [(0, 1686)]), (.ifCond .eq 22, oA 1), (.iload_n 2, oA 2), (.iconst 0, oC (vI 0)), (.iconst 5, oC (vI 5)), (.invokestatic 221, vN, 198, 3, 1, 0, [(0, 1686)]), (.ifCond .eq 13, oA 1), (.iload_n 3, oA 3), (.iconst 0, oC (vI 0)), (.bipush 10, oC (vI 10)), (.invokestatic 221, vN, 198, 3, 1, 0, [(0, 1686)]), (.ifCond .ne 5, oA 2)], 1),
  (29, [(.iconst 0, oC (vI 0)), (.ireturn, oA 1)], 2),
  (31, [(.aload_n 0, o0), (.getfield 133, vN, 1, 1357000072, 57, 900012, [(0, 1441)]), (.bipush 6, oC (vI 6)), (.iload_n 1, oA 1), (.imul, o0), (.iload_n 2, oA 2), (.iadd, o0), (.iload_n 3, oA 3), (.iastore, o0), (.iconst 1, oC (vI 1)), (.ireturn, oA 1)], 3)]
def C_M_chance : List Nat := []
set_option maxRecDepth 100000 in
def B_M_areWhole : List Blk := [(0, [(.iconst 1, oC (vI 1)), (.istore_n 1, oA 1), (.iconst 0, oC (vI 0)), (.istore_n 2, oA 2)], 1),
  (4, [(.iload_n 2, oA 2), (.bipush 12, oC (vI 12)), (.if_icmp .ge 58, oA 6), (.iconst 0, oC (vI 0)), (.istore_n 3, oA 3), (.iconst 0, oC (vI 0)), (.istore 4, oA 4)], 2),
  (15, [(.iload 4, oA 4), (.bipush 6, oC (vI 6)), (.if_icmp .ge 24, oA 3), (.iload_n 3, oA 3), (.aload_n 0, o0), (.getfield 133, vN, 1, 1357000072, 57, 900012, [(0, 1441)]), (.bipush 6, oC (vI 6)), (.iload_n 2, oA 2), (.imul, o0), (.iload 4, oA 4), (.iadd, o0), (.iaload, o0), (.iadd, o0), (.istore_n 3, oA 3), (.iinc 4 1, vI 1, 4, 0, 0, 0, []), (.goto (-25), oA 2)], 3),
  (43, [(.iload_n 1, oA 1), (.ifCond .eq 13, oA 4), (.iload_n 3, oA 3), (.bipush 10, oC (vI 10)), (.if_icmp .ne 7, oA 4), (.iconst 1, oC (vI 1)), (.goto 4, oA 5)], 4),
  (57, [(.iconst 0, oC (vI 0))], 5),
  (58, [(.istore_n 1, oA 1), (.iinc 2 1, vI 1, 2, 0, 0, 0, []), (.goto (-58), oA 1)], 6),
  (65, [(.iload_n 1, oA 1), (.ireturn, oA 1)], 7)]
def C_M_areWhole : List Nat := [1, 2]
set_option maxRecDepth 100000 in
def B_M_served : List Blk := [(0, [(.iconst 0, oC (vI 0)), (.istore_n 3, oA 3)], 1),
  (2, [(.iload_n 3, oA 3), (.bipush 36, oC (vI 36)), (.if_icmp .ge 24, oA 4), (.aload_n 0, o0), (.getfield 136, vN, 1, 1358300036, 58, 900012, [(0, 1442)]), (.iload_n 3, oA 3), (.iload_n 3, oA 3), (.ifCond .ne 7, oA 2), (.lconst 1, oC (vL 1)), (.goto 4, oA 3)], 2),
  (21, [(.lconst 0, oC (vL 0))], 3),
  (22, [(.lastore, o0), (.iinc 3 1, vI 1, 3, 0, 0, 0, []), (.goto (-24), oA 1)], 4),
  (29, [(.lconst 0, oC (vL 0)), (.lstore_n 3, oA 3), (.ldc2_w 534, vL 1000000000000, 0, 0, 0, 0, [(0, 2075)]), (.lstore 5, oA 5), (.iconst 0, oC (vI 0)), (.istore 7, oA 7)], 5),
  (39, [(.iload 7, oA 7), (.bipush 12, oC (vI 12)), (.if_icmp .ge 237, oA 20), (.lload 5, oA 5), (.ldc2_w 536, vL 10, 0, 0, 0, 0, [(0, 2076)]), (.ldiv, o0), (.lstore 5, oA 5), (.iconst 0, oC (vI 0)), (.istore 8, oA 8)], 6),
  (57, [(.iload 8, oA 8), (.bipush 36, oC (vI 36)), (.if_icmp .ge 17, oA 7), (.aload_n 0, o0), (.getfield 140, vN, 1, 1359300036, 59, 900012, [(0, 1443)]), (.iload 8, oA 8), (.lconst 0, oC (vL 0)), (.lastore, o0), (.iinc 8 1, vI 1, 8, 0, 0, 0, []), (.goto (-18), oA 6)], 7),
  (78, [(.iconst 0, oC (vI 0)), (.istore 8, oA 8)], 8),
  (81, [(.iload 8, oA 8), (.bipush 6, oC (vI 6)), (.if_icmp .ge 159, oA 17), (.iconst 0, oC (vI 0)), (.istore 9, oA 9)], 9),
  (91, [(.iload 9, oA 9), (.bipush 6, oC (vI 6)), (.if_icmp .ge 143, oA 16), (.aload_n 0, o0), (.getfield 136, vN, 1, 1358300036, 58, 900012, [(0, 1442)]), (.bipush 6, oC (vI 6)), (.iload 8, oA 8), (.imul, o0), (.iload 9, oA 9), (.iadd, o0), (.laload, o0), (.lstore 10, oA 10), (.iload_n 1, oA 1), (.iload_n 2, oA 2), (.iconst 1, oC (vI 1)), (.if_icmp .le 8, oA 10), (.iload 8, oA 8), (.goto 4, oA 11)], 10),
  (124, [(.iconst 0, oC (vI 0))], 11),
  (125, [(.isub, o0), (.iload_n 2, oA 2), (.iconst 2, oC (vI 2)), (.if_icmp .le 8, oA 12), (.iload 9, oA 9), (.goto 4, oA 13)], 12),
  (136, [(.iconst 0, oC (vI 0))], 13),
  (137, [(.isub, o0), (.istore 12, oA 12), (.iconst 0, oC (vI 0)), (.istore 13, oA 13)], 14),
  (143, [(.iload 13, oA 13), (.bipush 6, oC (vI 6)), (.if_icmp .ge 85, oA 15), (.lload 10, oA 10), (.lconst 0, oC (vL 0)), (.lcmp, o0), (.ifCond .le 78, oA 15), (.iload 13, oA 13), (.iload 12, oA 12), (.invokestatic 394, vN, 337, 2, 1, 0, [(0, 1895)]), (.istore 14, oA 14), (.lload_n 3, oA 3), (.lload 10, oA 10), (.aload_n 0, o0), (.getfield 133, vN, 1, 1357000072, 57, 900012, [(0, 1441)]), (.bipush 6, oC (vI 6)), (.iload 7, oA 7), (.imul, o0), (.iload 13, oA 13), (.iadd, o0), (.iaload, o0), (.i2l, o0), (.lmul, o0), (.iload 14, oA 14), (.i2l, o0), (.lmul, o0), (.lload 5, oA 5), (.lmul, o0), (.ladd, o0), (.lstore_n 3, oA 3), (.aload_n 0, o0), (.getfield 140, vN, 1, 1359300036, 59, 900012, [(0, 1443)]), (.bipush 6, oC (vI 6)), (.iload 14, oA 14), (.imul, o0), (.iload 8, oA 8), (.iadd, o0), (.dup2, o0), (.laload, o0), (.lload 10, oA 10), (.aload_n 0, o0), (.getfield 133, vN, 1, 1357000072, 57, 900012, [(0, 1441)]), (.bipush 6, oC (vI 6)), (.iload 7, oA 7), (.imul, o0), (.iload 13, oA 13), (.iadd, o0), (.iaload, o0), (.i2l, o0), (.lmul, o0), (.ladd, o0), (.lastore, o0), (.iinc 13 1, vI 1, 13, 0, 0, 0, []), (.goto (-86), oA 14)], 15),
  (232, [(.iinc 9 1, vI 1, 9, 0, 0, 0, []), (.goto (-144), oA 9)], 16),
  (238, [(.iinc 8 1, vI 1, 8, 0, 0, 0, []), (.goto (-160), oA 8)], 17),
  (244, [(.iconst 0, oC (vI 0)), (.istore 8, oA 8)], 18),
  (247, [(.iload 8, oA 8), (.bipush 36, oC (vI 36)), (.if_icmp .ge 23, oA 19), (.aload_n 0, o0), (.getfield 136, vN, 1, 1358300036, 58, 900012, [(0, 1442)]), (.iload 8, oA 8), (.aload_n 0, o0), (.getfield 140, vN, 1, 1359300036, 59, 900012, [(0, 1443)]), (.iload 8, oA 8), (.laload, o0), (.lastore, o0), (.iinc 8 1, vI 1, 8, 0, 0, 0, []), (.goto (-24), oA 18)], 19),
  (274, [(.iinc 7 1, vI 1, 7, 0, 0, 0, []), (.goto (-238), oA 5)], 20),
  (280, [(.lload_n 3, oA 3), (.lreturn, o0)], 21)]
def C_M_served : List Nat := [1, 5, 6, 8, 9, 14, 18]
set_option maxRecDepth 100000 in
def B_M_wantedNow : List Blk := [(0, [(.iconst 0, oC (vI 0)), (.istore_n 1, oA 1), (.iconst 0, oC (vI 0)), (.istore_n 2, oA 2)], 1),
  (4, [(.iload_n 2, oA 2), (.bipush 12, oC (vI 12)), (.if_icmp .ge 39, oA 4), (.iconst 0, oC (vI 0)), (.istore_n 3, oA 3)], 2),
  (12, [(.iload_n 3, oA 3), (.bipush 6, oC (vI 6)), (.if_icmp .ge 25, oA 3), (.iload_n 1, oA 1), (.iload_n 3, oA 3), (.aload_n 0, o0), (.getfield 133, vN, 1, 1357000072, 57, 900012, [(0, 1441)]), (.bipush 6, oC (vI 6)), (.iload_n 2, oA 2), (.imul, o0), (.iload_n 3, oA 3), (.iadd, o0), (.iaload, o0), (.imul, o0), (.iadd, o0), (.istore_n 1, oA 1), (.iinc 3 1, vI 1, 3, 0, 0, 0, []), (.goto (-25), oA 2)], 3),
  (40, [(.iinc 2 1, vI 1, 2, 0, 0, 0, []), (.goto (-39), oA 1)], 4),
  (46, [(.iload_n 1, oA 1), (.ireturn, o0)], 5)]
def C_M_wantedNow : List Nat := [1, 2]
set_option maxRecDepth 100000 in
def B_M_divisor : List Blk := [(0, [(.lload_n 0, o0), (.invokestatic 538, vN, 335, 1, 2, 0, [(0, 2084)]), (.lstore 4, oA 4), (.lload_n 2, oA 2), (.invokestatic 538, vN, 335, 1, 2, 0, [(0, 2084)]), (.lstore 6, oA 6)], 1),
  (12, [(.lload 6, oA 6), (.lconst 0, oC (vL 0)), (.lcmp, o0), (.ifCond .le 21, oA 2), (.lload 4, oA 4), (.lload 6, oA 6), (.lrem, o0), (.lstore 8, oA 8), (.lload 6, oA 6), (.lstore 4, oA 4), (.lload 8, oA 8), (.lstore 6, oA 6), (.goto (-22), oA 1)], 2),
  (37, [(.lload 4, oA 4), (.lreturn, o0)], 3)]
def C_M_divisor : List Nat := [1]
set_option maxRecDepth 100000 in
def B_M_keep : List Blk := [(0, [(.iload_n 1, oA 1), (.iconst 0, oC (vI 0)), (.bipush 12, oC (vI 12)), (.invokestatic 221, vN, 198, 3, 1, 0, [(0, 1686)]), (.ifCond .eq 28, oA 1), (.iload_n 2, oA 2), (.iconst 1, oC (vI 1)), (.iconst 3, oC (vI 3)), (.invokestatic 221, vN, 198, 3, 1, 0, [(0, 1686)]), (.ifCond .eq 19, oA 1), (.iload_n 3, oA 3), (.iconst 0, oC (vI 0)), (.iconst 3, oC (vI 3)), (.invokestatic 221, vN, 198, 3, 1, 0, [(0, 1686)]), (.ifCond .eq 10, oA 1), (.aload_n 0, o0), (.invokevirtual 542, vN, 291, 1, 1, 900012, [(0, 2066)]), (.ifCond .ne 7, oA 2)], 1),
  (35, [(.ldc2_w 545, vL (-1), 0, 0, 0, 0, [(0, 2070)]), (.lreturn, o0)], 2),
  (39, [(.iload_n 3, oA 3), (.iconst 2, oC (vI 2)), (.if_icmp .ge 12, oA 3), (.aload_n 0, o0), (.iload_n 1, oA 1), (.iload_n 2, oA 2), (.invokevirtual 547, vN, 292, 3, 2, 900012, [(0, 2071)]), (.goto 8, oA 4)], 3),
  (53, [(.aload_n 0, o0), (.invokevirtual 551, vN, 293, 1, 1, 900012, [(0, 2077)]), (.i2l, o0)], 4),
  (58, [(.lstore 4, oA 4), (.iload_n 3, oA 3), (.iconst 2, oC (vI 2)), (.if_icmp .ge 9, oA 5), (.ldc2_w 534, vL 1000000000000, 0, 0, 0, 0, [(0, 2075)]), (.goto 6, oA 6)], 5),
  (71, [(.ldc2_w 536, vL 10, 0, 0, 0, 0, [(0, 2076)])], 6),
  (74, [(.lstore 6, oA 6), (.iload_n 3, oA 3), (.iconst 2, oC (vI 2)), (.irem, o0), (.ifCond .ne 8, oA 7), (.lload 4, oA 4), (.goto 5, oA 8)], 7),
  (87, [(.lload 6, oA 6)], 8),
  (89, [(.lload 4, oA 4), (.lload 6, oA 6), (.invokestatic 555, vN, 294, 2, 2, 0, [(0, 2081)]), (.ldiv, o0), (.lreturn, o0)], 9)]
def C_M_keep : List Nat := [6]
set_option maxRecDepth 100000 in
def B_M_least : List Blk := [(0, [(.iload_n 1, oA 1), (.iconst 1, oC (vI 1)), (.iconst 3, oC (vI 3)), (.invokestatic 221, vN, 198, 3, 1, 0, [(0, 1686)]), (.ifCond .eq 20, oA 1), (.iload_n 2, oA 2), (.iconst 0, oC (vI 0)), (.bipush 100, oC (vI 100)), (.invokestatic 221, vN, 198, 3, 1, 0, [(0, 1686)]), (.ifCond .eq 10, oA 1), (.aload_n 0, o0), (.invokevirtual 542, vN, 291, 1, 1, 900012, [(0, 2066)]), (.ifCond .ne 5, oA 2)], 1),
  (26, [(.iconst (-1), oC (vI (-1))), (.ireturn, o0)], 2),
  (28, [(.iconst 0, oC (vI 0)), (.istore_n 3, oA 3)], 3),
  (30, [(.iload_n 3, oA 3), (.bipush 12, oC (vI 12)), (.if_icmp .gt 33, oA 5), (.aload_n 0, o0), (.iload_n 3, oA 3), (.iload_n 1, oA 1), (.invokevirtual 547, vN, 292, 3, 2, 900012, [(0, 2071)]), (.ldc2_w 559, vL 1000000000, 0, 0, 0, 0, [(0, 2091)]), (.iload_n 2, oA 2), (.i2l, o0), (.lmul, o0), (.aload_n 0, o0), (.invokevirtual 551, vN, 293, 1, 1, 900012, [(0, 2077)]), (.i2l, o0), (.lmul, o0), (.lcmp, o0), (.ifCond .lt 5, oA 4), (.iload_n 3, oA 3), (.ireturn, o0)], 4),
  (60, [(.iinc 3 1, vI 1, 3, 0, 0, 0, []), (.goto (-33), oA 3)], 5),
  (66, [(.iconst (-1), oC (vI (-1))), (.ireturn, o0)], 6)]
def C_M_least : List Nat := [3]
set_option maxRecDepth 100000 in
def B_M_mean : List Blk := [(0, [(.iconst 0, oC (vI 0)), (.istore 5, oA 5), (.iconst 0, oC (vI 0)), (.istore 6, oA 6)], 1),
  (6, [(.iload 6, oA 6), (.bipush 6, oC (vI 6)), (.if_icmp .ge 80, oA 4), (.iconst 0, oC (vI 0)), (.istore 7, oA 7)], 2),
  (16, [(.iload 7, oA 7), (.bipush 6, oC (vI 6)), (.if_icmp .ge 64, oA 3), (.iload 6, oA 6), (.iload_n 1, oA 1), (.iload 4, oA 4), (.isub, o0), (.invokestatic 394, vN, 337, 2, 1, 0, [(0, 1895)]), (.istore 8, oA 8), (.iload 7, oA 7), (.iload_n 1, oA 1), (.iload 8, oA 8), (.isub, o0), (.invokestatic 394, vN, 337, 2, 1, 0, [(0, 1895)]), (.istore 9, oA 9), (.iload 5, oA 5), (.aload_n 0, o0), (.getfield 133, vN, 1, 1357000072, 57, 900012, [(0, 1441)]), (.iload 6, oA 6), (.iaload, o0), (.aload_n 0, o0), (.getfield 133, vN, 1, 1357000072, 57, 900012, [(0, 1441)]), (.bipush 6, oC (vI 6)), (.iload 7, oA 7), (.iadd, o0), (.iaload, o0), (.imul, o0), (.iload 8, oA 8), (.iload_n 2, oA 2), (.imul, o0), (.iload 9, oA 9), (.iload_n 3, oA 3), (.imul, o0), (.iadd, o0), (.imul, o0), (.iadd, o0), (.istore 5, oA 5), (.iinc 7 1, vI 1, 7, 0, 0, 0, []), (.goto (-65), oA 2)], 3),
  (84, [(.iinc 6 1, vI 1, 6, 0, 0, 0, []), (.goto (-81), oA 1)], 4),
  (90, [(.iload 5, oA 5), (.ireturn, o0)], 5)]
def C_M_mean : List Nat := [1, 2]
set_option maxRecDepth 100000 in
def B_M_protect : List Blk := [(0, [(.iload_n 1, oA 1), (.iconst 0, oC (vI 0)), (.bipush 12, oC (vI 12)), (.invokestatic 221, vN, 198, 3, 1, 0, [(0, 1686)]), (.ifCond .eq 42, oA 1), (.iload_n 2, oA 2), (.iconst 0, oC (vI 0)), (.sipush 999, oC (vI 999)), (.invokestatic 221, vN, 198, 3, 1, 0, [(0, 1686)]), (.ifCond .eq 31, oA 1), (.iload_n 3, oA 3), (.iconst 0, oC (vI 0)), (.sipush 999, oC (vI 999)), (.invokestatic 221, vN, 198, 3, 1, 0, [(0, 1686)]), (.ifCond .eq 20, oA 1), (.iload 4, oA 4), (.iconst 0, oC (vI 0)), (.iconst 1, oC (vI 1)), (.invokestatic 221, vN, 198, 3, 1, 0, [(0, 1686)]), (.ifCond .eq 10, oA 1), (.aload_n 0, o0), (.invokevirtual 542, vN, 291, 1, 1, 900012, [(0, 2066)]), (.ifCond .ne 5, oA 2)], 1),
  (49, [(.iconst (-1), oC (vI (-1))), (.ireturn, o0)], 2),
  (51, [(.iconst 0, oC (vI 0)), (.istore 5, oA 5), (.iconst 1, oC (vI 1)), (.istore 6, oA 6)], 3),
  (57, [(.iload 6, oA 6), (.iload_n 1, oA 1), (.if_icmp .gt 34, oA 5), (.aload_n 0, o0), (.iload_n 1, oA 1), (.iload_n 2, oA 2), (.iload_n 3, oA 3), (.iload 6, oA 6), (.invokevirtual 561, vN, 297, 5, 1, 900012, [(0, 2096)]), (.aload_n 0, o0), (.iload_n 1, oA 1), (.iload_n 2, oA 2), (.iload_n 3, oA 3), (.iload 5, oA 5), (.invokevirtual 561, vN, 297, 5, 1, 900012, [(0, 2096)]), (.if_icmp .le 7, oA 4), (.iload 6, oA 6), (.istore 5, oA 5)], 4),
  (88, [(.iinc 6 1, vI 1, 6, 0, 0, 0, []), (.goto (-34), oA 3)], 5),
  (94, [(.iload 4, oA 4), (.ifCond .ne 8, oA 6), (.iload 5, oA 5), (.goto 12, oA 7)], 6),
  (104, [(.aload_n 0, o0), (.iload_n 1, oA 1), (.iload_n 2, oA 2), (.iload_n 3, oA 3), (.iload 5, oA 5), (.invokevirtual 561, vN, 297, 5, 1, 900012, [(0, 2096)])], 7),
  (113, [(.ireturn, o0)], 8)]
def C_M_protect : List Nat := [3]
set_option maxRecDepth 100000 in
def B_M_roll : List Blk := [(0, [(.iload_n 1, oA 1), (.iconst 0, oC (vI 0)), (.sipush 719, oC (vI 719)), (.invokestatic 221, vN, 198, 3, 1, 0, [(0, 1686)]), (.ifCond .eq 22, oA 1), (.iload_n 2, oA 2), (.iconst 1, oC (vI 1)), (.bipush 99, oC (vI 99)), (.invokestatic 221, vN, 198, 3, 1, 0, [(0, 1686)]), (.ifCond .eq 12, oA 1), (.aload_n 0, o0), (.getfield 564, vN, 0, 1360, 60, 900012, [(0, 1444)]), (.bipush 7, oC (vI 7)), (.if_icmp .ne 5, oA 2)], 1),
  (30, [(.iconst (-1), oC (vI (-1))), (.ireturn, o0)], 2),
  (32, [(.aload_n 0, o0), (.getfield 143, vN, 1, 1362000007, 62, 900012, [(0, 1446)]), (.aload_n 0, o0), (.getfield 564, vN, 0, 1360, 60, 900012, [(0, 1444)]), (.iload_n 1, oA 1), (.iastore, o0), (.aload_n 0, o0), (.getfield 146, vN, 1, 1363000007, 63, 900012, [(0, 1447)]), (.aload_n 0, o0), (.getfield 564, vN, 0, 1360, 60, 900012, [(0, 1444)]), (.iload_n 2, oA 2), (.iastore, o0), (.aload_n 0, o0), (.dup, o0), (.getfield 564, vN, 0, 1360, 60, 900012, [(0, 1444)]), (.iconst 1, oC (vI 1)), (.iadd, o0), (.putfield 564, vN, 0, 1360, 60, 900012, [(0, 1444)]), (.aload_n 0, o0), (.getfield 564, vN, 0, 1360, 60, 900012, [(0, 1444)]), (.ireturn, o0)], 3)]
def C_M_roll : List Nat := []
set_option maxRecDepth 100000 in
def B_M_orders : List Blk := [(0, [(.iload_n 1, oA 1), (.istore_n 3, oA 3), (.iload_n 2, oA 2), (.istore 4, oA 4), (.iconst 1, oC (vI 1)), (.aload_n 0, o0), (.getfield 564, vN, 0, 1360, 60, 900012, [(0, 1444)]), (.ishl, o0), (.iconst 1, oC (vI 1)), (.isub, o0), (.istore 5, oA 5), (.iconst 0, oC (vI 0)), (.istore 6, oA 6)], 1),
  (18, [(.iload 6, oA 6), (.aload_n 0, o0), (.getfield 564, vN, 0, 1360, 60, 900012, [(0, 1444)]), (.if_icmp .ge 91, oA 5), (.iload 4, oA 4), (.aload_n 0, o0), (.getfield 564, vN, 0, 1360, 60, 900012, [(0, 1444)]), (.iload 6, oA 6), (.isub, o0), (.idiv, o0), (.istore 4, oA 4), (.iload_n 3, oA 3), (.iload 4, oA 4), (.idiv, o0), (.istore 7, oA 7), (.iload_n 3, oA 3), (.iload 4, oA 4), (.irem, o0), (.istore_n 3, oA 3), (.iconst 0, oC (vI 0)), (.istore 8, oA 8)], 2),
  (53, [(.iload 5, oA 5), (.iload 8, oA 8), (.invokestatic 567, vN, 200, 2, 1, 0, [(0, 2113)]), (.ifCond .eq 8, oA 3), (.iload 7, oA 7), (.ifCond .le 24, oA 4)], 3),
  (68, [(.iload 7, oA 7), (.iload 5, oA 5), (.iload 8, oA 8), (.invokestatic 567, vN, 200, 2, 1, 0, [(0, 2113)]), (.invokestatic 423, vN, 199, 1, 1, 0, [(0, 1888)]), (.isub, o0), (.istore 7, oA 7), (.iinc 8 1, vI 1, 8, 0, 0, 0, []), (.goto (-33), oA 2)], 4),
  (89, [(.iload 5, oA 5), (.iconst 1, oC (vI 1)), (.iload 8, oA 8), (.ishl, o0), (.iconst (-1), oC (vI (-1))), (.ixor, o0), (.iand, o0), (.istore 5, oA 5), (.aload_n 0, o0), (.getfield 149, vN, 1, 1364000007, 64, 900012, [(0, 1448)]), (.iload 6, oA 6), (.iload 8, oA 8), (.iastore, o0), (.iinc 6 1, vI 1, 6, 0, 0, 0, []), (.goto (-94), oA 1)], 5),
  (115, [(.return_, o0)], 6)]
def C_M_orders : List Nat := [1, 2]
set_option maxRecDepth 100000 in
def B_M_waits : List Blk := [(0, [(.iconst 0, oC (vI 0)), (.istore_n 1, oA 1), (.iconst 0, oC (vI 0)), (.istore_n 2, oA 2), (.iconst 0, oC (vI 0)), (.istore_n 3, oA 3)], 1),
  (6, [(.iload_n 3, oA 3), (.aload_n 0, o0), (.getfield 564, vN, 0, 1360, 60, 900012, [(0, 1444)]), (.if_icmp .ge 58, oA 2), (.iload_n 1, oA 1), (.aload_n 0, o0), (.getfield 143, vN, 1, 1362000007, 62, 900012, [(0, 1446)]), (.aload_n 0, o0), (.getfield 149, vN, 1, 1364000007, 64, 900012, [(0, 1448)]), (.iload_n 3, oA 3), (.iaload, o0), (.iaload, o0), (.invokestatic 482, vN, 336, 2, 1, 0, [(0, 1969)]), (.istore 4, oA 4), (.iload_n 2, oA 2), (.iload 4, oA 4), (.aload_n 0, o0), (.getfield 143, vN, 1, 1362000007, 62, 900012, [(0, 1446)]), (.aload_n 0, o0), (.getfield 149, vN, 1, 1364000007, 64, 900012, [(0, 1448)]), (.iload_n 3, oA 3), (.iaload, o0), (.iaload, o0), (.isub, o0), (.iadd, o0), (.istore_n 2, oA 2), (.iload 4, oA 4), (.aload_n 0, o0), (.getfield 146, vN, 1, 1363000007, 63, 900012, [(0, 1447)]), (.aload_n 0, o0), (.getfield 149, vN, 1, 1364000007, 64, 900012, [(0, 1448)]), (.iload_n 3, oA 3), (.iaload, o0), (.iaload, o0), (.iadd, o0), (.istore_n 1, oA 1), (.iinc 3 1, vI 1, 3, 0, 0, 0, []), (.goto (-60), oA 1)], 2),
  (69, [(.iload_n 2, oA 2), (.ireturn, o0)], 3)]
def C_M_waits : List Nat := [1]
set_option maxRecDepth 100000 in
def B_M_rolled : List Blk := [(0, [(.iload_n 1, oA 1), (.ifCond .eq 21, oA 1), (.iload_n 1, oA 1), (.bipush 10, oC (vI 10)), (.bipush 9, oC (vI 9)), (.aload_n 0, o0), (.getfield 564, vN, 0, 1360, 60, 900012, [(0, 1444)]), (.iadd, o0), (.invokestatic 221, vN, 198, 3, 1, 0, [(0, 1686)]), (.ifCond .ne 5, oA 1), (.iconst (-1), oC (vI (-1))), (.ireturn, o0)], 1),
  (22, [(.iconst 1, oC (vI 1)), (.istore_n 2, oA 2), (.iconst 2, oC (vI 2)), (.istore_n 3, oA 3)], 2),
  (26, [(.iload_n 3, oA 3), (.aload_n 0, o0), (.getfield 564, vN, 0, 1360, 60, 900012, [(0, 1444)]), (.if_icmp .gt 13, oA 3), (.iload_n 2, oA 2), (.iload_n 3, oA 3), (.imul, o0), (.istore_n 2, oA 2), (.iinc 3 1, vI 1, 3, 0, 0, 0, []), (.goto (-15), oA 2)], 3),
  (44, [(.aload_n 0, o0), (.ldc_w 570, vI 1000000000, 0, 0, 0, 0, [(0, 2108)]), (.putfield 571, vN, 0, 1361, 61, 900012, [(0, 1445)]), (.iconst 0, oC (vI 0)), (.istore_n 3, oA 3)], 4),
  (53, [(.iload_n 3, oA 3), (.iload_n 2, oA 2), (.if_icmp .ge 71, oA 8), (.aload_n 0, o0), (.iload_n 3, oA 3), (.iload_n 2, oA 2), (.invokevirtual 574, vN, 300, 3, 0, 900012, [(0, 2109)]), (.aload_n 0, o0), (.invokevirtual 577, vN, 301, 1, 1, 900012, [(0, 2116)]), (.istore 4, oA 4), (.iload 4, oA 4), (.aload_n 0, o0), (.getfield 571, vN, 0, 1361, 61, 900012, [(0, 1445)]), (.if_icmp .lt 6, oA 5), (.goto 41, oA 7)], 5),
  (82, [(.aload_n 0, o0), (.iload 4, oA 4), (.putfield 571, vN, 0, 1361, 61, 900012, [(0, 1445)]), (.iconst 0, oC (vI 0)), (.istore 5, oA 5)], 6),
  (91, [(.iload 5, oA 5), (.aload_n 0, o0), (.getfield 564, vN, 0, 1360, 60, 900012, [(0, 1444)]), (.if_icmp .ge 23, oA 7), (.aload_n 0, o0), (.getfield 152, vN, 1, 1365000007, 65, 900012, [(0, 1449)]), (.iload 5, oA 5), (.aload_n 0, o0), (.getfield 149, vN, 1, 1364000007, 64, 900012, [(0, 1448)]), (.iload 5, oA 5), (.iaload, o0), (.iastore, o0), (.iinc 5 1, vI 1, 5, 0, 0, 0, []), (.goto (-26), oA 6)], 7),
  (120, [(.iinc 3 1, vI 1, 3, 0, 0, 0, []), (.goto (-70), oA 4)], 8),
  (126, [(.iload_n 1, oA 1), (.ifCond .ne 10, oA 9), (.aload_n 0, o0), (.getfield 571, vN, 0, 1361, 61, 900012, [(0, 1445)]), (.goto 12, oA 10)], 9),
  (137, [(.aload_n 0, o0), (.getfield 152, vN, 1, 1365000007, 65, 900012, [(0, 1449)]), (.iload_n 1, oA 1), (.bipush 10, oC (vI 10)), (.isub, o0), (.iaload, o0)], 10),
  (146, [(.ireturn, o0)], 11)]
def C_M_rolled : List Nat := [2, 4, 6]
set_option maxRecDepth 100000 in
def B_M_guide : List Blk := [(0, [(.iload_n 1, oA 1), (.iconst 0, oC (vI 0)), (.sipush 255, oC (vI 255)), (.invokestatic 221, vN, 198, 3, 1, 0, [(0, 1686)]), (.ifCond .eq 12, oA 1), (.aload_n 0, o0), (.getfield 580, vN, 0, 1366, 66, 900012, [(0, 1450)]), (.bipush 8, oC (vI 8)), (.if_icmp .ne 5, oA 2)], 1),
  (20, [(.iconst (-1), oC (vI (-1))), (.ireturn, o0)], 2),
  (22, [(.aload_n 0, o0), (.getfield 155, vN, 1, 1368000008, 68, 900012, [(0, 1452)]), (.aload_n 0, o0), (.getfield 580, vN, 0, 1366, 66, 900012, [(0, 1450)]), (.iload_n 1, oA 1), (.iastore, o0), (.aload_n 0, o0), (.getfield 158, vN, 1, 1369000008, 69, 900012, [(0, 1453)]), (.aload_n 0, o0), (.getfield 580, vN, 0, 1366, 66, 900012, [(0, 1450)]), (.iconst 0, oC (vI 0)), (.iastore, o0), (.aload_n 0, o0), (.dup, o0), (.getfield 580, vN, 0, 1366, 66, 900012, [(0, 1450)]), (.iconst 1, oC (vI 1)), (.iadd, o0), (.putfield 580, vN, 0, 1366, 66, 900012, [(0, 1450)]), (.aload_n 0, o0), (.getfield 580, vN, 0, 1366, 66, 900012, [(0, 1450)]), (.iconst 1, oC (vI 1)), (.isub, o0), (.ireturn, o0)], 3)]
def C_M_guide : List Nat := []
set_option maxRecDepth 100000 in
def B_M_party : List Blk := [(0, [(.iload_n 1, oA 1), (.iconst 0, oC (vI 0)), (.sipush 255, oC (vI 255)), (.invokestatic 221, vN, 198, 3, 1, 0, [(0, 1686)]), (.ifCond .eq 23, oA 1), (.iload_n 2, oA 2), (.iconst 0, oC (vI 0)), (.sipush 999, oC (vI 999)), (.invokestatic 221, vN, 198, 3, 1, 0, [(0, 1686)]), (.ifCond .eq 12, oA 1), (.aload_n 0, o0), (.getfield 583, vN, 0, 1367, 67, 900012, [(0, 1451)]), (.bipush 8, oC (vI 8)), (.if_icmp .ne 5, oA 2)], 1),
  (31, [(.iconst (-1), oC (vI (-1))), (.ireturn, o0)], 2),
  (33, [(.aload_n 0, o0), (.getfield 161, vN, 1, 1370000008, 70, 900012, [(0, 1454)]), (.aload_n 0, o0), (.getfield 583, vN, 0, 1367, 67, 900012, [(0, 1451)]), (.iload_n 1, oA 1), (.iastore, o0), (.aload_n 0, o0), (.getfield 164, vN, 1, 1371000008, 71, 900012, [(0, 1455)]), (.aload_n 0, o0), (.getfield 583, vN, 0, 1367, 67, 900012, [(0, 1451)]), (.iload_n 2, oA 2), (.iastore, o0), (.aload_n 0, o0), (.dup, o0), (.getfield 583, vN, 0, 1367, 67, 900012, [(0, 1451)]), (.iconst 1, oC (vI 1)), (.iadd, o0), (.putfield 583, vN, 0, 1367, 67, 900012, [(0, 1451)]), (.aload_n 0, o0), (.getfield 583, vN, 0, 1367, 67, 900012, [(0, 1451)]), (.iconst 1, oC (vI 1)), (.isub, o0), (.ireturn, o0)], 3)]
def C_M_party : List Nat := []
set_option maxRecDepth 100000 in
def B_M_maySing : List Blk := [(0, [(.aload_n 0, o0), (.getfield 161, vN, 1, 1370000008, 70, 900012, [(0, 1454)]), (.iload_n 2, oA 2), (.iaload, o0), (.aload_n 0, o0), (.getfield 155, vN, 1, 1368000008, 68, 900012, [(0, 1452)]), (.iload_n 1, oA 1), (.iaload, o0), (.iconst (-1), oC (vI (-1))), (.ixor, o0), (.iand, o0), (.ifCond .ne 7, oA 1), (.iconst 1, oC (vI 1)), (.goto 4, oA 2)], 1),
  (22, [(.iconst 0, oC (vI 0))], 2),
  (23, [(.ireturn, oA 1)], 3)]
def C_M_maySing : List Nat := []
set_option maxRecDepth 100000 in
def B_M_leftBy : List Blk := [(0, [(.iload_n 3, oA 3), (.iconst (-1), oC (vI (-1))), (.if_icmp .ne 20, oA 1), (.aload_n 0, o0), (.getfield 167, vN, 1, 1372002304, 72, 900012, [(0, 1456)]), (.sipush 256, oC (vI 256)), (.iload_n 1, oA 1), (.iconst 1, oC (vI 1)), (.iadd, o0), (.imul, o0), (.iload_n 2, oA 2), (.iadd, o0), (.iaload, o0), (.goto 32, oA 2)], 1),
  (22, [(.ldc_w 586, vI 100000, 0, 0, 0, 0, [(0, 2144)]), (.aload_n 0, o0), (.getfield 164, vN, 1, 1371000008, 71, 900012, [(0, 1455)]), (.iload_n 1, oA 1), (.iaload, o0), (.iadd, o0), (.aload_n 0, o0), (.getfield 167, vN, 1, 1372002304, 72, 900012, [(0, 1456)]), (.sipush 256, oC (vI 256)), (.iload_n 1, oA 1), (.iconst 1, oC (vI 1)), (.iadd, o0), (.imul, o0), (.iload_n 2, oA 2), (.iconst 1, oC (vI 1)), (.iload_n 3, oA 3), (.ishl, o0), (.ior, o0), (.iadd, o0), (.iaload, o0), (.iadd, o0)], 2),
  (51, [(.ireturn, o0)], 3)]
def C_M_leftBy : List Nat := []
set_option maxRecDepth 100000 in
def B_M_lookLeft : List Blk := [(0, [(.iconst 0, oC (vI 0)), (.istore_n 1, oA 1)], 1),
  (2, [(.iload_n 1, oA 1), (.sipush 256, oC (vI 256)), (.if_icmp .ge 25, oA 2), (.aload_n 0, o0), (.getfield 167, vN, 1, 1372002304, 72, 900012, [(0, 1456)]), (.sipush 256, oC (vI 256)), (.aload_n 0, o0), (.getfield 583, vN, 0, 1367, 67, 900012, [(0, 1451)]), (.imul, o0), (.iload_n 1, oA 1), (.iadd, o0), (.iconst 0, oC (vI 0)), (.iastore, o0), (.iinc 1 1, vI 1, 1, 0, 0, 0, []), (.goto (-26), oA 1)], 2),
  (31, [(.aload_n 0, o0), (.getfield 583, vN, 0, 1367, 67, 900012, [(0, 1451)]), (.iconst 1, oC (vI 1)), (.isub, o0), (.istore_n 1, oA 1)], 3),
  (38, [(.iload_n 1, oA 1), (.ifCond .lt 98, oA 9), (.iconst 0, oC (vI 0)), (.istore_n 2, oA 2)], 4),
  (44, [(.iload_n 2, oA 2), (.iconst 1, oC (vI 1)), (.aload_n 0, o0), (.getfield 580, vN, 0, 1366, 66, 900012, [(0, 1450)]), (.ishl, o0), (.if_icmp .ge 80, oA 8), (.aload_n 0, o0), (.iload_n 1, oA 1), (.iload_n 2, oA 2), (.iconst (-1), oC (vI (-1))), (.invokevirtual 587, vN, 306, 4, 1, 900012, [(0, 2140)]), (.istore_n 3, oA 3), (.iconst 0, oC (vI 0)), (.istore 4, oA 4)], 5),
  (65, [(.iload 4, oA 4), (.aload_n 0, o0), (.getfield 580, vN, 0, 1366, 66, 900012, [(0, 1450)]), (.if_icmp .ge 41, oA 7), (.iload_n 2, oA 2), (.iload 4, oA 4), (.invokestatic 567, vN, 200, 2, 1, 0, [(0, 2113)]), (.ifCond .ne 26, oA 6), (.aload_n 0, o0), (.iload 4, oA 4), (.iload_n 1, oA 1), (.invokevirtual 590, vN, 305, 3, 1, 900012, [(0, 2145)]), (.ifCond .eq 16, oA 6), (.iload_n 3, oA 3), (.aload_n 0, o0), (.iload_n 1, oA 1), (.iload_n 2, oA 2), (.iload 4, oA 4), (.invokevirtual 587, vN, 306, 4, 1, 900012, [(0, 2140)]), (.invokestatic 482, vN, 336, 2, 1, 0, [(0, 1969)]), (.istore_n 3, oA 3)], 6),
  (106, [(.iinc 4 1, vI 1, 4, 0, 0, 0, []), (.goto (-44), oA 5)], 7),
  (112, [(.aload_n 0, o0), (.getfield 167, vN, 1, 1372002304, 72, 900012, [(0, 1456)]), (.sipush 256, oC (vI 256)), (.iload_n 1, oA 1), (.imul, o0), (.iload_n 2, oA 2), (.iadd, o0), (.iload_n 3, oA 3), (.iastore, o0), (.iinc 2 1, vI 1, 2, 0, 0, 0, []), (.goto (-84), oA 4)], 8),
  (131, [(.iinc 1 (-1), vI (-1), 1, 0, 0, 0, []), (.goto (-96), oA 3)], 9),
  (137, [(.return_, o0)], 10)]
def C_M_lookLeft : List Nat := [1, 3, 4, 5]
set_option maxRecDepth 100000 in
def B_M_guides : List Blk := [(0, [(.aload_n 0, o0), (.invokevirtual 593, vN, 307, 1, 0, 900012, [(0, 2136)]), (.iconst 0, oC (vI 0)), (.istore_n 1, oA 1), (.iconst 0, oC (vI 0)), (.istore_n 2, oA 2)], 1),
  (8, [(.iload_n 2, oA 2), (.aload_n 0, o0), (.getfield 583, vN, 0, 1367, 67, 900012, [(0, 1451)]), (.if_icmp .ge 120, oA 9), (.iconst (-1), oC (vI (-1))), (.istore_n 3, oA 3), (.iconst 0, oC (vI 0)), (.istore 4, oA 4)], 2),
  (21, [(.iload 4, oA 4), (.aload_n 0, o0), (.getfield 580, vN, 0, 1366, 66, 900012, [(0, 1450)]), (.if_icmp .ge 78, oA 6), (.iload_n 1, oA 1), (.iload 4, oA 4), (.invokestatic 567, vN, 200, 2, 1, 0, [(0, 2113)]), (.ifCond .ne 63, oA 5), (.aload_n 0, o0), (.iload 4, oA 4), (.iload_n 2, oA 2), (.invokevirtual 590, vN, 305, 3, 1, 900012, [(0, 2145)]), (.ifCond .eq 53, oA 5), (.aload_n 0, o0), (.iload_n 2, oA 2), (.iload_n 1, oA 1), (.iload 4, oA 4), (.invokevirtual 587, vN, 306, 4, 1, 900012, [(0, 2140)]), (.aload_n 0, o0), (.getfield 167, vN, 1, 1372002304, 72, 900012, [(0, 1456)]), (.sipush 256, oC (vI 256)), (.iload_n 2, oA 2), (.imul, o0), (.iload_n 1, oA 1), (.iadd, o0), (.iaload, o0), (.if_icmp .eq 6, oA 3), (.goto 27, oA 5)], 3),
  (75, [(.iload_n 3, oA 3), (.iconst (-1), oC (vI (-1))), (.if_icmp .eq 19, oA 4), (.aload_n 0, o0), (.getfield 158, vN, 1, 1369000008, 69, 900012, [(0, 1453)]), (.iload 4, oA 4), (.iaload, o0), (.aload_n 0, o0), (.getfield 158, vN, 1, 1369000008, 69, 900012, [(0, 1453)]), (.iload_n 3, oA 3), (.iaload, o0), (.if_icmp .ge 6, oA 5)], 4),
  (96, [(.iload 4, oA 4), (.istore_n 3, oA 3)], 5),
  (99, [(.iinc 4 1, vI 1, 4, 0, 0, 0, []), (.goto (-81), oA 2)], 6),
  (105, [(.aload_n 0, o0), (.getfield 170, vN, 1, 1373000008, 73, 900012, [(0, 1457)]), (.iload_n 2, oA 2), (.iload_n 3, oA 3), (.iastore, o0), (.iload_n 1, oA 1), (.iload_n 3, oA 3), (.iconst (-1), oC (vI (-1))), (.if_icmp .ne 7, oA 7), (.iconst 0, oC (vI 0)), (.goto 6, oA 8)], 7),
  (122, [(.iconst 1, oC (vI 1)), (.iload_n 3, oA 3), (.ishl, o0)], 8),
  (125, [(.ior, o0), (.istore_n 1, oA 1), (.iinc 2 1, vI 1, 2, 0, 0, 0, []), (.goto (-122), oA 1)], 9),
  (133, [(.return_, o0)], 10)]
def C_M_guides : List Nat := [1, 2]
set_option maxRecDepth 100000 in
def B_M_guided : List Blk := [(0, [(.iload_n 1, oA 1), (.iconst 0, oC (vI 0)), (.iconst 1, oC (vI 1)), (.invokestatic 221, vN, 198, 3, 1, 0, [(0, 1686)]), (.ifCond .ne 21, oA 1), (.iload_n 1, oA 1), (.bipush 10, oC (vI 10)), (.bipush 9, oC (vI 9)), (.aload_n 0, o0), (.getfield 583, vN, 0, 1367, 67, 900012, [(0, 1451)]), (.iadd, o0), (.invokestatic 221, vN, 198, 3, 1, 0, [(0, 1686)]), (.ifCond .ne 5, oA 1), (.iconst (-1), oC (vI (-1))), (.ireturn, o0)], 1),
  (27, [(.aload_n 0, o0), (.invokevirtual 596, vN, 308, 1, 0, 900012, [(0, 2132)]), (.iload_n 1, oA 1), (.ifCond .ne 16, oA 2), (.aload_n 0, o0), (.getfield 167, vN, 1, 1372002304, 72, 900012, [(0, 1456)]), (.iconst 0, oC (vI 0)), (.iaload, o0), (.ldc_w 586, vI 100000, 0, 0, 0, 0, [(0, 2144)]), (.idiv, o0), (.goto 30, oA 4)], 2),
  (48, [(.iload_n 1, oA 1), (.iconst 1, oC (vI 1)), (.if_icmp .ne 16, oA 3), (.aload_n 0, o0), (.getfield 167, vN, 1, 1372002304, 72, 900012, [(0, 1456)]), (.iconst 0, oC (vI 0)), (.iaload, o0), (.ldc_w 586, vI 100000, 0, 0, 0, 0, [(0, 2144)]), (.irem, o0), (.goto 12, oA 4)], 3),
  (66, [(.aload_n 0, o0), (.getfield 170, vN, 1, 1373000008, 73, 900012, [(0, 1457)]), (.iload_n 1, oA 1), (.bipush 10, oC (vI 10)), (.isub, o0), (.iaload, o0)], 4),
  (75, [(.ireturn, o0)], 5)]
def C_M_guided : List Nat := []
set_option maxRecDepth 100000 in
def B_M_pay : List Blk := [(0, [(.iload_n 1, oA 1), (.iconst 0, oC (vI 0)), (.bipush 100, oC (vI 100)), (.invokestatic 221, vN, 198, 3, 1, 0, [(0, 1686)]), (.ifCond .ne 5, oA 1), (.iconst (-1), oC (vI (-1))), (.ireturn, o0)], 1),
  (12, [(.aload_n 0, o0), (.invokevirtual 596, vN, 308, 1, 0, 900012, [(0, 2132)]), (.iconst 0, oC (vI 0)), (.istore_n 2, oA 2), (.iconst 0, oC (vI 0)), (.istore_n 3, oA 3)], 2),
  (20, [(.iload_n 3, oA 3), (.aload_n 0, o0), (.getfield 583, vN, 0, 1367, 67, 900012, [(0, 1451)]), (.if_icmp .ge 50, oA 5), (.aload_n 0, o0), (.getfield 170, vN, 1, 1373000008, 73, 900012, [(0, 1457)]), (.iload_n 3, oA 3), (.iaload, o0), (.iconst (-1), oC (vI (-1))), (.if_icmp .ne 6, oA 3), (.goto 31, oA 4)], 3),
  (41, [(.aload_n 0, o0), (.getfield 158, vN, 1, 1369000008, 69, 900012, [(0, 1453)]), (.aload_n 0, o0), (.getfield 170, vN, 1, 1373000008, 73, 900012, [(0, 1457)]), (.iload_n 3, oA 3), (.iaload, o0), (.dup2, o0), (.iaload, o0), (.aload_n 0, o0), (.getfield 164, vN, 1, 1371000008, 71, 900012, [(0, 1455)]), (.iload_n 3, oA 3), (.iaload, o0), (.iload_n 1, oA 1), (.imul, o0), (.bipush 100, oC (vI 100)), (.idiv, o0), (.iadd, o0), (.iastore, o0), (.iinc 2 1, vI 1, 2, 0, 0, 0, [])], 4),
  (69, [(.iinc 3 1, vI 1, 3, 0, 0, 0, []), (.goto (-52), oA 2)], 5),
  (75, [(.aload_n 0, o0), (.iconst 0, oC (vI 0)), (.putfield 583, vN, 0, 1367, 67, 900012, [(0, 1451)]), (.iload_n 2, oA 2), (.ireturn, o0)], 6)]
def C_M_pay : List Nat := [2]
set_option maxRecDepth 100000 in
def B_M_earned : List Blk := [(0, [(.iload_n 1, oA 1), (.iconst (-1), oC (vI (-1))), (.if_icmp .eq 28, oA 3), (.iload_n 1, oA 1), (.iconst 0, oC (vI 0)), (.aload_n 0, o0), (.getfield 580, vN, 0, 1366, 66, 900012, [(0, 1450)]), (.iconst 1, oC (vI 1)), (.isub, o0), (.invokestatic 221, vN, 198, 3, 1, 0, [(0, 1686)]), (.ifCond .eq 12, oA 1), (.aload_n 0, o0), (.getfield 158, vN, 1, 1369000008, 69, 900012, [(0, 1453)]), (.iload_n 1, oA 1), (.iaload, o0), (.goto 4, oA 2)], 1),
  (28, [(.iconst (-1), oC (vI (-1)))], 2),
  (29, [(.ireturn, o0)], 3),
  (30, [(.aload_n 0, o0), (.getfield 580, vN, 0, 1366, 66, 900012, [(0, 1450)]), (.ifCond .ne 5, oA 4), (.iconst 0, oC (vI 0)), (.ireturn, o0)], 4),
  (39, [(.aload_n 0, o0), (.getfield 158, vN, 1, 1369000008, 69, 900012, [(0, 1453)]), (.iconst 0, oC (vI 0)), (.iaload, o0), (.istore_n 2, oA 2), (.aload_n 0, o0), (.getfield 158, vN, 1, 1369000008, 69, 900012, [(0, 1453)]), (.iconst 0, oC (vI 0)), (.iaload, o0), (.istore_n 3, oA 3), (.iconst 1, oC (vI 1)), (.istore 4, oA 4)], 5),
  (56, [(.iload 4, oA 4), (.aload_n 0, o0), (.getfield 580, vN, 0, 1366, 66, 900012, [(0, 1450)]), (.if_icmp .ge 33, oA 6), (.iload_n 2, oA 2), (.aload_n 0, o0), (.getfield 158, vN, 1, 1369000008, 69, 900012, [(0, 1453)]), (.iload 4, oA 4), (.iaload, o0), (.invokestatic 394, vN, 337, 2, 1, 0, [(0, 1895)]), (.istore_n 2, oA 2), (.iload_n 3, oA 3), (.aload_n 0, o0), (.getfield 158, vN, 1, 1369000008, 69, 900012, [(0, 1453)]), (.iload 4, oA 4), (.iaload, o0), (.invokestatic 482, vN, 336, 2, 1, 0, [(0, 1969)]), (.istore_n 3, oA 3), (.iinc 4 1, vI 1, 4, 0, 0, 0, []), (.goto (-36), oA 5)], 6),
  (95, [(.iload_n 3, oA 3), (.iload_n 2, oA 2), (.isub, o0), (.ireturn, o0)], 7)]
def C_M_earned : List Nat := [5]
set_option maxRecDepth 100000 in
def B_M_pass : List Blk := [(0, [(.aload_n 0, o0), (.iload_n 1, oA 1), (.invokevirtual 461, vN, 243, 2, 1, 900012, [(0, 1916)]), (.ifCond .eq 14, oA 1), (.iload_n 2, oA 2), (.iconst 0, oC (vI 0)), (.ldc_w 598, vI 65535, 0, 0, 0, 0, [(0, 2161)]), (.invokestatic 221, vN, 198, 3, 1, 0, [(0, 1686)]), (.ifCond .ne 5, oA 2)], 1),
  (19, [(.iconst 0, oC (vI 0)), (.ireturn, oA 1)], 2),
  (21, [(.aload_n 0, o0), (.getfield 97, vN, 1, 1344000120, 44, 900012, [(0, 1428)]), (.iload_n 1, oA 1), (.iload_n 2, oA 2), (.iastore, o0), (.aload_n 0, o0), (.getfield 100, vN, 1, 1345000120, 45, 900012, [(0, 1429)]), (.iload_n 1, oA 1), (.iload_n 3, oA 3), (.invokestatic 423, vN, 199, 1, 1, 0, [(0, 1888)]), (.iastore, o0), (.iconst 1, oC (vI 1)), (.ireturn, oA 1)], 3)]
def C_M_pass : List Nat := []
set_option maxRecDepth 100000 in
def B_M_pole : List Blk := [(0, [(.aload_n 0, o0), (.iload_n 1, oA 1), (.invokevirtual 461, vN, 243, 2, 1, 900012, [(0, 1916)]), (.ifCond .ne 5, oA 1), (.iconst (-1), oC (vI (-1))), (.ireturn, o0)], 1),
  (10, [(.aload_n 0, o0), (.getfield 97, vN, 1, 1344000120, 44, 900012, [(0, 1428)]), (.iload_n 1, oA 1), (.iaload, o0), (.istore_n 2, oA 2), (.iconst 0, oC (vI 0)), (.istore_n 3, oA 3)], 2),
  (19, [(.iload_n 3, oA 3), (.aload_n 0, o0), (.getfield 405, vN, 0, 1336, 36, 900012, [(0, 1420)]), (.if_icmp .ge 45, oA 4), (.aload_n 0, o0), (.getfield 100, vN, 1, 1345000120, 45, 900012, [(0, 1429)]), (.iload_n 3, oA 3), (.iaload, o0), (.iconst 1, oC (vI 1)), (.if_icmp .ne 29, oA 3), (.aload_n 0, o0), (.getfield 88, vN, 1, 1341000120, 41, 900012, [(0, 1425)]), (.iload_n 3, oA 3), (.iaload, o0), (.aload_n 0, o0), (.getfield 88, vN, 1, 1341000120, 41, 900012, [(0, 1425)]), (.iload_n 1, oA 1), (.iaload, o0), (.if_icmp .le 14, oA 3), (.iload_n 2, oA 2), (.aload_n 0, o0), (.getfield 97, vN, 1, 1344000120, 44, 900012, [(0, 1428)]), (.iload_n 3, oA 3), (.iaload, o0), (.iconst (-1), oC (vI (-1))), (.ixor, o0), (.iand, o0), (.istore_n 2, oA 2)], 3),
  (63, [(.iinc 3 1, vI 1, 3, 0, 0, 0, []), (.goto (-47), oA 2)], 4),
  (69, [(.iload_n 2, oA 2), (.ireturn, o0)], 5)]
def C_M_pole : List Nat := [2]
set_option maxRecDepth 100000 in
def B_M_dries : List Blk := [(0, [(.aload_n 0, o0), (.iconst 0, oC (vI 0)), (.putfield 599, vN, 0, 1380, 80, 900012, [(0, 1464)]), (.iconst 0, oC (vI 0)), (.istore_n 1, oA 1)], 1),
  (7, [(.iload_n 1, oA 1), (.aload_n 0, o0), (.getfield 402, vN, 0, 1335, 35, 900012, [(0, 1419)]), (.if_icmp .ge 41, oA 4), (.aload_n 0, o0), (.getfield 173, vN, 1, 1374000020, 74, 900012, [(0, 1458)]), (.iload_n 1, oA 1), (.iaload, o0), (.ifCond .ne 6, oA 2), (.goto 23, oA 3)], 2),
  (27, [(.aload_n 0, o0), (.getfield 185, vN, 1, 1378000020, 78, 900012, [(0, 1462)]), (.aload_n 0, o0), (.getfield 599, vN, 0, 1380, 80, 900012, [(0, 1464)]), (.iload_n 1, oA 1), (.iastore, o0), (.aload_n 0, o0), (.dup, o0), (.getfield 599, vN, 0, 1380, 80, 900012, [(0, 1464)]), (.iconst 1, oC (vI 1)), (.iadd, o0), (.putfield 599, vN, 0, 1380, 80, 900012, [(0, 1464)])], 3),
  (47, [(.iinc 1 1, vI 1, 1, 0, 0, 0, []), (.goto (-43), oA 1)], 4),
  (53, [(.return_, o0)], 5)]
def C_M_dries : List Nat := [1]
set_option maxRecDepth 100000 in
def B_M_paint : List Blk := [(0, [(.aload_n 0, o0), (.iload_n 1, oA 1), (.invokevirtual 448, vN, 242, 2, 1, 900012, [(0, 1845)]), (.ifCond .eq 23, oA 1), (.iload_n 2, oA 2), (.iconst 0, oC (vI 0)), (.bipush 9, oC (vI 9)), (.invokestatic 221, vN, 198, 3, 1, 0, [(0, 1686)]), (.ifCond .eq 13, oA 1), (.iload_n 3, oA 3), (.iconst 0, oC (vI 0)), (.bipush 99, oC (vI 99)), (.invokestatic 221, vN, 198, 3, 1, 0, [(0, 1686)]), (.ifCond .ne 5, oA 2)], 1),
  (28, [(.iconst 0, oC (vI 0)), (.ireturn, oA 1)], 2),
  (30, [(.aload_n 0, o0), (.invokevirtual 602, vN, 314, 1, 0, 900012, [(0, 2170)]), (.iload_n 2, oA 2), (.ifCond .le 23, oA 3), (.aload_n 0, o0), (.getfield 173, vN, 1, 1374000020, 74, 900012, [(0, 1458)]), (.iload_n 1, oA 1), (.iaload, o0), (.ifCond .ne 14, oA 3), (.aload_n 0, o0), (.getfield 599, vN, 0, 1380, 80, 900012, [(0, 1464)]), (.bipush 10, oC (vI 10)), (.if_icmp .ne 5, oA 3), (.iconst 0, oC (vI 0)), (.ireturn, oA 1)], 3),
  (58, [(.aload_n 0, o0), (.getfield 173, vN, 1, 1374000020, 74, 900012, [(0, 1458)]), (.iload_n 1, oA 1), (.iload_n 2, oA 2), (.iastore, o0), (.aload_n 0, o0), (.getfield 176, vN, 1, 1375000020, 75, 900012, [(0, 1459)]), (.iload_n 1, oA 1), (.iload_n 3, oA 3), (.iastore, o0), (.iconst 1, oC (vI 1)), (.ireturn, oA 1)], 4)]
def C_M_paint : List Nat := []
set_option maxRecDepth 100000 in
def B_M_sorts : List Blk := [(0, [(.iconst 0, oC (vI 0)), (.istore_n 1, oA 1)], 1),
  (2, [(.iload_n 1, oA 1), (.aload_n 0, o0), (.getfield 599, vN, 0, 1380, 80, 900012, [(0, 1464)]), (.if_icmp .ge 105, oA 4), (.iload_n 1, oA 1), (.istore_n 2, oA 2)], 2),
  (12, [(.iload_n 2, oA 2), (.ifCond .le 86, oA 3), (.aload_n 0, o0), (.getfield 173, vN, 1, 1374000020, 74, 900012, [(0, 1458)]), (.aload_n 0, o0), (.getfield 185, vN, 1, 1378000020, 78, 900012, [(0, 1462)]), (.iload_n 1, oA 1), (.iaload, o0), (.iaload, o0), (.aload_n 0, o0), (.getfield 176, vN, 1, 1375000020, 75, 900012, [(0, 1459)]), (.aload_n 0, o0), (.getfield 185, vN, 1, 1378000020, 78, 900012, [(0, 1462)]), (.aload_n 0, o0), (.getfield 188, vN, 1, 1379000020, 79, 900012, [(0, 1463)]), (.iload_n 2, oA 2), (.iconst 1, oC (vI 1)), (.isub, o0), (.iaload, o0), (.iaload, o0), (.iaload, o0), (.imul, o0), (.aload_n 0, o0), (.getfield 173, vN, 1, 1374000020, 74, 900012, [(0, 1458)]), (.aload_n 0, o0), (.getfield 185, vN, 1, 1378000020, 78, 900012, [(0, 1462)]), (.aload_n 0, o0), (.getfield 188, vN, 1, 1379000020, 79, 900012, [(0, 1463)]), (.iload_n 2, oA 2), (.iconst 1, oC (vI 1)), (.isub, o0), (.iaload, o0), (.iaload, o0), (.iaload, o0), (.aload_n 0, o0), (.getfield 176, vN, 1, 1375000020, 75, 900012, [(0, 1459)]), (.aload_n 0, o0), (.getfield 185, vN, 1, 1378000020, 78, 900012, [(0, 1462)]), (.iload_n 1, oA 1), (.iaload, o0), (.iaload, o0), (.imul, o0), (.if_icmp .ge 23, oA 3), (.aload_n 0, o0), (.getfield 188, vN, 1, 1379000020, 79, 900012, [(0, 1463)]), (.iload_n 2, oA 2), (.aload_n 0, o0), (.getfield 188, vN, 1, 1379000020, 79, 900012, [(0, 1463)]), (.iload_n 2, oA 2), (.iconst 1, oC (vI 1)), (.isub, o0), (.iaload, o0), (.iastore, o0), (.iinc 2 (-1), vI (-1), 2, 0, 0, 0, []), (.goto (-84), oA 2)], 3),
  (99, [(.aload_n 0, o0), (.getfield 188, vN, 1, 1379000020, 79, 900012, [(0, 1463)]), (.iload_n 2, oA 2), (.iload_n 1, oA 1), (.iastore, o0), (.iinc 1 1, vI 1, 1, 0, 0, 0, []), (.goto (-107), oA 1)], 4),
  (112, [(.return_, o0)], 5)]
def C_M_sorts : List Nat := [1, 2]
set_option maxRecDepth 100000 in
def B_M_lost : List Blk := [(0, [(.iconst 0, oC (vI 0)), (.istore_n 2, oA 2), (.iconst 0, oC (vI 0)), (.istore_n 3, oA 3), (.iconst 0, oC (vI 0)), (.istore 4, oA 4), (.iconst 0, oC (vI 0)), (.istore 5, oA 5)], 1),
  (10, [(.iload 5, oA 5), (.aload_n 0, o0), (.getfield 599, vN, 0, 1380, 80, 900012, [(0, 1464)]), (.if_icmp .ge 92, oA 6), (.aload_n 0, o0), (.getfield 188, vN, 1, 1379000020, 79, 900012, [(0, 1463)]), (.iload 5, oA 5), (.iaload, o0), (.istore 6, oA 6), (.iload_n 1, oA 1), (.iload 6, oA 6), (.invokestatic 567, vN, 200, 2, 1, 0, [(0, 2113)]), (.ifCond .eq 21, oA 2), (.iload_n 3, oA 3), (.aload_n 0, o0), (.getfield 173, vN, 1, 1374000020, 74, 900012, [(0, 1458)]), (.aload_n 0, o0), (.getfield 185, vN, 1, 1378000020, 78, 900012, [(0, 1462)]), (.iload 6, oA 6), (.iaload, o0), (.iaload, o0), (.iadd, o0), (.istore_n 3, oA 3), (.goto 18, oA 3)], 2),
  (55, [(.iload_n 2, oA 2), (.aload_n 0, o0), (.getfield 173, vN, 1, 1374000020, 74, 900012, [(0, 1458)]), (.aload_n 0, o0), (.getfield 185, vN, 1, 1378000020, 78, 900012, [(0, 1462)]), (.iload 6, oA 6), (.iaload, o0), (.iaload, o0), (.iadd, o0), (.istore_n 2, oA 2)], 3),
  (70, [(.iload 4, oA 4), (.aload_n 0, o0), (.getfield 176, vN, 1, 1375000020, 75, 900012, [(0, 1459)]), (.aload_n 0, o0), (.getfield 185, vN, 1, 1378000020, 78, 900012, [(0, 1462)]), (.iload 6, oA 6), (.iaload, o0), (.iaload, o0), (.iload_n 1, oA 1), (.iload 6, oA 6), (.invokestatic 567, vN, 200, 2, 1, 0, [(0, 2113)]), (.ifCond .eq 7, oA 4), (.iload_n 3, oA 3), (.goto 4, oA 5)], 4),
  (97, [(.iload_n 2, oA 2)], 5),
  (98, [(.imul, o0), (.iadd, o0), (.istore 4, oA 4), (.iinc 5 1, vI 1, 5, 0, 0, 0, []), (.goto (-95), oA 1)], 6),
  (108, [(.iload 4, oA 4), (.ireturn, o0)], 7)]
def C_M_lost : List Nat := [1]
set_option maxRecDepth 100000 in
def B_M_byBoats : List Blk := [(0, [(.iconst 0, oC (vI 0)), (.istore_n 2, oA 2), (.iconst 0, oC (vI 0)), (.istore_n 3, oA 3)], 1),
  (4, [(.iload_n 3, oA 3), (.aload_n 0, o0), (.getfield 599, vN, 0, 1380, 80, 900012, [(0, 1464)]), (.if_icmp .ge 27, oA 2), (.iload_n 2, oA 2), (.iload_n 1, oA 1), (.iload_n 3, oA 3), (.invokestatic 567, vN, 200, 2, 1, 0, [(0, 2113)]), (.invokestatic 423, vN, 199, 1, 1, 0, [(0, 1888)]), (.aload_n 0, o0), (.getfield 185, vN, 1, 1378000020, 78, 900012, [(0, 1462)]), (.iload_n 3, oA 3), (.iaload, o0), (.ishl, o0), (.ior, o0), (.istore_n 2, oA 2), (.iinc 3 1, vI 1, 3, 0, 0, 0, []), (.goto (-29), oA 1)], 2),
  (36, [(.iload_n 2, oA 2), (.ireturn, o0)], 3)]
def C_M_byBoats : List Nat := [1]
set_option maxRecDepth 100000 in
def B_M_painted : List Blk := [(0, [(.iload_n 1, oA 1), (.iconst 1, oC (vI 1)), (.iconst 2, oC (vI 2)), (.invokestatic 221, vN, 198, 3, 1, 0, [(0, 1686)]), (.ifCond .eq 12, oA 1), (.iload_n 2, oA 2), (.iconst 0, oC (vI 0)), (.iconst 1, oC (vI 1)), (.invokestatic 221, vN, 198, 3, 1, 0, [(0, 1686)]), (.ifCond .ne 5, oA 2)], 1),
  (18, [(.iconst (-1), oC (vI (-1))), (.ireturn, o0)], 2),
  (20, [(.aload_n 0, o0), (.invokevirtual 602, vN, 314, 1, 0, 900012, [(0, 2170)]), (.aload_n 0, o0), (.invokevirtual 605, vN, 316, 1, 0, 900012, [(0, 2178)]), (.iconst 0, oC (vI 0)), (.istore_n 3, oA 3), (.iconst 1, oC (vI 1)), (.istore 4, oA 4)], 3),
  (33, [(.iload 4, oA 4), (.iconst 1, oC (vI 1)), (.aload_n 0, o0), (.getfield 599, vN, 0, 1380, 80, 900012, [(0, 1464)]), (.ishl, o0), (.if_icmp .ge 31, oA 5), (.iload_n 1, oA 1), (.iconst 2, oC (vI 2)), (.if_icmp .ne 26, oA 5), (.aload_n 0, o0), (.iload 4, oA 4), (.invokevirtual 608, vN, 317, 2, 1, 900012, [(0, 2182)]), (.aload_n 0, o0), (.iload_n 3, oA 3), (.invokevirtual 608, vN, 317, 2, 1, 900012, [(0, 2182)]), (.if_icmp .ge 6, oA 4), (.iload 4, oA 4), (.istore_n 3, oA 3)], 4),
  (66, [(.iinc 4 1, vI 1, 4, 0, 0, 0, []), (.goto (-36), oA 3)], 5),
  (72, [(.iload_n 2, oA 2), (.ifCond .ne 11, oA 6), (.aload_n 0, o0), (.iload_n 3, oA 3), (.invokevirtual 608, vN, 317, 2, 1, 900012, [(0, 2182)]), (.goto 8, oA 7)], 6),
  (84, [(.aload_n 0, o0), (.iload_n 3, oA 3), (.invokevirtual 611, vN, 318, 2, 1, 900012, [(0, 2186)])], 7),
  (89, [(.ireturn, o0)], 8)]
def C_M_painted : List Nat := [3]
set_option maxRecDepth 100000 in
def B_M_fail : List Blk := [(0, [(.aload_n 0, o0), (.iload_n 1, oA 1), (.invokevirtual 448, vN, 242, 2, 1, 900012, [(0, 1845)]), (.ifCond .eq 24, oA 1), (.iload_n 2, oA 2), (.iconst 0, oC (vI 0)), (.bipush 100, oC (vI 100)), (.invokestatic 221, vN, 198, 3, 1, 0, [(0, 1686)]), (.ifCond .eq 14, oA 1), (.iload_n 3, oA 3), (.iconst 0, oC (vI 0)), (.sipush 999, oC (vI 999)), (.invokestatic 221, vN, 198, 3, 1, 0, [(0, 1686)]), (.ifCond .ne 5, oA 2)], 1),
  (29, [(.iconst 0, oC (vI 0)), (.ireturn, oA 1)], 2),
  (31, [(.aload_n 0, o0), (.getfield 179, vN, 1, 1376000020, 76, 900012, [(0, 1460)]), (.iload_n 1, oA 1), (.iload_n 2, oA 2), (.iastore, o0), (.aload_n 0, o0), (.getfield 182, vN, 1, 1377000020, 77, 900012, [(0, 1461)]), (.iload_n 1, oA 1), (.iload_n 3, oA 3), (.iastore, o0), (.iconst 1, oC (vI 1)), (.ireturn, oA 1)], 3)]
def C_M_fail : List Nat := []
set_option maxRecDepth 100000 in
def B_M_renew : List Blk := [(0, [(.iload_n 1, oA 1), (.iconst 0, oC (vI 0)), (.bipush 90, oC (vI 90)), (.invokestatic 221, vN, 198, 3, 1, 0, [(0, 1686)]), (.ifCond .eq 12, oA 1), (.iload_n 2, oA 2), (.iconst 0, oC (vI 0)), (.iconst 1, oC (vI 1)), (.invokestatic 221, vN, 198, 3, 1, 0, [(0, 1686)]), (.ifCond .ne 5, oA 2)], 1),
  (19, [(.iconst (-1), oC (vI (-1))), (.ireturn, o0)], 2),
  (21, [(.aload_n 0, o0), (.invokevirtual 602, vN, 314, 1, 0, 900012, [(0, 2170)]), (.iconst 0, oC (vI 0)), (.istore_n 3, oA 3), (.iconst 0, oC (vI 0)), (.istore 4, oA 4), (.iconst 1, oC (vI 1)), (.istore 5, oA 5)], 3),
  (33, [(.iload 5, oA 5), (.iconst 1, oC (vI 1)), (.aload_n 0, o0), (.getfield 599, vN, 0, 1380, 80, 900012, [(0, 1464)]), (.ishl, o0), (.if_icmp .ge 116, oA 10), (.iconst 0, oC (vI 0)), (.istore 6, oA 6), (.iconst 0, oC (vI 0)), (.istore 7, oA 7), (.iconst 0, oC (vI 0)), (.istore 8, oA 8)], 4),
  (53, [(.iload 8, oA 8), (.aload_n 0, o0), (.getfield 599, vN, 0, 1380, 80, 900012, [(0, 1464)]), (.if_icmp .ge 69, oA 7), (.iload 5, oA 5), (.iload 8, oA 8), (.invokestatic 567, vN, 200, 2, 1, 0, [(0, 2113)]), (.ifCond .ne 6, oA 5), (.goto 50, oA 6)], 5),
  (75, [(.iload 6, oA 6), (.aload_n 0, o0), (.getfield 173, vN, 1, 1374000020, 74, 900012, [(0, 1458)]), (.aload_n 0, o0), (.getfield 185, vN, 1, 1378000020, 78, 900012, [(0, 1462)]), (.iload 8, oA 8), (.iaload, o0), (.iaload, o0), (.iadd, o0), (.istore 6, oA 6), (.iload 7, oA 7), (.aload_n 0, o0), (.getfield 179, vN, 1, 1376000020, 76, 900012, [(0, 1460)]), (.aload_n 0, o0), (.getfield 185, vN, 1, 1378000020, 78, 900012, [(0, 1462)]), (.iload 8, oA 8), (.iaload, o0), (.iaload, o0), (.aload_n 0, o0), (.getfield 182, vN, 1, 1377000020, 77, 900012, [(0, 1461)]), (.aload_n 0, o0), (.getfield 185, vN, 1, 1378000020, 78, 900012, [(0, 1462)]), (.iload 8, oA 8), (.iaload, o0), (.iaload, o0), (.imul, o0), (.iadd, o0), (.istore 7, oA 7)], 6),
  (122, [(.iinc 8 1, vI 1, 8, 0, 0, 0, []), (.goto (-72), oA 4)], 7),
  (128, [(.iload 6, oA 6), (.iload_n 1, oA 1), (.if_icmp .gt 20, oA 9), (.iload 7, oA 7), (.iload 4, oA 4), (.if_icmp .gt 6, oA 8), (.goto 10, oA 9)], 8),
  (144, [(.iload 5, oA 5), (.istore_n 3, oA 3), (.iload 7, oA 7), (.istore 4, oA 4)], 9),
  (151, [(.iinc 5 1, vI 1, 5, 0, 0, 0, []), (.goto (-121), oA 3)], 10),
  (157, [(.iload_n 2, oA 2), (.ifCond .ne 8, oA 11), (.iload 4, oA 4), (.goto 8, oA 12)], 11),
  (166, [(.aload_n 0, o0), (.iload_n 3, oA 3), (.invokevirtual 611, vN, 318, 2, 1, 900012, [(0, 2186)])], 12),
  (171, [(.ireturn, o0)], 13)]
def C_M_renew : List Nat := [3, 4]
set_option maxRecDepth 100000 in
def B_M_loyal : List Blk := [(0, [(.iload_n 1, oA 1), (.iconst 0, oC (vI 0)), (.sipush 999, oC (vI 999)), (.invokestatic 221, vN, 198, 3, 1, 0, [(0, 1686)]), (.ifCond .eq 12, oA 1), (.aload_n 0, o0), (.getfield 614, vN, 0, 1381, 81, 900012, [(0, 1465)]), (.bipush 12, oC (vI 12)), (.if_icmp .ne 5, oA 2)], 1),
  (20, [(.iconst (-1), oC (vI (-1))), (.ireturn, o0)], 2),
  (22, [(.aload_n 0, o0), (.getfield 191, vN, 1, 1382000012, 82, 900012, [(0, 1466)]), (.aload_n 0, o0), (.getfield 614, vN, 0, 1381, 81, 900012, [(0, 1465)]), (.iload_n 1, oA 1), (.iastore, o0), (.aload_n 0, o0), (.dup, o0), (.getfield 614, vN, 0, 1381, 81, 900012, [(0, 1465)]), (.iconst 1, oC (vI 1)), (.iadd, o0), (.putfield 614, vN, 0, 1381, 81, 900012, [(0, 1465)]), (.aload_n 0, o0), (.getfield 614, vN, 0, 1381, 81, 900012, [(0, 1465)]), (.ireturn, o0)], 3)]
def C_M_loyal : List Nat := []
set_option maxRecDepth 100000 in
def B_M_stays : List Blk := [(0, [(.iconst 0, oC (vI 0)), (.istore_n 3, oA 3), (.iconst 0, oC (vI 0)), (.istore 4, oA 4)], 1),
  (5, [(.iload 4, oA 4), (.aload_n 0, o0), (.getfield 614, vN, 0, 1381, 81, 900012, [(0, 1465)]), (.if_icmp .ge 33, oA 4), (.iload_n 3, oA 3), (.iload_n 1, oA 1), (.iload_n 2, oA 2), (.aload_n 0, o0), (.getfield 191, vN, 1, 1382000012, 82, 900012, [(0, 1466)]), (.iload 4, oA 4), (.iaload, o0), (.iadd, o0), (.if_icmp .gt 7, oA 2), (.iconst 1, oC (vI 1)), (.goto 4, oA 3)], 2),
  (32, [(.iconst 0, oC (vI 0))], 3),
  (33, [(.invokestatic 423, vN, 199, 1, 1, 0, [(0, 1888)]), (.iadd, o0), (.istore_n 3, oA 3), (.iinc 4 1, vI 1, 4, 0, 0, 0, []), (.goto (-36), oA 1)], 4),
  (44, [(.iload_n 3, oA 3), (.ireturn, o0)], 5)]
def C_M_stays : List Nat := [1]
set_option maxRecDepth 100000 in
def B_M_tout : List Blk := [(0, [(.iload_n 1, oA 1), (.iconst 0, oC (vI 0)), (.sipush 999, oC (vI 999)), (.invokestatic 221, vN, 198, 3, 1, 0, [(0, 1686)]), (.ifCond .eq 23, oA 1), (.iload_n 2, oA 2), (.iconst 0, oC (vI 0)), (.sipush 9999, oC (vI 9999)), (.invokestatic 221, vN, 198, 3, 1, 0, [(0, 1686)]), (.ifCond .eq 12, oA 1), (.iload_n 3, oA 3), (.iconst 0, oC (vI 0)), (.iconst 3, oC (vI 3)), (.invokestatic 221, vN, 198, 3, 1, 0, [(0, 1686)]), (.ifCond .ne 7, oA 2)], 1),
  (31, [(.ldc_w 509, vI (-1000000), 0, 0, 0, 0, [(0, 1948)]), (.ireturn, o0)], 2),
  (35, [(.iconst 0, oC (vI 0)), (.istore 4, oA 4), (.iconst 1, oC (vI 1)), (.istore 5, oA 5)], 3),
  (41, [(.iload 5, oA 5), (.sipush 1000, oC (vI 1000)), (.if_icmp .ge 36, oA 5), (.iload 5, oA 5), (.aload_n 0, o0), (.iload 5, oA 5), (.iload_n 1, oA 1), (.invokevirtual 617, vN, 323, 3, 1, 900012, [(0, 2206)]), (.imul, o0), (.iload 4, oA 4), (.aload_n 0, o0), (.iload 4, oA 4), (.iload_n 1, oA 1), (.invokevirtual 617, vN, 323, 3, 1, 900012, [(0, 2206)]), (.imul, o0), (.if_icmp .le 7, oA 4), (.iload 5, oA 5), (.istore 4, oA 4)], 4),
  (76, [(.iinc 5 1, vI 1, 5, 0, 0, 0, []), (.goto (-38), oA 3)], 5),
  (82, [(.aload_n 0, o0), (.getfield 614, vN, 0, 1381, 81, 900012, [(0, 1465)]), (.aload_n 0, o0), (.iload 4, oA 4), (.iload_n 1, oA 1), (.invokevirtual 617, vN, 323, 3, 1, 900012, [(0, 2206)]), (.isub, o0), (.istore 5, oA 5), (.iload_n 3, oA 3), (.ifCond .ne 8, oA 6), (.iload 4, oA 4), (.goto 46, oA 10)], 6),
  (105, [(.iload_n 3, oA 3), (.iconst 1, oC (vI 1)), (.if_icmp .ne 16, oA 7), (.iload 4, oA 4), (.aload_n 0, o0), (.iload 4, oA 4), (.iload_n 1, oA 1), (.invokevirtual 617, vN, 323, 3, 1, 900012, [(0, 2206)]), (.imul, o0), (.goto 28, oA 10)], 7),
  (123, [(.iload_n 3, oA 3), (.iconst 2, oC (vI 2)), (.if_icmp .ne 8, oA 8), (.iload 5, oA 5), (.goto 18, oA 10)], 8),
  (133, [(.iload 5, oA 5), (.ifCond .ne 7, oA 9), (.iconst 0, oC (vI 0)), (.goto 9, oA 10)], 9),
  (142, [(.iload_n 1, oA 1), (.iload 5, oA 5), (.imul, o0), (.iload_n 2, oA 2), (.isub, o0)], 10),
  (148, [(.ireturn, o0)], 11)]
def C_M_tout : List Nat := [3]
set_option maxRecDepth 100000 in
def B_M_nest : List Blk := [(0, [(.iload_n 1, oA 1), (.iconst 0, oC (vI 0)), (.bipush 15, oC (vI 15)), (.invokestatic 221, vN, 198, 3, 1, 0, [(0, 1686)]), (.ifCond .eq 29, oA 1), (.iload_n 2, oA 2), (.invokestatic 371, vN, 202, 1, 1, 0, [(0, 1689)]), (.ifCond .eq 22, oA 1), (.iload_n 3, oA 3), (.iload_n 2, oA 2), (.bipush 99, oC (vI 99)), (.invokestatic 221, vN, 198, 3, 1, 0, [(0, 1686)]), (.ifCond .eq 12, oA 1), (.aload_n 0, o0), (.getfield 620, vN, 0, 1383, 83, 900012, [(0, 1467)]), (.bipush 20, oC (vI 20)), (.if_icmp .ne 5, oA 2)], 1),
  (36, [(.iconst (-1), oC (vI (-1))), (.ireturn, o0)], 2),
  (38, [(.aload_n 0, o0), (.getfield 194, vN, 1, 1385000020, 85, 900012, [(0, 1469)]), (.aload_n 0, o0), (.getfield 620, vN, 0, 1383, 83, 900012, [(0, 1467)]), (.iload_n 1, oA 1), (.iastore, o0), (.aload_n 0, o0), (.getfield 197, vN, 1, 1386000020, 86, 900012, [(0, 1470)]), (.aload_n 0, o0), (.getfield 620, vN, 0, 1383, 83, 900012, [(0, 1467)]), (.iload_n 2, oA 2), (.iastore, o0), (.aload_n 0, o0), (.getfield 200, vN, 1, 1387000020, 87, 900012, [(0, 1471)]), (.aload_n 0, o0), (.getfield 620, vN, 0, 1383, 83, 900012, [(0, 1467)]), (.iload_n 3, oA 3), (.iastore, o0), (.aload_n 0, o0), (.dup, o0), (.getfield 620, vN, 0, 1383, 83, 900012, [(0, 1467)]), (.iconst 1, oC (vI 1)), (.iadd, o0), (.putfield 620, vN, 0, 1383, 83, 900012, [(0, 1467)]), (.aload_n 0, o0), (.getfield 620, vN, 0, 1383, 83, 900012, [(0, 1467)]), (.ireturn, o0)], 3)]
def C_M_nest : List Nat := []
set_option maxRecDepth 100000 in
def B_M_regatta : List Blk := [(0, [(.iload_n 1, oA 1), (.invokestatic 371, vN, 202, 1, 1, 0, [(0, 1689)]), (.ifCond .eq 46, oA 1), (.iload_n 2, oA 2), (.iconst 0, oC (vI 0)), (.sipush 719, oC (vI 719)), (.invokestatic 221, vN, 198, 3, 1, 0, [(0, 1686)]), (.ifCond .eq 35, oA 1), (.iload_n 3, oA 3), (.iload_n 2, oA 2), (.sipush 719, oC (vI 719)), (.invokestatic 221, vN, 198, 3, 1, 0, [(0, 1686)]), (.ifCond .eq 24, oA 1), (.iload 4, oA 4), (.iconst 0, oC (vI 0)), (.ldc_w 598, vI 65535, 0, 0, 0, 0, [(0, 2161)]), (.invokestatic 221, vN, 198, 3, 1, 0, [(0, 1686)]), (.ifCond .eq 12, oA 1), (.aload_n 0, o0), (.getfield 623, vN, 0, 1384, 84, 900012, [(0, 1468)]), (.bipush 10, oC (vI 10)), (.if_icmp .ne 5, oA 2)], 1),
  (50, [(.iconst (-1), oC (vI (-1))), (.ireturn, o0)], 2),
  (52, [(.aload_n 0, o0), (.getfield 203, vN, 1, 1388000010, 88, 900012, [(0, 1472)]), (.aload_n 0, o0), (.getfield 623, vN, 0, 1384, 84, 900012, [(0, 1468)]), (.iload_n 1, oA 1), (.iastore, o0), (.aload_n 0, o0), (.getfield 206, vN, 1, 1389000010, 89, 900012, [(0, 1473)]), (.aload_n 0, o0), (.getfield 623, vN, 0, 1384, 84, 900012, [(0, 1468)]), (.iload_n 2, oA 2), (.iastore, o0), (.aload_n 0, o0), (.getfield 209, vN, 1, 1390000010, 90, 900012, [(0, 1474)]), (.aload_n 0, o0), (.getfield 623, vN, 0, 1384, 84, 900012, [(0, 1468)]), (.iload_n 3, oA 3), (.iastore, o0), (.aload_n 0, o0), (.getfield 212, vN, 1, 1391000010, 91, 900012, [(0, 1475)]), (.aload_n 0, o0), (.getfield 623, vN, 0, 1384, 84, 900012, [(0, 1468)]), (.iload 4, oA 4), (.iastore, o0), (.aload_n 0, o0), (.dup, o0), (.getfield 623, vN, 0, 1384, 84, 900012, [(0, 1468)]), (.iconst 1, oC (vI 1)), (.iadd, o0), (.putfield 623, vN, 0, 1384, 84, 900012, [(0, 1468)]), (.aload_n 0, o0), (.getfield 623, vN, 0, 1384, 84, 900012, [(0, 1468)]), (.ireturn, o0)], 3)]
def C_M_regatta : List Nat := []
set_option maxRecDepth 100000 in
def B_M_barred : List Blk := [(0, [(.aload_n 0, o0), (.iload_n 1, oA 1), (.invokevirtual 461, vN, 243, 2, 1, 900012, [(0, 1916)]), (.ifCond .eq 21, oA 1), (.aload_n 0, o0), (.iload_n 2, oA 2), (.invokevirtual 467, vN, 244, 2, 1, 900012, [(0, 1940)]), (.ifCond .eq 13, oA 1), (.aload_n 0, o0), (.getfield 94, vN, 1, 1343000120, 43, 900012, [(0, 1427)]), (.iload_n 1, oA 1), (.iaload, o0), (.iload_n 2, oA 2), (.if_icmp .le 5, oA 2)], 1),
  (26, [(.iconst (-1), oC (vI (-1))), (.ireturn, o0)], 2),
  (28, [(.aload_n 0, o0), (.iload_n 2, oA 2), (.invokevirtual 442, vN, 245, 2, 0, 900012, [(0, 1857)]), (.aload_n 0, o0), (.getfield 88, vN, 1, 1341000120, 41, 900012, [(0, 1425)]), (.iload_n 1, oA 1), (.iaload, o0), (.sipush 720, oC (vI 720)), (.idiv, o0), (.istore_n 3, oA 3), (.aload_n 0, o0), (.getfield 88, vN, 1, 1341000120, 41, 900012, [(0, 1425)]), (.iload_n 1, oA 1), (.iaload, o0), (.sipush 720, oC (vI 720)), (.irem, o0), (.istore 4, oA 4), (.aload_n 0, o0), (.getfield 115, vN, 1, 1350000120, 50, 900012, [(0, 1434)]), (.iload_n 1, oA 1), (.iaload, o0), (.iconst (-1), oC (vI (-1))), (.if_icmp .ne 9, oA 3), (.sipush 719, oC (vI 719)), (.goto 15, oA 4)], 3),
  (72, [(.aload_n 0, o0), (.getfield 115, vN, 1, 1350000120, 50, 900012, [(0, 1434)]), (.iload_n 1, oA 1), (.iaload, o0), (.sipush 720, oC (vI 720)), (.irem, o0), (.iconst 1, oC (vI 1)), (.isub, o0)], 4),
  (84, [(.istore 5, oA 5), (.iconst 0, oC (vI 0)), (.istore 6, oA 6), (.iconst 0, oC (vI 0)), (.istore 7, oA 7)], 5),
  (92, [(.iload 7, oA 7), (.aload_n 0, o0), (.getfield 620, vN, 0, 1383, 83, 900012, [(0, 1467)]), (.if_icmp .ge 44, oA 7), (.iload_n 3, oA 3), (.aload_n 0, o0), (.getfield 197, vN, 1, 1386000020, 86, 900012, [(0, 1470)]), (.iload 7, oA 7), (.iaload, o0), (.aload_n 0, o0), (.getfield 200, vN, 1, 1387000020, 87, 900012, [(0, 1471)]), (.iload 7, oA 7), (.iaload, o0), (.invokestatic 221, vN, 198, 3, 1, 0, [(0, 1686)]), (.ifCond .eq 17, oA 6), (.iload 6, oA 6), (.iconst 1, oC (vI 1)), (.aload_n 0, o0), (.getfield 194, vN, 1, 1385000020, 85, 900012, [(0, 1469)]), (.iload 7, oA 7), (.iaload, o0), (.ishl, o0), (.ior, o0), (.istore 6, oA 6)], 6),
  (136, [(.iinc 7 1, vI 1, 7, 0, 0, 0, []), (.goto (-47), oA 5)], 7),
  (142, [(.iconst 0, oC (vI 0)), (.istore 7, oA 7)], 8),
  (145, [(.iload 7, oA 7), (.aload_n 0, o0), (.getfield 623, vN, 0, 1384, 84, 900012, [(0, 1468)]), (.if_icmp .ge 59, oA 10), (.aload_n 0, o0), (.getfield 203, vN, 1, 1388000010, 88, 900012, [(0, 1472)]), (.iload 7, oA 7), (.iaload, o0), (.iload_n 3, oA 3), (.if_icmp .ne 42, oA 9), (.iload 4, oA 4), (.aload_n 0, o0), (.getfield 206, vN, 1, 1389000010, 89, 900012, [(0, 1473)]), (.iload 7, oA 7), (.iaload, o0), (.invokestatic 482, vN, 336, 2, 1, 0, [(0, 1969)]), (.iload 5, oA 5), (.aload_n 0, o0), (.getfield 209, vN, 1, 1390000010, 90, 900012, [(0, 1474)]), (.iload 7, oA 7), (.iaload, o0), (.invokestatic 394, vN, 337, 2, 1, 0, [(0, 1895)]), (.if_icmp .gt 15, oA 9), (.iload 6, oA 6), (.aload_n 0, o0), (.getfield 212, vN, 1, 1391000010, 91, 900012, [(0, 1475)]), (.iload 7, oA 7), (.iaload, o0), (.ior, o0), (.istore 6, oA 6)], 9),
  (204, [(.iinc 7 1, vI 1, 7, 0, 0, 0, []), (.goto (-62), oA 8)], 10),
  (210, [(.iload 6, oA 6), (.aload_n 0, o0), (.getfield 97, vN, 1, 1344000120, 44, 900012, [(0, 1428)]), (.iload_n 1, oA 1), (.iaload, o0), (.iand, o0), (.ireturn, o0)], 11)]
def C_M_barred : List Nat := [5, 8]
set_option maxRecDepth 100000 in
def B_M_lays : List Blk := [(0, [(.iconst 0, oC (vI 0)), (.istore_n 3, oA 3)], 1),
  (2, [(.iload_n 3, oA 3), (.iload_n 2, oA 2), (.if_icmp .ge 23, oA 2), (.aload_n 0, o0), (.getfield 215, vN, 1, 1394012600, 94, 900012, [(0, 1478)]), (.aload_n 0, o0), (.getfield 626, vN, 0, 1393, 93, 900012, [(0, 1477)]), (.iload_n 3, oA 3), (.iadd, o0), (.aload_n 1, oA 1), (.iload_n 3, oA 3), (.iaload, o0), (.iastore, o0), (.iinc 3 1, vI 1, 3, 0, 0, 0, []), (.goto (-22), oA 1)], 2),
  (27, [(.aload_n 0, o0), (.dup, o0), (.getfield 626, vN, 0, 1393, 93, 900012, [(0, 1477)]), (.iload_n 2, oA 2), (.iadd, o0), (.putfield 626, vN, 0, 1393, 93, 900012, [(0, 1477)]), (.return_, o0)], 3)]
def C_M_lays : List Nat := [1]
set_option maxRecDepth 100000 in
def B_M_fetches : List Blk := [(0, [(.iconst 0, oC (vI 0)), (.istore_n 3, oA 3)], 1),
  (2, [(.iload_n 3, oA 3), (.iload_n 2, oA 2), (.if_icmp .ge 23, oA 2), (.aload_n 1, oA 1), (.iload_n 3, oA 3), (.aload_n 0, o0), (.getfield 215, vN, 1, 1394012600, 94, 900012, [(0, 1478)]), (.aload_n 0, o0), (.getfield 626, vN, 0, 1393, 93, 900012, [(0, 1477)]), (.iload_n 3, oA 3), (.iadd, o0), (.iaload, o0), (.iastore, o0), (.iinc 3 1, vI 1, 3, 0, 0, 0, []), (.goto (-22), oA 1)], 2),
  (27, [(.aload_n 0, o0), (.dup, o0), (.getfield 626, vN, 0, 1393, 93, 900012, [(0, 1477)]), (.iload_n 2, oA 2), (.iadd, o0), (.putfield 626, vN, 0, 1393, 93, 900012, [(0, 1477)]), (.return_, o0)], 3)]
def C_M_fetches : List Nat := [1]
set_option maxRecDepth 100000 in
def B_M_image : List Blk := [(0, [(.aload_n 0, o0), (.getfield 629, vN, 0, 1392, 92, 900012, [(0, 1476)]), (.iconst 3, oC (vI 3)), (.if_icmp .ne 5, oA 1), (.iconst (-1), oC (vI (-1))), (.ireturn, o0)], 1),
  (10, [(.aload_n 0, o0), (.sipush 4200, oC (vI 4200)), (.aload_n 0, o0), (.getfield 629, vN, 0, 1392, 92, 900012, [(0, 1476)]), (.imul, o0), (.putfield 626, vN, 0, 1393, 93, 900012, [(0, 1477)]), (.aload_n 0, o0), (.getfield 218, vN, 1, 1395000013, 95, 900012, [(0, 1479)]), (.iconst 0, oC (vI 0)), (.aload_n 0, o0), (.getfield 388, vN, 0, 1326, 26, 900012, [(0, 1410)]), (.iastore, o0), (.aload_n 0, o0), (.getfield 218, vN, 1, 1395000013, 95, 900012, [(0, 1479)]), (.iconst 1, oC (vI 1)), (.aload_n 0, o0), (.getfield 391, vN, 0, 1327, 27, 900012, [(0, 1411)]), (.iastore, o0), (.aload_n 0, o0), (.getfield 218, vN, 1, 1395000013, 95, 900012, [(0, 1479)]), (.iconst 2, oC (vI 2)), (.aload_n 0, o0), (.getfield 525, vN, 0, 1328, 28, 900012, [(0, 1412)]), (.iastore, o0), (.aload_n 0, o0), (.getfield 218, vN, 1, 1395000013, 95, 900012, [(0, 1479)]), (.iconst 3, oC (vI 3)), (.aload_n 0, o0), (.getfield 528, vN, 0, 1329, 29, 900012, [(0, 1413)]), (.iastore, o0), (.aload_n 0, o0), (.getfield 218, vN, 1, 1395000013, 95, 900012, [(0, 1479)]), (.iconst 4, oC (vI 4)), (.aload_n 0, o0), (.getfield 402, vN, 0, 1335, 35, 900012, [(0, 1419)]), (.iastore, o0), (.aload_n 0, o0), (.getfield 218, vN, 1, 1395000013, 95, 900012, [(0, 1479)]), (.iconst 5, oC (vI 5)), (.aload_n 0, o0), (.getfield 405, vN, 0, 1336, 36, 900012, [(0, 1420)]), (.iastore, o0), (.aload_n 0, o0), (.getfield 218, vN, 1, 1395000013, 95, 900012, [(0, 1479)]), (.bipush 6, oC (vI 6)), (.aload_n 0, o0), (.getfield 408, vN, 0, 1337, 37, 900012, [(0, 1421)]), (.iastore, o0), (.aload_n 0, o0), (.getfield 218, vN, 1, 1395000013, 95, 900012, [(0, 1479)]), (.bipush 7, oC (vI 7)), (.aload_n 0, o0), (.getfield 564, vN, 0, 1360, 60, 900012, [(0, 1444)]), (.iastore, o0), (.aload_n 0, o0), (.getfield 218, vN, 1, 1395000013, 95, 900012, [(0, 1479)]), (.bipush 8, oC (vI 8)), (.aload_n 0, o0), (.getfield 580, vN, 0, 1366, 66, 900012, [(0, 1450)]), (.iastore, o0), (.aload_n 0, o0), (.getfield 218, vN, 1, 1395000013, 95, 900012, [(0, 1479)]), (.bipush 9, oC (vI 9)), (.aload_n 0, o0), (.getfield 583, vN, 0, 1367, 67, 900012, [(0, 1451)]), (.iastore, o0), (.aload_n 0, o0), (.getfield 218, vN, 1, 1395000013, 95, 900012, [(0, 1479)]), (.bipush 10, oC (vI 10)), (.aload_n 0, o0), (.getfield 614, vN, 0, 1381, 81, 900012, [(0, 1465)]), (.iastore, o0), (.aload_n 0, o0), (.getfield 218, vN, 1, 1395000013, 95, 900012, [(0, 1479)]), (.bipush 11, oC (vI 11)), (.aload_n 0, o0), (.getfield 620, vN, 0, 1383, 83, 900012, [(0, 1467)]), (.iastore, o0), (.aload_n 0, o0), (.getfield 218, vN, 1, 1395000013, 95, 900012, [(0, 1479)]), (.bipush 12, oC (vI 12)), (.aload_n 0, o0), (.getfield 623, vN, 0, 1384, 84, 900012, [(0, 1468)]), (.iastore, o0), (.aload_n 0, o0), (.aload_n 0, o0), (.getfield 218, vN, 1, 1395000013, 95, 900012, [(0, 1479)]), (.bipush 13, oC (vI 13)), (.invokevirtual 632, vN, 328, 3, 0, 900012, [(0, 2226)]), (.aload_n 0, o0), (.aload_n 0, o0), (.getfield 64, vN, 1, 1330000100, 30, 900012, [(0, 1414)]), (.bipush 100, oC (vI 100)), (.invokevirtual 632, vN, 328, 3, 0, 900012, [(0, 2226)]), (.aload_n 0, o0), (.aload_n 0, o0), (.getfield 67, vN, 1, 1331000100, 31, 900012, [(0, 1415)]), (.bipush 100, oC (vI 100)), (.invokevirtual 632, vN, 328, 3, 0, 900012, [(0, 2226)]), (.aload_n 0, o0), (.aload_n 0, o0), (.getfield 70, vN, 1, 1332000040, 32, 900012, [(0, 1416)]), (.bipush 40, oC (vI 40)), (.invokevirtual 632, vN, 328, 3, 0, 900012, [(0, 2226)]), (.aload_n 0, o0), (.aload_n 0, o0), (.getfield 73, vN, 1, 1333000040, 33, 900012, [(0, 1417)]), (.bipush 40, oC (vI 40)), (.invokevirtual 632, vN, 328, 3, 0, 900012, [(0, 2226)]), (.aload_n 0, o0), (.aload_n 0, o0), (.getfield 76, vN, 1, 1334000040, 34, 900012, [(0, 1418)]), (.bipush 40, oC (vI 40)), (.invokevirtual 632, vN, 328, 3, 0, 900012, [(0, 2226)]), (.aload_n 0, o0), (.aload_n 0, o0), (.getfield 79, vN, 1, 1338000020, 38, 900012, [(0, 1422)]), (.bipush 20, oC (vI 20)), (.invokevirtual 632, vN, 328, 3, 0, 900012, [(0, 2226)]), (.aload_n 0, o0), (.aload_n 0, o0), (.getfield 82, vN, 1, 1339000120, 39, 900012, [(0, 1423)]), (.bipush 120, oC (vI 120)), (.invokevirtual 632, vN, 328, 3, 0, 900012, [(0, 2226)]), (.aload_n 0, o0), (.aload_n 0, o0), (.getfield 85, vN, 1, 1340000120, 40, 900012, [(0, 1424)]), (.bipush 120, oC (vI 120)), (.invokevirtual 632, vN, 328, 3, 0, 900012, [(0, 2226)]), (.aload_n 0, o0), (.aload_n 0, o0), (.getfield 88, vN, 1, 1341000120, 41, 900012, [(0, 1425)]), (.bipush 120, oC (vI 120)), (.invokevirtual 632, vN, 328, 3, 0, 900012, [(0, 2226)]), (.aload_n 0, o0), (.aload_n 0, o0), (.getfield 91, vN, 1, 1342000120, 42, 900012, [(0, 1426)]), (.bipush 120, oC (vI 120)), (.invokevirtual 632, vN, 328, 3, 0, 900012, [(0, 2226)]), (.aload_n 0, o0), (.aload_n 0, o0), (.getfield 94, vN, 1, 1343000120, 43, 900012, [(0, 1427)]), (.bipush 120, oC (vI 120)), (.invokevirtual 632, vN, 328, 3, 0, 900012, [(0, 2226)]), (.aload_n 0, o0), (.aload_n 0, o0), (.getfield 97, vN, 1, 1344000120, 44, 900012, [(0, 1428)]), (.bipush 120, oC (vI 120)), (.invokevirtual 632, vN, 328, 3, 0, 900012, [(0, 2226)]), (.aload_n 0, o0), (.aload_n 0, o0), (.getfield 100, vN, 1, 1345000120, 45, 900012, [(0, 1429)]), (.bipush 120, oC (vI 120)), (.invokevirtual 632, vN, 328, 3, 0, 900012, [(0, 2226)]), (.aload_n 0, o0), (.aload_n 0, o0), (.getfield 103, vN, 1, 1346000401, 46, 900012, [(0, 1430)]), (.sipush 401, oC (vI 401)), (.invokevirtual 632, vN, 328, 3, 0, 900012, [(0, 2226)]), (.aload_n 0, o0), (.aload_n 0, o0), (.getfield 106, vN, 1, 1347000401, 47, 900012, [(0, 1431)]), (.sipush 401, oC (vI 401)), (.invokevirtual 632, vN, 328, 3, 0, 900012, [(0, 2226)]), (.aload_n 0, o0), (.aload_n 0, o0), (.getfield 109, vN, 1, 1348000401, 48, 900012, [(0, 1432)]), (.sipush 401, oC (vI 401)), (.invokevirtual 632, vN, 328, 3, 0, 900012, [(0, 2226)]), (.aload_n 0, o0), (.aload_n 0, o0), (.getfield 112, vN, 1, 1349000401, 49, 900012, [(0, 1433)]), (.sipush 401, oC (vI 401)), (.invokevirtual 632, vN, 328, 3, 0, 900012, [(0, 2226)]), (.aload_n 0, o0), (.aload_n 0, o0), (.getfield 133, vN, 1, 1357000072, 57, 900012, [(0, 1441)]), (.bipush 72, oC (vI 72)), (.invokevirtual 632, vN, 328, 3, 0, 900012, [(0, 2226)]), (.aload_n 0, o0), (.aload_n 0, o0), (.getfield 143, vN, 1, 1362000007, 62, 900012, [(0, 1446)]), (.bipush 7, oC (vI 7)), (.invokevirtual 632, vN, 328, 3, 0, 900012, [(0, 2226)]), (.aload_n 0, o0), (.aload_n 0, o0), (.getfield 146, vN, 1, 1363000007, 63, 900012, [(0, 1447)]), (.bipush 7, oC (vI 7)), (.invokevirtual 632, vN, 328, 3, 0, 900012, [(0, 2226)]), (.aload_n 0, o0), (.aload_n 0, o0), (.getfield 155, vN, 1, 1368000008, 68, 900012, [(0, 1452)]), (.bipush 8, oC (vI 8)), (.invokevirtual 632, vN, 328, 3, 0, 900012, [(0, 2226)]), (.aload_n 0, o0), (.aload_n 0, o0), (.getfield 158, vN, 1, 1369000008, 69, 900012, [(0, 1453)]), (.bipush 8, oC (vI 8)), (.invokevirtual 632, vN, 328, 3, 0, 900012, [(0, 2226)]), (.aload_n 0, o0), (.aload_n 0, o0), (.getfield 161, vN, 1, 1370000008, 70, 900012, [(0, 1454)]), (.bipush 8, oC (vI 8)), (.invokevirtual 632, vN, 328, 3, 0, 900012, [(0, 2226)]), (.aload_n 0, o0), (.aload_n 0, o0), (.getfield 164, vN, 1, 1371000008, 71, 900012, [(0, 1455)]), (.bipush 8, oC (vI 8)), (.invokevirtual 632, vN, 328, 3, 0, 900012, [(0, 2226)]), (.aload_n 0, o0), (.aload_n 0, o0), (.getfield 173, vN, 1, 1374000020, 74, 900012, [(0, 1458)]), (.bipush 20, oC (vI 20)), (.invokevirtual 632, vN, 328, 3, 0, 900012, [(0, 2226)]), (.aload_n 0, o0), (.aload_n 0, o0), (.getfield 176, vN, 1, 1375000020, 75, 900012, [(0, 1459)]), (.bipush 20, oC (vI 20)), (.invokevirtual 632, vN, 328, 3, 0, 900012, [(0, 2226)]), (.aload_n 0, o0), (.aload_n 0, o0), (.getfield 179, vN, 1, 1376000020, 76, 900012, [(0, 1460)]), (.bipush 20, oC (vI 20)), (.invokevirtual 632, vN, 328, 3, 0, 900012, [(0, 2226)]), (.aload_n 0, o0), (.aload_n 0, o0), (.getfield 182, vN, 1, 1377000020, 77, 900012, [(0, 1461)]), (.bipush 20, oC (vI 20)), (.invokevirtual 632, vN, 328, 3, 0, 900012, [(0, 2226)]), (.aload_n 0, o0), (.aload_n 0, o0), (.getfield 191, vN, 1, 1382000012, 82, 900012, [(0, 1466)]), (.bipush 12, oC (vI 12)), (.invokevirtual 632, vN, 328, 3, 0, 900012, [(0, 2226)]), (.aload_n 0, o0), (.aload_n 0, o0), (.getfield 194, vN, 1, 1385000020, 85, 900012, [(0, 1469)]), (.bipush 20, oC (vI 20)), (.invokevirtual 632, vN, 328, 3, 0, 900012, [(0, 2226)]), (.aload_n 0, o0), (.aload_n 0, o0), (.getfield 197, vN, 1, 1386000020, 86, 900012, [(0, 1470)]), (.bipush 20, oC (vI 20)), (.invokevirtual 632, vN, 328, 3, 0, 900012, [(0, 2226)]), (.aload_n 0, o0), (.aload_n 0, o0), (.getfield 200, vN, 1, 1387000020, 87, 900012, [(0, 1471)]), (.bipush 20, oC (vI 20)), (.invokevirtual 632, vN, 328, 3, 0, 900012, [(0, 2226)]), (.aload_n 0, o0), (.aload_n 0, o0), (.getfield 203, vN, 1, 1388000010, 88, 900012, [(0, 1472)]), (.bipush 10, oC (vI 10)), (.invokevirtual 632, vN, 328, 3, 0, 900012, [(0, 2226)]), (.aload_n 0, o0), (.aload_n 0, o0), (.getfield 206, vN, 1, 1389000010, 89, 900012, [(0, 1473)]), (.bipush 10, oC (vI 10)), (.invokevirtual 632, vN, 328, 3, 0, 900012, [(0, 2226)]), (.aload_n 0, o0), (.aload_n 0, o0), (.getfield 209, vN, 1, 1390000010, 90, 900012, [(0, 1474)]), (.bipush 10, oC (vI 10)), (.invokevirtual 632, vN, 328, 3, 0, 900012, [(0, 2226)]), (.aload_n 0, o0), (.aload_n 0, o0), (.getfield 212, vN, 1, 1391000010, 91, 900012, [(0, 1475)]), (.bipush 10, oC (vI 10)), (.invokevirtual 632, vN, 328, 3, 0, 900012, [(0, 2226)]), (.aload_n 0, o0), (.dup, o0), (.getfield 629, vN, 0, 1392, 92, 900012, [(0, 1476)]), (.iconst 1, oC (vI 1)), (.iadd, o0), (.putfield 629, vN, 0, 1392, 92, 900012, [(0, 1476)]), (.aload_n 0, o0), (.getfield 629, vN, 0, 1392, 92, 900012, [(0, 1476)]), (.iconst 1, oC (vI 1)), (.isub, o0), (.ireturn, o0)], 2)]
def C_M_image : List Nat := []
set_option maxRecDepth 100000 in
def B_M_restore : List Blk := [(0, [(.iload_n 1, oA 1), (.iconst 0, oC (vI 0)), (.aload_n 0, o0), (.getfield 629, vN, 0, 1392, 92, 900012, [(0, 1476)]), (.iconst 1, oC (vI 1)), (.isub, o0), (.invokestatic 221, vN, 198, 3, 1, 0, [(0, 1686)]), (.ifCond .ne 5, oA 1), (.iconst 0, oC (vI 0)), (.ireturn, oA 1)], 1),
  (16, [(.aload_n 0, o0), (.sipush 4200, oC (vI 4200)), (.iload_n 1, oA 1), (.imul, o0), (.putfield 626, vN, 0, 1393, 93, 900012, [(0, 1477)]), (.aload_n 0, o0), (.aload_n 0, o0), (.getfield 218, vN, 1, 1395000013, 95, 900012, [(0, 1479)]), (.bipush 13, oC (vI 13)), (.invokevirtual 636, vN, 329, 3, 0, 900012, [(0, 2234)]), (.aload_n 0, o0), (.aload_n 0, o0), (.getfield 218, vN, 1, 1395000013, 95, 900012, [(0, 1479)]), (.iconst 0, oC (vI 0)), (.iaload, o0), (.putfield 388, vN, 0, 1326, 26, 900012, [(0, 1410)]), (.aload_n 0, o0), (.aload_n 0, o0), (.getfield 218, vN, 1, 1395000013, 95, 900012, [(0, 1479)]), (.iconst 1, oC (vI 1)), (.iaload, o0), (.putfield 391, vN, 0, 1327, 27, 900012, [(0, 1411)]), (.aload_n 0, o0), (.aload_n 0, o0), (.getfield 218, vN, 1, 1395000013, 95, 900012, [(0, 1479)]), (.iconst 2, oC (vI 2)), (.iaload, o0), (.putfield 525, vN, 0, 1328, 28, 900012, [(0, 1412)]), (.aload_n 0, o0), (.aload_n 0, o0), (.getfield 218, vN, 1, 1395000013, 95, 900012, [(0, 1479)]), (.iconst 3, oC (vI 3)), (.iaload, o0), (.putfield 528, vN, 0, 1329, 29, 900012, [(0, 1413)]), (.aload_n 0, o0), (.aload_n 0, o0), (.getfield 218, vN, 1, 1395000013, 95, 900012, [(0, 1479)]), (.iconst 4, oC (vI 4)), (.iaload, o0), (.putfield 402, vN, 0, 1335, 35, 900012, [(0, 1419)]), (.aload_n 0, o0), (.aload_n 0, o0), (.getfield 218, vN, 1, 1395000013, 95, 900012, [(0, 1479)]), (.iconst 5, oC (vI 5)), (.iaload, o0), (.putfield 405, vN, 0, 1336, 36, 900012, [(0, 1420)]), (.aload_n 0, o0), (.aload_n 0, o0), (.getfield 218, vN, 1, 1395000013, 95, 900012, [(0, 1479)]), (.bipush 6, oC (vI 6)), (.iaload, o0), (.putfield 408, vN, 0, 1337, 37, 900012, [(0, 1421)]), (.aload_n 0, o0), (.aload_n 0, o0), (.getfield 218, vN, 1, 1395000013, 95, 900012, [(0, 1479)]), (.bipush 7, oC (vI 7)), (.iaload, o0), (.putfield 564, vN, 0, 1360, 60, 900012, [(0, 1444)]), (.aload_n 0, o0), (.aload_n 0, o0), (.getfield 218, vN, 1, 1395000013, 95, 900012, [(0, 1479)]), (.bipush 8, oC (vI 8)), (.iaload, o0), (.putfield 580, vN, 0, 1366, 66, 900012, [(0, 1450)]), (.aload_n 0, o0), (.aload_n 0, o0), (.getfield 218, vN, 1, 1395000013, 95, 900012, [(0, 1479)]), (.bipush 9, oC (vI 9)), (.iaload, o0), (.putfield 583, vN, 0, 1367, 67, 900012, [(0, 1451)]), (.aload_n 0, o0), (.aload_n 0, o0), (.getfield 218, vN, 1, 1395000013, 95, 900012, [(0, 1479)]), (.bipush 10, oC (vI 10)), (.iaload, o0), (.putfield 614, vN, 0, 1381, 81, 900012, [(0, 1465)]), (.aload_n 0, o0), (.aload_n 0, o0), (.getfield 218, vN, 1, 1395000013, 95, 900012, [(0, 1479)]), (.bipush 11, oC (vI 11)), (.iaload, o0), (.putfield 620, vN, 0, 1383, 83, 900012, [(0, 1467)]), (.aload_n 0, o0), (.aload_n 0, o0), (.getfield 218, vN, 1, 1395000013, 95, 900012, [(0, 1479)]), (.bipush 12, oC (vI 12)), (.iaload, o0), (.putfield 623, vN, 0, 1384, 84, 900012, [(0, 1468)]), (.aload_n 0, o0), (.aload_n 0, o0), (.getfield 64, vN, 1, 1330000100, 30, 900012, [(0, 1414)]), (.bipush 100, oC (vI 100)), (.invokevirtual 636, vN, 329, 3, 0, 900012, [(0, 2234)]), (.aload_n 0, o0), (.aload_n 0, o0), (.getfield 67, vN, 1, 1331000100, 31, 900012, [(0, 1415)]), (.bipush 100, oC (vI 100)), (.invokevirtual 636, vN, 329, 3, 0, 900012, [(0, 2234)]), (.aload_n 0, o0), (.aload_n 0, o0), (.getfield 70, vN, 1, 1332000040, 32, 900012, [(0, 1416)]), (.bipush 40, oC (vI 40)), (.invokevirtual 636, vN, 329, 3, 0, 900012, [(0, 2234)]), (.aload_n 0, o0), (.aload_n 0, o0), (.getfield 73, vN, 1, 1333000040, 33, 900012, [(0, 1417)]), (.bipush 40, oC (vI 40)), (.invokevirtual 636, vN, 329, 3, 0, 900012, [(0, 2234)]), (.aload_n 0, o0), (.aload_n 0, o0), (.getfield 76, vN, 1, 1334000040, 34, 900012, [(0, 1418)]), (.bipush 40, oC (vI 40)), (.invokevirtual 636, vN, 329, 3, 0, 900012, [(0, 2234)]), (.aload_n 0, o0), (.aload_n 0, o0), (.getfield 79, vN, 1, 1338000020, 38, 900012, [(0, 1422)]), (.bipush 20, oC (vI 20)), (.invokevirtual 636, vN, 329, 3, 0, 900012, [(0, 2234)]), (.aload_n 0, o0), (.aload_n 0, o0), (.getfield 82, vN, 1, 1339000120, 39, 900012, [(0, 1423)]), (.bipush 120, oC (vI 120)), (.invokevirtual 636, vN, 329, 3, 0, 900012, [(0, 2234)]), (.aload_n 0, o0), (.aload_n 0, o0), (.getfield 85, vN, 1, 1340000120, 40, 900012, [(0, 1424)]), (.bipush 120, oC (vI 120)), (.invokevirtual 636, vN, 329, 3, 0, 900012, [(0, 2234)]), (.aload_n 0, o0), (.aload_n 0, o0), (.getfield 88, vN, 1, 1341000120, 41, 900012, [(0, 1425)]), (.bipush 120, oC (vI 120)), (.invokevirtual 636, vN, 329, 3, 0, 900012, [(0, 2234)]), (.aload_n 0, o0), (.aload_n 0, o0), (.getfield 91, vN, 1, 1342000120, 42, 900012, [(0, 1426)]), (.bipush 120, oC (vI 120)), (.invokevirtual 636, vN, 329, 3, 0, 900012, [(0, 2234)]), (.aload_n 0, o0), (.aload_n 0, o0), (.getfield 94, vN, 1, 1343000120, 43, 900012, [(0, 1427)]), (.bipush 120, oC (vI 120)), (.invokevirtual 636, vN, 329, 3, 0, 900012, [(0, 2234)]), (.aload_n 0, o0), (.aload_n 0, o0), (.getfield 97, vN, 1, 1344000120, 44, 900012, [(0, 1428)]), (.bipush 120, oC (vI 120)), (.invokevirtual 636, vN, 329, 3, 0, 900012, [(0, 2234)]), (.aload_n 0, o0), (.aload_n 0, o0), (.getfield 100, vN, 1, 1345000120, 45, 900012, [(0, 1429)]), (.bipush 120, oC (vI 120)), (.invokevirtual 636, vN, 329, 3, 0, 900012, [(0, 2234)]), (.aload_n 0, o0), (.aload_n 0, o0), (.getfield 103, vN, 1, 1346000401, 46, 900012, [(0, 1430)]), (.sipush 401, oC (vI 401)), (.invokevirtual 636, vN, 329, 3, 0, 900012, [(0, 2234)]), (.aload_n 0, o0), (.aload_n 0, o0), (.getfield 106, vN, 1, 1347000401, 47, 900012, [(0, 1431)]), (.sipush 401, oC (vI 401)), (.invokevirtual 636, vN, 329, 3, 0, 900012, [(0, 2234)]), (.aload_n 0, o0), (.aload_n 0, o0), (.getfield 109, vN, 1, 1348000401, 48, 900012, [(0, 1432)]), (.sipush 401, oC (vI 401)), (.invokevirtual 636, vN, 329, 3, 0, 900012, [(0, 2234)]), (.aload_n 0, o0), (.aload_n 0, o0), (.getfield 112, vN, 1, 1349000401, 49, 900012, [(0, 1433)]), (.sipush 401, oC (vI 401)), (.invokevirtual 636, vN, 329, 3, 0, 900012, [(0, 2234)]), (.aload_n 0, o0), (.aload_n 0, o0), (.getfield 133, vN, 1, 1357000072, 57, 900012, [(0, 1441)]), (.bipush 72, oC (vI 72)), (.invokevirtual 636, vN, 329, 3, 0, 900012, [(0, 2234)]), (.aload_n 0, o0), (.aload_n 0, o0), (.getfield 143, vN, 1, 1362000007, 62, 900012, [(0, 1446)]), (.bipush 7, oC (vI 7)), (.invokevirtual 636, vN, 329, 3, 0, 900012, [(0, 2234)]), (.aload_n 0, o0), (.aload_n 0, o0), (.getfield 146, vN, 1, 1363000007, 63, 900012, [(0, 1447)]), (.bipush 7, oC (vI 7)), (.invokevirtual 636, vN, 329, 3, 0, 900012, [(0, 2234)]), (.aload_n 0, o0), (.aload_n 0, o0), (.getfield 155, vN, 1, 1368000008, 68, 900012, [(0, 1452)]), (.bipush 8, oC (vI 8)), (.invokevirtual 636, vN, 329, 3, 0, 900012, [(0, 2234)]), (.aload_n 0, o0), (.aload_n 0, o0), (.getfield 158, vN, 1, 1369000008, 69, 900012, [(0, 1453)]), (.bipush 8, oC (vI 8)), (.invokevirtual 636, vN, 329, 3, 0, 900012, [(0, 2234)]), (.aload_n 0, o0), (.aload_n 0, o0), (.getfield 161, vN, 1, 1370000008, 70, 900012, [(0, 1454)]), (.bipush 8, oC (vI 8)), (.invokevirtual 636, vN, 329, 3, 0, 900012, [(0, 2234)]), (.aload_n 0, o0), (.aload_n 0, o0), (.getfield 164, vN, 1, 1371000008, 71, 900012, [(0, 1455)]), (.bipush 8, oC (vI 8)), (.invokevirtual 636, vN, 329, 3, 0, 900012, [(0, 2234)]), (.aload_n 0, o0), (.aload_n 0, o0), (.getfield 173, vN, 1, 1374000020, 74, 900012, [(0, 1458)]), (.bipush 20, oC (vI 20)), (.invokevirtual 636, vN, 329, 3, 0, 900012, [(0, 2234)]), (.aload_n 0, o0), (.aload_n 0, o0), (.getfield 176, vN, 1, 1375000020, 75, 900012, [(0, 1459)]), (.bipush 20, oC (vI 20)), (.invokevirtual 636, vN, 329, 3, 0, 900012, [(0, 2234)]), (.aload_n 0, o0), (.aload_n 0, o0), (.getfield 179, vN, 1, 1376000020, 76, 900012, [(0, 1460)]), (.bipush 20, oC (vI 20)), (.invokevirtual 636, vN, 329, 3, 0, 900012, [(0, 2234)]), (.aload_n 0, o0), (.aload_n 0, o0), (.getfield 182, vN, 1, 1377000020, 77, 900012, [(0, 1461)]), (.bipush 20, oC (vI 20)), (.invokevirtual 636, vN, 329, 3, 0, 900012, [(0, 2234)]), (.aload_n 0, o0), (.aload_n 0, o0), (.getfield 191, vN, 1, 1382000012, 82, 900012, [(0, 1466)]), (.bipush 12, oC (vI 12)), (.invokevirtual 636, vN, 329, 3, 0, 900012, [(0, 2234)]), (.aload_n 0, o0), (.aload_n 0, o0), (.getfield 194, vN, 1, 1385000020, 85, 900012, [(0, 1469)]), (.bipush 20, oC (vI 20)), (.invokevirtual 636, vN, 329, 3, 0, 900012, [(0, 2234)]), (.aload_n 0, o0), (.aload_n 0, o0), (.getfield 197, vN, 1, 1386000020, 86, 900012, [(0, 1470)]), (.bipush 20, oC (vI 20)), (.invokevirtual 636, vN, 329, 3, 0, 900012, [(0, 2234)]), (.aload_n 0, o0), (.aload_n 0, o0), (.getfield 200, vN, 1, 1387000020, 87, 900012, [(0, 1471)]), (.bipush 20, oC (vI 20)), (.invokevirtual 636, vN, 329, 3, 0, 900012, [(0, 2234)]), (.aload_n 0, o0), (.aload_n 0, o0), (.getfield 203, vN, 1, 1388000010, 88, 900012, [(0, 1472)]), (.bipush 10, oC (vI 10)), (.invokevirtual 636, vN, 329, 3, 0, 900012, [(0, 2234)]), (.aload_n 0, o0), (.aload_n 0, o0), (.getfield 206, vN, 1, 1389000010, 89, 900012, [(0, 1473)]), (.bipush 10, oC (vI 10)), (.invokevirtual 636, vN, 329, 3, 0, 900012, [(0, 2234)]), (.aload_n 0, o0), (.aload_n 0, o0), (.getfield 209, vN, 1, 1390000010, 90, 900012, [(0, 1474)]), (.bipush 10, oC (vI 10)), (.invokevirtual 636, vN, 329, 3, 0, 900012, [(0, 2234)]), (.aload_n 0, o0), (.aload_n 0, o0), (.getfield 212, vN, 1, 1391000010, 91, 900012, [(0, 1475)]), (.bipush 10, oC (vI 10)), (.invokevirtual 636, vN, 329, 3, 0, 900012, [(0, 2234)]), (.iconst 1, oC (vI 1)), (.ireturn, oA 1)], 2)]
def C_M_restore : List Nat := []
set_option maxRecDepth 100000 in
def B_M_count : List Blk := [(0, [(.iload_n 1, oA 1), (.sipush 200, oC (vI 200)), (.sipush 299, oC (vI 299)), (.invokestatic 221, vN, 198, 3, 1, 0, [(0, 1686)]), (.ifCond .eq 13, oA 1), (.aload_n 0, o0), (.iload_n 1, oA 1), (.sipush 200, oC (vI 200)), (.isub, o0), (.invokevirtual 427, vN, 240, 2, 1, 900012, [(0, 1891)]), (.ireturn, o0)], 1),
  (23, [(.iload_n 1, oA 1), (.tableswitch 145 0 13 #[72, 77, 82, 87, 92, 97, 102, 107, 112, 117, 125, 130, 135, 140], vN, 16, 0, 0, 0, [(0, 2), (1, 3), (2, 4), (3, 5), (4, 6), (5, 7), (6, 8), (7, 9), (8, 10), (9, 11), (10, 12), (11, 13), (12, 14), (13, 15)])], 2),
  (96, [(.aload_n 0, o0), (.getfield 374, vN, 0, 1300, 0, 900012, [(0, 1384)]), (.ireturn, o0)], 3),
  (101, [(.aload_n 0, o0), (.getfield 402, vN, 0, 1335, 35, 900012, [(0, 1419)]), (.ireturn, o0)], 4),
  (106, [(.aload_n 0, o0), (.getfield 405, vN, 0, 1336, 36, 900012, [(0, 1420)]), (.ireturn, o0)], 5),
  (111, [(.aload_n 0, o0), (.getfield 408, vN, 0, 1337, 37, 900012, [(0, 1421)]), (.ireturn, o0)], 6),
  (116, [(.aload_n 0, o0), (.getfield 388, vN, 0, 1326, 26, 900012, [(0, 1410)]), (.ireturn, o0)], 7),
  (121, [(.aload_n 0, o0), (.getfield 564, vN, 0, 1360, 60, 900012, [(0, 1444)]), (.ireturn, o0)], 8),
  (126, [(.aload_n 0, o0), (.getfield 580, vN, 0, 1366, 66, 900012, [(0, 1450)]), (.ireturn, o0)], 9),
  (131, [(.aload_n 0, o0), (.getfield 583, vN, 0, 1367, 67, 900012, [(0, 1451)]), (.ireturn, o0)], 10),
  (136, [(.aload_n 0, o0), (.getfield 226, vN, 0, 1303, 3, 900012, [(0, 1387)]), (.ireturn, o0)], 11),
  (141, [(.aload_n 0, o0), (.invokevirtual 542, vN, 291, 1, 1, 900012, [(0, 2066)]), (.invokestatic 423, vN, 199, 1, 1, 0, [(0, 1888)]), (.ireturn, o0)], 12),
  (149, [(.aload_n 0, o0), (.getfield 614, vN, 0, 1381, 81, 900012, [(0, 1465)]), (.ireturn, o0)], 13),
  (154, [(.aload_n 0, o0), (.getfield 620, vN, 0, 1383, 83, 900012, [(0, 1467)]), (.ireturn, o0)], 14),
  (159, [(.aload_n 0, o0), (.getfield 623, vN, 0, 1384, 84, 900012, [(0, 1468)]), (.ireturn, o0)], 15),
  (164, [(.aload_n 0, o0), (.getfield 629, vN, 0, 1392, 92, 900012, [(0, 1476)]), (.ireturn, o0)], 16),
  (169, [(.iconst (-1), oC (vI (-1))), (.ireturn, o0)], 17)]
def C_M_count : List Nat := []
set_option maxRecDepth 100000 in
def B_Integer_compare : List Blk := [(0, [(.iload_n 0, o0), (.iload_n 1, oA 1), (.if_icmp .ge 7, oA 1), (.iconst (-1), oC (vI (-1))), (.goto 13, oA 3)], 1),
  (9, [(.iload_n 0, o0), (.iload_n 1, oA 1), (.if_icmp .ne 7, oA 2), (.iconst 0, oC (vI 0)), (.goto 4, oA 3)], 2),
  (18, [(.iconst 1, oC (vI 1))], 3),
  (19, [(.ireturn, o0)], 4)]
def C_Integer_compare : List Nat := []
set_option maxRecDepth 100000 in
def B_Integer_bitCount : List Blk := [(0, [(.iload_n 0, o0), (.iload_n 0, o0), (.iconst 1, oC (vI 1)), (.iushr, o0), (.ldc_w 265, vI 1431655765, 0, 0, 0, 0, [(0, 817)]), (.iand, o0), (.isub, o0), (.istore_n 0, o0), (.iload_n 0, o0), (.ldc_w 266, vI 858993459, 0, 0, 0, 0, [(0, 818)]), (.iand, o0), (.iload_n 0, o0), (.iconst 2, oC (vI 2)), (.iushr, o0), (.ldc_w 266, vI 858993459, 0, 0, 0, 0, [(0, 818)]), (.iand, o0), (.iadd, o0), (.istore_n 0, o0), (.iload_n 0, o0), (.iload_n 0, o0), (.iconst 4, oC (vI 4)), (.iushr, o0), (.iadd, o0), (.ldc_w 267, vI 252645135, 0, 0, 0, 0, [(0, 819)]), (.iand, o0), (.istore_n 0, o0), (.iload_n 0, o0), (.iload_n 0, o0), (.bipush 8, oC (vI 8)), (.iushr, o0), (.iadd, o0), (.istore_n 0, o0), (.iload_n 0, o0), (.iload_n 0, o0), (.bipush 16, oC (vI 16)), (.iushr, o0), (.iadd, o0), (.istore_n 0, o0), (.iload_n 0, o0), (.bipush 63, oC (vI 63)), (.iand, o0), (.ireturn, o0)], 1)]
def C_Integer_bitCount : List Nat := []
set_option maxRecDepth 100000 in
def B_Math_abs : List Blk := [(0, [(.lload_n 0, o0), (.lconst 0, oC (vL 0)), (.lcmp, o0), (.ifCond .ge 8, oA 1), (.lload_n 0, o0), (.lneg, o0), (.goto 4, oA 2)], 1),
  (11, [(.lload_n 0, o0)], 2),
  (12, [(.lreturn, o0)], 3)]
def C_Math_abs : List Nat := []
set_option maxRecDepth 100000 in
def B_Math_max : List Blk := [(0, [(.iload_n 0, o0), (.iload_n 1, oA 1), (.if_icmp .lt 7, oA 1), (.iload_n 0, o0), (.goto 4, oA 2)], 1),
  (9, [(.iload_n 1, oA 1)], 2),
  (10, [(.ireturn, o0)], 3)]
def C_Math_max : List Nat := []
set_option maxRecDepth 100000 in
def B_Math_min : List Blk := [(0, [(.iload_n 0, o0), (.iload_n 1, oA 1), (.if_icmp .gt 7, oA 1), (.iload_n 0, o0), (.goto 4, oA 2)], 1),
  (9, [(.iload_n 1, oA 1)], 2),
  (10, [(.ireturn, o0)], 3)]
def C_Math_min : List Nat := []
set_option maxRecDepth 100000 in
def B_Arrays_fill_0 : List Blk := [(0, [(.iconst 0, oC (vI 0)), (.istore_n 3, oA 3), (.aload_n 0, o0), (.arraylength, vN, 0, 3, 0, 0, []), (.istore 4, oA 4)], 1),
  (6, [(.iload_n 3, oA 3), (.iload 4, oA 4), (.if_icmp .ge 13, oA 2), (.aload_n 0, o0), (.iload_n 3, oA 3), (.lload_n 1, oA 1), (.lastore, o0), (.iinc 3 1, vI 1, 3, 0, 0, 0, []), (.goto (-13), oA 1)], 2),
  (22, [(.return_, o0)], 3)]
def C_Arrays_fill_0 : List Nat := [1]
set_option maxRecDepth 100000 in
def B_Arrays_fill_1 : List Blk := [(0, [(.iconst 0, oC (vI 0)), (.istore_n 2, oA 2), (.aload_n 0, o0), (.arraylength, o0), (.istore_n 3, oA 3)], 1),
  (5, [(.iload_n 2, oA 2), (.iload_n 3, oA 3), (.if_icmp .ge 13, oA 2), (.aload_n 0, o0), (.iload_n 2, oA 2), (.iload_n 1, oA 1), (.iastore, o0), (.iinc 2 1, vI 1, 2, 0, 0, 0, []), (.goto (-12), oA 1)], 2),
  (20, [(.return_, o0)], 3)]
def C_Arrays_fill_1 : List Nat := [1]
set_option maxRecDepth 100000 in
def B_Law0_law : List Blk := [(0, [(.new 7, vN, 900011, 1200, 14, 0, [(0, 22)]), (.dup, o0), (.invokespecial 9, vN, 123, 1, 16231, 900011, [(0, 24)]), (.astore_n 1, oA 1), (.new 10, vN, 900012, 1300, 96, 0, [(0, 1378)]), (.dup, o0), (.invokespecial 12, vN, 197, 1, 64340240820872471268617617152, 900012, [(0, 1380)]), (.astore_n 2, oA 2), (.iconst 0, oC (vI 0)), (.istore_n 3, oA 3)], 1),
  (18, [(.iload_n 3, oA 3), (.aload_n 0, o0), (.arraylength, oA 1), (.bipush 6, oC (vI 6)), (.isub, o0), (.if_icmp .gt 2118, oA 60), (.aload_n 0, o0), (.iload_n 3, oA 3), (.iaload, oA 1), (.bipush 63, oC (vI 63)), (.iand, o0), (.tableswitch 2103 0 52 #[227, 290, 323, 336, 369, 402, 445, 468, 501, 554, 587, 620, 653, 696, 719, 742, 775, 808, 851, 884, 917, 960, 993, 1036, 1099, 1142, 1175, 1208, 1261, 1304, 1348, 1381, 1434, 1467, 1490, 1513, 1546, 1569, 1592, 1615, 1674, 1697, 1740, 1773, 1816, 1849, 1872, 1915, 1958, 2011, 2044, 2057, 2080], vN, 59, 0, 0, 0, [(0, 2), (1, 3), (2, 4), (3, 5), (4, 6), (5, 7), (6, 8), (7, 9), (8, 10), (9, 11), (10, 12), (11, 13), (12, 14), (13, 15), (14, 16), (15, 17), (16, 18), (17, 19), (18, 20), (19, 21), (20, 22), (21, 23), (22, 24), (23, 25), (24, 26), (25, 27), (26, 28), (27, 29), (28, 30), (29, 31), (30, 32), (31, 33), (32, 34), (33, 35), (34, 36), (35, 37), (36, 38), (37, 39), (38, 40), (39, 41), (40, 46), (41, 47), (42, 48), (43, 49), (44, 50), (45, 51), (46, 52), (47, 53), (48, 54), (49, 55), (50, 56), (51, 57), (52, 58)])], 2),
  (260, [(.aload_n 1, oA 1), (.aload_n 0, o0), (.iload_n 3, oA 3), (.iconst 1, oC (vI 1)), (.iadd, o0), (.iaload, oA 1), (.aload_n 0, o0), (.iload_n 3, oA 3), (.iconst 2, oC (vI 2)), (.iadd, o0), (.iaload, oA 1), (.aload_n 0, o0), (.iload_n 3, oA 3), (.iconst 3, oC (vI 3)), (.iadd, o0), (.iaload, oA 1), (.aload_n 0, o0), (.iload_n 3, oA 3), (.iconst 4, oC (vI 4)), (.iadd, o0), (.iaload, oA 1), (.aload_n 0, o0), (.iload_n 3, oA 3), (.iconst 5, oC (vI 5)), (.iadd, o0), (.iaload, oA 1), (.invokevirtual 13, vN, 124, 6, 1, 900011, [(0, 550)]), (.aload_n 2, oA 2), (.aload_n 0, o0), (.iload_n 3, oA 3), (.iconst 1, oC (vI 1)), (.iadd, o0), (.iaload, oA 1), (.aload_n 0, o0), (.iload_n 3, oA 3), (.iconst 2, oC (vI 2)), (.iadd, o0), (.iaload, oA 1), (.aload_n 0, o0), (.iload_n 3, oA 3), (.iconst 3, oC (vI 3)), (.iadd, o0), (.iaload, oA 1), (.aload_n 0, o0), (.iload_n 3, oA 3), (.iconst 4, oC (vI 4)), (.iadd, o0), (.iaload, oA 1), (.aload_n 0, o0), (.iload_n 3, oA 3), (.iconst 5, oC (vI 5)), (.iadd, o0), (.iaload, oA 1), (.invokevirtual 17, vN, 206, 6, 1, 900012, [(0, 1674)]), (.if_icmp .eq 1818, oA 59), (.iconst 0, oC (vI 0)), (.ireturn, oA 1)], 3),
  (323, [(.aload_n 1, oA 1), (.aload_n 0, o0), (.iload_n 3, oA 3), (.iconst 1, oC (vI 1)), (.iadd, o0), (.iaload, oA 1), (.aload_n 0, o0), (.iload_n 3, oA 3), (.iconst 2, oC (vI 2)), (.iadd, o0), (.iaload, oA 1), (.invokevirtual 18, vN, 125, 3, 1, 900011, [(0, 562)]), (.aload_n 2, oA 2), (.aload_n 0, o0), (.iload_n 3, oA 3), (.iconst 1, oC (vI 1)), (.iadd, o0), (.iaload, oA 1), (.aload_n 0, o0), (.iload_n 3, oA 3), (.iconst 2, oC (vI 2)), (.iadd, o0), (.iaload, oA 1), (.invokevirtual 22, vN, 230, 3, 1, 900012, [(0, 1682)]), (.if_icmp .eq 1785, oA 59), (.iconst 0, oC (vI 0)), (.ireturn, oA 1)], 4),
  (356, [(.aload_n 1, oA 1), (.invokevirtual 23, vN, 126, 1, 1, 900011, [(0, 721)]), (.aload_n 2, oA 2), (.invokevirtual 27, vN, 231, 1, 1, 900012, [(0, 1802)]), (.if_icmp .eq 1772, oA 59), (.iconst 0, oC (vI 0)), (.ireturn, oA 1)], 5),
  (369, [(.aload_n 1, oA 1), (.aload_n 0, o0), (.iload_n 3, oA 3), (.iconst 1, oC (vI 1)), (.iadd, o0), (.iaload, oA 1), (.aload_n 0, o0), (.iload_n 3, oA 3), (.iconst 2, oC (vI 2)), (.iadd, o0), (.iaload, oA 1), (.invokevirtual 28, vN, 127, 3, 1, 900011, [(0, 725)]), (.aload_n 2, oA 2), (.aload_n 0, o0), (.iload_n 3, oA 3), (.iconst 1, oC (vI 1)), (.iadd, o0), (.iaload, oA 1), (.aload_n 0, o0), (.iload_n 3, oA 3), (.iconst 2, oC (vI 2)), (.iadd, o0), (.iaload, oA 1), (.invokevirtual 31, vN, 234, 3, 1, 900012, [(0, 1806)]), (.if_icmp .eq 1739, oA 59), (.iconst 0, oC (vI 0)), (.ireturn, oA 1)], 6),
  (402, [(.aload_n 1, oA 1), (.aload_n 0, o0), (.iload_n 3, oA 3), (.iconst 1, oC (vI 1)), (.iadd, o0), (.iaload, oA 1), (.aload_n 0, o0), (.iload_n 3, oA 3), (.iconst 2, oC (vI 2)), (.iadd, o0), (.iaload, oA 1), (.invokevirtual 32, vN, 128, 3, 1, 900011, [(0, 741)]), (.aload_n 2, oA 2), (.aload_n 0, o0), (.iload_n 3, oA 3), (.iconst 1, oC (vI 1)), (.iadd, o0), (.iaload, oA 1), (.aload_n 0, o0), (.iload_n 3, oA 3), (.iconst 2, oC (vI 2)), (.iadd, o0), (.iaload, oA 1), (.invokevirtual 36, vN, 235, 3, 1, 900012, [(0, 1818)]), (.if_icmp .eq 1706, oA 59), (.iconst 0, oC (vI 0)), (.ireturn, oA 1)], 7),
  (435, [(.aload_n 1, oA 1), (.aload_n 0, o0), (.iload_n 3, oA 3), (.iconst 1, oC (vI 1)), (.iadd, o0), (.iaload, oA 1), (.aload_n 0, o0), (.iload_n 3, oA 3), (.iconst 2, oC (vI 2)), (.iadd, o0), (.iaload, oA 1), (.aload_n 0, o0), (.iload_n 3, oA 3), (.iconst 3, oC (vI 3)), (.iadd, o0), (.iaload, oA 1), (.invokevirtual 37, vN, 129, 4, 1, 900011, [(0, 748)]), (.aload_n 2, oA 2), (.aload_n 0, o0), (.iload_n 3, oA 3), (.iconst 1, oC (vI 1)), (.iadd, o0), (.iaload, oA 1), (.aload_n 0, o0), (.iload_n 3, oA 3), (.iconst 2, oC (vI 2)), (.iadd, o0), (.iaload, oA 1), (.aload_n 0, o0), (.iload_n 3, oA 3), (.iconst 3, oC (vI 3)), (.iadd, o0), (.iaload, oA 1), (.invokevirtual 41, vN, 236, 4, 1, 900012, [(0, 1822)]), (.if_icmp .eq 1663, oA 59), (.iconst 0, oC (vI 0)), (.ireturn, oA 1)], 8),
  (478, [(.aload_n 1, oA 1), (.aload_n 0, o0), (.iload_n 3, oA 3), (.iconst 1, oC (vI 1)), (.iadd, o0), (.iaload, oA 1), (.invokevirtual 42, vN, 130, 2, 1, 900011, [(0, 759)]), (.aload_n 2, oA 2), (.aload_n 0, o0), (.iload_n 3, oA 3), (.iconst 1, oC (vI 1)), (.iadd, o0), (.iaload, oA 1), (.invokevirtual 46, vN, 241, 2, 1, 900012, [(0, 1834)]), (.if_icmp .eq 1640, oA 59), (.iconst 0, oC (vI 0)), (.ireturn, oA 1)], 9),
  (501, [(.aload_n 1, oA 1), (.aload_n 0, o0), (.iload_n 3, oA 3), (.iconst 1, oC (vI 1)), (.iadd, o0), (.iaload, oA 1), (.aload_n 0, o0), (.iload_n 3, oA 3), (.iconst 2, oC (vI 2)), (.iadd, o0), (.iaload, oA 1), (.invokevirtual 47, vN, 131, 3, 1, 900011, [(0, 770)]), (.aload_n 2, oA 2), (.aload_n 0, o0), (.iload_n 3, oA 3), (.iconst 1, oC (vI 1)), (.iadd, o0), (.iaload, oA 1), (.aload_n 0, o0), (.iload_n 3, oA 3), (.iconst 2, oC (vI 2)), (.iadd, o0), (.iaload, oA 1), (.invokevirtual 50, vN, 254, 3, 1, 900012, [(0, 1841)]), (.if_icmp .eq 1607, oA 59), (.iconst 0, oC (vI 0)), (.ireturn, oA 1)], 10),
  (534, [(.aload_n 1, oA 1), (.aload_n 0, o0), (.iload_n 3, oA 3), (.iconst 1, oC (vI 1)), (.iadd, o0), (.iaload, oA 1), (.aload_n 0, o0), (.iload_n 3, oA 3), (.iconst 2, oC (vI 2)), (.iadd, o0), (.iaload, oA 1), (.aload_n 0, o0), (.iload_n 3, oA 3), (.iconst 3, oC (vI 3)), (.iadd, o0), (.iaload, oA 1), (.aload_n 0, o0), (.iload_n 3, oA 3), (.iconst 4, oC (vI 4)), (.iadd, o0), (.iaload, oA 1), (.invokevirtual 51, vN, 132, 5, 1, 900011, [(0, 837)]), (.aload_n 2, oA 2), (.aload_n 0, o0), (.iload_n 3, oA 3), (.iconst 1, oC (vI 1)), (.iadd, o0), (.iaload, oA 1), (.aload_n 0, o0), (.iload_n 3, oA 3), (.iconst 2, oC (vI 2)), (.iadd, o0), (.iaload, oA 1), (.aload_n 0, o0), (.iload_n 3, oA 3), (.iconst 3, oC (vI 3)), (.iadd, o0), (.iaload, oA 1), (.aload_n 0, o0), (.iload_n 3, oA 3), (.iconst 4, oC (vI 4)), (.iadd, o0), (.iaload, oA 1), (.invokevirtual 55, vN, 256, 5, 1, 900012, [(0, 1900)]), (.if_icmp .eq 1554, oA 59), (.iconst 0, oC (vI 0)), (.ireturn, oA 1)], 11),
  (587, [(.aload_n 1, oA 1), (.aload_n 0, o0), (.iload_n 3, oA 3), (.iconst 1, oC (vI 1)), (.iadd, o0), (.iaload, oA 1), (.aload_n 0, o0), (.iload_n 3, oA 3), (.iconst 2, oC (vI 2)), (.iadd, o0), (.iaload, oA 1), (.invokevirtual 56, vN, 133, 3, 1, 900011, [(0, 857)]), (.aload_n 2, oA 2), (.aload_n 0, o0), (.iload_n 3, oA 3), (.iconst 1, oC (vI 1)), (.iadd, o0), (.iaload, oA 1), (.aload_n 0, o0), (.iload_n 3, oA 3), (.iconst 2, oC (vI 2)), (.iadd, o0), (.iaload, oA 1), (.invokevirtual 59, vN, 258, 3, 1, 900012, [(0, 1908)]), (.if_icmp .eq 1521, oA 59), (.iconst 0, oC (vI 0)), (.ireturn, oA 1)], 12),
  (620, [(.aload_n 1, oA 1), (.aload_n 0, o0), (.iload_n 3, oA 3), (.iconst 1, oC (vI 1)), (.iadd, o0), (.iaload, oA 1), (.aload_n 0, o0), (.iload_n 3, oA 3), (.iconst 2, oC (vI 2)), (.iadd, o0), (.iaload, oA 1), (.invokevirtual 60, vN, 134, 3, 1, 900011, [(0, 878)]), (.aload_n 2, oA 2), (.aload_n 0, o0), (.iload_n 3, oA 3), (.iconst 1, oC (vI 1)), (.iadd, o0), (.iaload, oA 1), (.aload_n 0, o0), (.iload_n 3, oA 3), (.iconst 2, oC (vI 2)), (.iadd, o0), (.iaload, oA 1), (.invokevirtual 63, vN, 259, 3, 1, 900012, [(0, 1920)]), (.if_icmp .eq 1488, oA 59), (.iconst 0, oC (vI 0)), (.ireturn, oA 1)], 13),
  (653, [(.aload_n 1, oA 1), (.aload_n 0, o0), (.iload_n 3, oA 3), (.iconst 1, oC (vI 1)), (.iadd, o0), (.iaload, oA 1), (.aload_n 0, o0), (.iload_n 3, oA 3), (.iconst 2, oC (vI 2)), (.iadd, o0), (.iaload, oA 1), (.invokevirtual 64, vN, 135, 3, 1, 900011, [(0, 886)]), (.aload_n 2, oA 2), (.aload_n 0, o0), (.iload_n 3, oA 3), (.iconst 1, oC (vI 1)), (.iadd, o0), (.iaload, oA 1), (.aload_n 0, o0), (.iload_n 3, oA 3), (.iconst 2, oC (vI 2)), (.iadd, o0), (.iaload, oA 1), (.invokevirtual 67, vN, 260, 3, 1, 900012, [(0, 1924)]), (.if_icmp .eq 1455, oA 59), (.iconst 0, oC (vI 0)), (.ireturn, oA 1)], 14),
  (686, [(.aload_n 1, oA 1), (.aload_n 0, o0), (.iload_n 3, oA 3), (.iconst 1, oC (vI 1)), (.iadd, o0), (.iaload, oA 1), (.aload_n 0, o0), (.iload_n 3, oA 3), (.iconst 2, oC (vI 2)), (.iadd, o0), (.iaload, oA 1), (.aload_n 0, o0), (.iload_n 3, oA 3), (.iconst 3, oC (vI 3)), (.iadd, o0), (.iaload, oA 1), (.invokevirtual 68, vN, 136, 4, 1, 900011, [(0, 890)]), (.aload_n 2, oA 2), (.aload_n 0, o0), (.iload_n 3, oA 3), (.iconst 1, oC (vI 1)), (.iadd, o0), (.iaload, oA 1), (.aload_n 0, o0), (.iload_n 3, oA 3), (.iconst 2, oC (vI 2)), (.iadd, o0), (.iaload, oA 1), (.aload_n 0, o0), (.iload_n 3, oA 3), (.iconst 3, oC (vI 3)), (.iadd, o0), (.iaload, oA 1), (.invokevirtual 71, vN, 261, 4, 1, 900012, [(0, 1928)]), (.if_icmp .eq 1412, oA 59), (.iconst 0, oC (vI 0)), (.ireturn, oA 1)], 15),
  (729, [(.aload_n 1, oA 1), (.aload_n 0, o0), (.iload_n 3, oA 3), (.iconst 1, oC (vI 1)), (.iadd, o0), (.iaload, oA 1), (.invokevirtual 72, vN, 137, 2, 1, 900011, [(0, 894)]), (.aload_n 2, oA 2), (.aload_n 0, o0), (.iload_n 3, oA 3), (.iconst 1, oC (vI 1)), (.iadd, o0), (.iaload, oA 1), (.invokevirtual 76, vN, 238, 2, 1, 900012, [(0, 1826)]), (.if_icmp .eq 1389, oA 59), (.iconst 0, oC (vI 0)), (.ireturn, oA 1)], 16),
  (752, [(.aload_n 1, oA 1), (.aload_n 0, o0), (.iload_n 3, oA 3), (.iconst 1, oC (vI 1)), (.iadd, o0), (.iaload, oA 1), (.invokevirtual 77, vN, 138, 2, 1, 900011, [(0, 898)]), (.aload_n 2, oA 2), (.aload_n 0, o0), (.iload_n 3, oA 3), (.iconst 1, oC (vI 1)), (.iadd, o0), (.iaload, oA 1), (.invokevirtual 80, vN, 239, 2, 1, 900012, [(0, 1830)]), (.if_icmp .eq 1366, oA 59), (.iconst 0, oC (vI 0)), (.ireturn, oA 1)], 17),
  (775, [(.aload_n 1, oA 1), (.aload_n 0, o0), (.iload_n 3, oA 3), (.iconst 1, oC (vI 1)), (.iadd, o0), (.iaload, oA 1), (.aload_n 0, o0), (.iload_n 3, oA 3), (.iconst 2, oC (vI 2)), (.iadd, o0), (.iaload, oA 1), (.invokevirtual 81, vN, 139, 3, 1, 900011, [(0, 902)]), (.aload_n 2, oA 2), (.aload_n 0, o0), (.iload_n 3, oA 3), (.iconst 1, oC (vI 1)), (.iadd, o0), (.iaload, oA 1), (.aload_n 0, o0), (.iload_n 3, oA 3), (.iconst 2, oC (vI 2)), (.iadd, o0), (.iaload, oA 1), (.invokevirtual 84, vN, 262, 3, 1, 900012, [(0, 1932)]), (.if_icmp .eq 1333, oA 59), (.iconst 0, oC (vI 0)), (.ireturn, oA 1)], 18),
  (808, [(.aload_n 1, oA 1), (.aload_n 0, o0), (.iload_n 3, oA 3), (.iconst 1, oC (vI 1)), (.iadd, o0), (.iaload, oA 1), (.aload_n 0, o0), (.iload_n 3, oA 3), (.iconst 2, oC (vI 2)), (.iadd, o0), (.iaload, oA 1), (.invokevirtual 85, vN, 140, 3, 1, 900011, [(0, 910)]), (.aload_n 2, oA 2), (.aload_n 0, o0), (.iload_n 3, oA 3), (.iconst 1, oC (vI 1)), (.iadd, o0), (.iaload, oA 1), (.aload_n 0, o0), (.iload_n 3, oA 3), (.iconst 2, oC (vI 2)), (.iadd, o0), (.iaload, oA 1), (.invokevirtual 88, vN, 263, 3, 1, 900012, [(0, 1936)]), (.if_icmp .eq 1300, oA 59), (.iconst 0, oC (vI 0)), (.ireturn, oA 1)], 19),
  (841, [(.aload_n 1, oA 1), (.aload_n 0, o0), (.iload_n 3, oA 3), (.iconst 1, oC (vI 1)), (.iadd, o0), (.iaload, oA 1), (.aload_n 0, o0), (.iload_n 3, oA 3), (.iconst 2, oC (vI 2)), (.iadd, o0), (.iaload, oA 1), (.aload_n 0, o0), (.iload_n 3, oA 3), (.iconst 3, oC (vI 3)), (.iadd, o0), (.iaload, oA 1), (.invokevirtual 89, vN, 141, 4, 1, 900011, [(0, 922)]), (.aload_n 2, oA 2), (.aload_n 0, o0), (.iload_n 3, oA 3), (.iconst 1, oC (vI 1)), (.iadd, o0), (.iaload, oA 1), (.aload_n 0, o0), (.iload_n 3, oA 3), (.iconst 2, oC (vI 2)), (.iadd, o0), (.iaload, oA 1), (.aload_n 0, o0), (.iload_n 3, oA 3), (.iconst 3, oC (vI 3)), (.iadd, o0), (.iaload, oA 1), (.invokevirtual 92, vN, 274, 4, 1, 900012, [(0, 1944)]), (.if_icmp .eq 1257, oA 59), (.iconst 0, oC (vI 0)), (.ireturn, oA 1)], 20),
  (884, [(.aload_n 1, oA 1), (.aload_n 0, o0), (.iload_n 3, oA 3), (.iconst 1, oC (vI 1)), (.iadd, o0), (.iaload, oA 1), (.aload_n 0, o0), (.iload_n 3, oA 3), (.iconst 2, oC (vI 2)), (.iadd, o0), (.iaload, oA 1), (.invokevirtual 93, vN, 142, 3, 1, 900011, [(0, 1004)]), (.aload_n 2, oA 2), (.aload_n 0, o0), (.iload_n 3, oA 3), (.iconst 1, oC (vI 1)), (.iadd, o0), (.iaload, oA 1), (.aload_n 0, o0), (.iload_n 3, oA 3), (.iconst 2, oC (vI 2)), (.iadd, o0), (.iaload, oA 1), (.invokevirtual 96, vN, 275, 3, 1, 900012, [(0, 1998)]), (.if_icmp .eq 1224, oA 59), (.iconst 0, oC (vI 0)), (.ireturn, oA 1)], 21),
  (917, [(.aload_n 1, oA 1), (.aload_n 0, o0), (.iload_n 3, oA 3), (.iconst 1, oC (vI 1)), (.iadd, o0), (.iaload, oA 1), (.aload_n 0, o0), (.iload_n 3, oA 3), (.iconst 2, oC (vI 2)), (.iadd, o0), (.iaload, oA 1), (.invokevirtual 97, vN, 143, 3, 1, 900011, [(0, 1008)]), (.aload_n 2, oA 2), (.aload_n 0, o0), (.iload_n 3, oA 3), (.iconst 1, oC (vI 1)), (.iadd, o0), (.iaload, oA 1), (.aload_n 0, o0), (.iload_n 3, oA 3), (.iconst 2, oC (vI 2)), (.iadd, o0), (.iaload, oA 1), (.invokevirtual 100, vN, 277, 3, 1, 900012, [(0, 2002)]), (.if_icmp .eq 1191, oA 59), (.iconst 0, oC (vI 0)), (.ireturn, oA 1)], 22),
  (950, [(.aload_n 1, oA 1), (.aload_n 0, o0), (.iload_n 3, oA 3), (.iconst 1, oC (vI 1)), (.iadd, o0), (.iaload, oA 1), (.aload_n 0, o0), (.iload_n 3, oA 3), (.iconst 2, oC (vI 2)), (.iadd, o0), (.iaload, oA 1), (.aload_n 0, o0), (.iload_n 3, oA 3), (.iconst 3, oC (vI 3)), (.iadd, o0), (.iaload, oA 1), (.invokevirtual 101, vN, 144, 4, 1, 900011, [(0, 1017)]), (.aload_n 2, oA 2), (.aload_n 0, o0), (.iload_n 3, oA 3), (.iconst 1, oC (vI 1)), (.iadd, o0), (.iaload, oA 1), (.aload_n 0, o0), (.iload_n 3, oA 3), (.iconst 2, oC (vI 2)), (.iadd, o0), (.iaload, oA 1), (.aload_n 0, o0), (.iload_n 3, oA 3), (.iconst 3, oC (vI 3)), (.iadd, o0), (.iaload, oA 1), (.invokevirtual 104, vN, 279, 4, 1, 900012, [(0, 2010)]), (.if_icmp .eq 1148, oA 59), (.iconst 0, oC (vI 0)), (.ireturn, oA 1)], 23),
  (993, [(.aload_n 1, oA 1), (.aload_n 0, o0), (.iload_n 3, oA 3), (.iconst 1, oC (vI 1)), (.iadd, o0), (.iaload, oA 1), (.aload_n 0, o0), (.iload_n 3, oA 3), (.iconst 2, oC (vI 2)), (.iadd, o0), (.iaload, oA 1), (.invokevirtual 105, vN, 145, 3, 1, 900011, [(0, 1025)]), (.aload_n 2, oA 2), (.aload_n 0, o0), (.iload_n 3, oA 3), (.iconst 1, oC (vI 1)), (.iadd, o0), (.iaload, oA 1), (.aload_n 0, o0), (.iload_n 3, oA 3), (.iconst 2, oC (vI 2)), (.iadd, o0), (.iaload, oA 1), (.invokevirtual 108, vN, 280, 3, 1, 900012, [(0, 2018)]), (.if_icmp .eq 1115, oA 59), (.iconst 0, oC (vI 0)), (.ireturn, oA 1)], 24),
  (1026, [(.aload_n 1, oA 1), (.aload_n 0, o0), (.iload_n 3, oA 3), (.iconst 1, oC (vI 1)), (.iadd, o0), (.iaload, oA 1), (.aload_n 0, o0), (.iload_n 3, oA 3), (.iconst 2, oC (vI 2)), (.iadd, o0), (.iaload, oA 1), (.aload_n 0, o0), (.iload_n 3, oA 3), (.iconst 3, oC (vI 3)), (.iadd, o0), (.iaload, oA 1), (.invokevirtual 109, vN, 146, 4, 1, 900011, [(0, 1030)]), (.aload_n 2, oA 2), (.aload_n 0, o0), (.iload_n 3, oA 3), (.iconst 1, oC (vI 1)), (.iadd, o0), (.iaload, oA 1), (.aload_n 0, o0), (.iload_n 3, oA 3), (.iconst 2, oC (vI 2)), (.iadd, o0), (.iaload, oA 1), (.aload_n 0, o0), (.iload_n 3, oA 3), (.iconst 3, oC (vI 3)), (.iadd, o0), (.iaload, oA 1), (.invokevirtual 112, vN, 281, 4, 1, 900012, [(0, 2022)]), (.if_icmp .eq 1072, oA 59), (.iconst 0, oC (vI 0)), (.ireturn, oA 1)], 25),
  (1069, [(.aload_n 1, oA 1), (.aload_n 0, o0), (.iload_n 3, oA 3), (.iconst 1, oC (vI 1)), (.iadd, o0), (.iaload, oA 1), (.aload_n 0, o0), (.iload_n 3, oA 3), (.iconst 2, oC (vI 2)), (.iadd, o0), (.iaload, oA 1), (.aload_n 0, o0), (.iload_n 3, oA 3), (.iconst 3, oC (vI 3)), (.iadd, o0), (.iaload, oA 1), (.aload_n 0, o0), (.iload_n 3, oA 3), (.iconst 4, oC (vI 4)), (.iadd, o0), (.iaload, oA 1), (.aload_n 0, o0), (.iload_n 3, oA 3), (.iconst 5, oC (vI 5)), (.iadd, o0), (.iaload, oA 1), (.invokevirtual 113, vN, 147, 6, 1, 900011, [(0, 1040)]), (.aload_n 2, oA 2), (.aload_n 0, o0), (.iload_n 3, oA 3), (.iconst 1, oC (vI 1)), (.iadd, o0), (.iaload, oA 1), (.aload_n 0, o0), (.iload_n 3, oA 3), (.iconst 2, oC (vI 2)), (.iadd, o0), (.iaload, oA 1), (.aload_n 0, o0), (.iload_n 3, oA 3), (.iconst 3, oC (vI 3)), (.iadd, o0), (.iaload, oA 1), (.aload_n 0, o0), (.iload_n 3, oA 3), (.iconst 4, oC (vI 4)), (.iadd, o0), (.iaload, oA 1), (.aload_n 0, o0), (.iload_n 3, oA 3), (.iconst 5, oC (vI 5)), (.iadd, o0), (.iaload, oA 1), (.invokevirtual 116, vN, 283, 6, 1, 900012, [(0, 2026)]), (.if_icmp .eq 1009, oA 59), (.iconst 0, oC (vI 0)), (.ireturn, oA 1)], 26),
  (1132, [(.aload_n 1, oA 1), (.aload_n 0, o0), (.iload_n 3, oA 3), (.iconst 1, oC (vI 1)), (.iadd, o0), (.iaload, oA 1), (.aload_n 0, o0), (.iload_n 3, oA 3), (.iconst 2, oC (vI 2)), (.iadd, o0), (.iaload, oA 1), (.aload_n 0, o0), (.iload_n 3, oA 3), (.iconst 3, oC (vI 3)), (.iadd, o0), (.iaload, oA 1), (.invokevirtual 117, vN, 148, 4, 1, 900011, [(0, 1048)]), (.aload_n 2, oA 2), (.aload_n 0, o0), (.iload_n 3, oA 3), (.iconst 1, oC (vI 1)), (.iadd, o0), (.iaload, oA 1), (.aload_n 0, o0), (.iload_n 3, oA 3), (.iconst 2, oC (vI 2)), (.iadd, o0), (.iaload, oA 1), (.aload_n 0, o0), (.iload_n 3, oA 3), (.iconst 3, oC (vI 3)), (.iadd, o0), (.iaload, oA 1), (.invokevirtual 120, vN, 285, 4, 1, 900012, [(0, 2034)]), (.if_icmp .eq 966, oA 59), (.iconst 0, oC (vI 0)), (.ireturn, oA 1)], 27),
  (1175, [(.aload_n 1, oA 1), (.aload_n 0, o0), (.iload_n 3, oA 3), (.iconst 1, oC (vI 1)), (.iadd, o0), (.iaload, oA 1), (.aload_n 0, o0), (.iload_n 3, oA 3), (.iconst 2, oC (vI 2)), (.iadd, o0), (.iaload, oA 1), (.invokevirtual 121, vN, 149, 3, 1, 900011, [(0, 1060)]), (.aload_n 2, oA 2), (.aload_n 0, o0), (.iload_n 3, oA 3), (.iconst 1, oC (vI 1)), (.iadd, o0), (.iaload, oA 1), (.aload_n 0, o0), (.iload_n 3, oA 3), (.iconst 2, oC (vI 2)), (.iadd, o0), (.iaload, oA 1), (.invokevirtual 124, vN, 286, 3, 1, 900012, [(0, 2042)]), (.if_icmp .eq 933, oA 59), (.iconst 0, oC (vI 0)), (.ireturn, oA 1)], 28),
  (1208, [(.aload_n 1, oA 1), (.aload_n 0, o0), (.iload_n 3, oA 3), (.iconst 1, oC (vI 1)), (.iadd, o0), (.iaload, oA 1), (.aload_n 0, o0), (.iload_n 3, oA 3), (.iconst 2, oC (vI 2)), (.iadd, o0), (.iaload, oA 1), (.invokevirtual 125, vN, 150, 3, 1, 900011, [(0, 1068)]), (.aload_n 2, oA 2), (.aload_n 0, o0), (.iload_n 3, oA 3), (.iconst 1, oC (vI 1)), (.iadd, o0), (.iaload, oA 1), (.aload_n 0, o0), (.iload_n 3, oA 3), (.iconst 2, oC (vI 2)), (.iadd, o0), (.iaload, oA 1), (.invokevirtual 128, vN, 287, 3, 1, 900012, [(0, 2046)]), (.if_icmp .eq 900, oA 59), (.iconst 0, oC (vI 0)), (.ireturn, oA 1)], 29),
  (1241, [(.aload_n 1, oA 1), (.aload_n 0, o0), (.iload_n 3, oA 3), (.iconst 1, oC (vI 1)), (.iadd, o0), (.iaload, oA 1), (.aload_n 0, o0), (.iload_n 3, oA 3), (.iconst 2, oC (vI 2)), (.iadd, o0), (.iaload, oA 1), (.aload_n 0, o0), (.iload_n 3, oA 3), (.iconst 3, oC (vI 3)), (.iadd, o0), (.iaload, oA 1), (.aload_n 0, o0), (.iload_n 3, oA 3), (.iconst 4, oC (vI 4)), (.iadd, o0), (.iaload, oA 1), (.invokevirtual 129, vN, 151, 5, 1, 900011, [(0, 1072)]), (.aload_n 2, oA 2), (.aload_n 0, o0), (.iload_n 3, oA 3), (.iconst 1, oC (vI 1)), (.iadd, o0), (.iaload, oA 1), (.aload_n 0, o0), (.iload_n 3, oA 3), (.iconst 2, oC (vI 2)), (.iadd, o0), (.iaload, oA 1), (.aload_n 0, o0), (.iload_n 3, oA 3), (.iconst 3, oC (vI 3)), (.iadd, o0), (.iaload, oA 1), (.aload_n 0, o0), (.iload_n 3, oA 3), (.iconst 4, oC (vI 4)), (.iadd, o0), (.iaload, oA 1), (.invokevirtual 132, vN, 289, 5, 1, 900012, [(0, 2050)]), (.if_icmp .eq 847, oA 59), (.iconst 0, oC (vI 0)), (.ireturn, oA 1)], 30),
  (1294, [(.aload_n 1, oA 1), (.aload_n 0, o0), (.iload_n 3, oA 3), (.iconst 1, oC (vI 1)), (.iadd, o0), (.iaload, oA 1), (.aload_n 0, o0), (.iload_n 3, oA 3), (.iconst 2, oC (vI 2)), (.iadd, o0), (.iaload, oA 1), (.aload_n 0, o0), (.iload_n 3, oA 3), (.iconst 3, oC (vI 3)), (.iadd, o0), (.iaload, oA 1), (.invokevirtual 133, vN, 152, 4, 1, 900011, [(0, 1084)]), (.aload_n 2, oA 2), (.aload_n 0, o0), (.iload_n 3, oA 3), (.iconst 1, oC (vI 1)), (.iadd, o0), (.iaload, oA 1), (.aload_n 0, o0), (.iload_n 3, oA 3), (.iconst 2, oC (vI 2)), (.iadd, o0), (.iaload, oA 1), (.aload_n 0, o0), (.iload_n 3, oA 3), (.iconst 3, oC (vI 3)), (.iadd, o0), (.iaload, oA 1), (.invokevirtual 137, vN, 290, 4, 1, 900012, [(0, 2058)]), (.if_icmp .eq 804, oA 59), (.iconst 0, oC (vI 0)), (.ireturn, oA 1)], 31),
  (1337, [(.aload_n 1, oA 1), (.aload_n 0, o0), (.iload_n 3, oA 3), (.iconst 1, oC (vI 1)), (.iadd, o0), (.iaload, oA 1), (.aload_n 0, o0), (.iload_n 3, oA 3), (.iconst 2, oC (vI 2)), (.iadd, o0), (.iaload, oA 1), (.aload_n 0, o0), (.iload_n 3, oA 3), (.iconst 3, oC (vI 3)), (.iadd, o0), (.iaload, oA 1), (.invokevirtual 138, vN, 153, 4, 2, 900011, [(0, 1088)]), (.aload_n 2, oA 2), (.aload_n 0, o0), (.iload_n 3, oA 3), (.iconst 1, oC (vI 1)), (.iadd, o0), (.iaload, oA 1), (.aload_n 0, o0), (.iload_n 3, oA 3), (.iconst 2, oC (vI 2)), (.iadd, o0), (.iaload, oA 1), (.aload_n 0, o0), (.iload_n 3, oA 3), (.iconst 3, oC (vI 3)), (.iadd, o0), (.iaload, oA 1), (.invokevirtual 142, vN, 295, 4, 2, 900012, [(0, 2062)]), (.lcmp, o0), (.ifCond .eq 760, oA 59), (.iconst 0, oC (vI 0)), (.ireturn, oA 1)], 32),
  (1381, [(.aload_n 1, oA 1), (.aload_n 0, o0), (.iload_n 3, oA 3), (.iconst 1, oC (vI 1)), (.iadd, o0), (.iaload, oA 1), (.aload_n 0, o0), (.iload_n 3, oA 3), (.iconst 2, oC (vI 2)), (.iadd, o0), (.iaload, oA 1), (.invokevirtual 143, vN, 154, 3, 1, 900011, [(0, 1123)]), (.aload_n 2, oA 2), (.aload_n 0, o0), (.iload_n 3, oA 3), (.iconst 1, oC (vI 1)), (.iadd, o0), (.iaload, oA 1), (.aload_n 0, o0), (.iload_n 3, oA 3), (.iconst 2, oC (vI 2)), (.iadd, o0), (.iaload, oA 1), (.invokevirtual 146, vN, 296, 3, 1, 900012, [(0, 2087)]), (.if_icmp .eq 727, oA 59), (.iconst 0, oC (vI 0)), (.ireturn, oA 1)], 33),
  (1414, [(.aload_n 1, oA 1), (.aload_n 0, o0), (.iload_n 3, oA 3), (.iconst 1, oC (vI 1)), (.iadd, o0), (.iaload, oA 1), (.aload_n 0, o0), (.iload_n 3, oA 3), (.iconst 2, oC (vI 2)), (.iadd, o0), (.iaload, oA 1), (.aload_n 0, o0), (.iload_n 3, oA 3), (.iconst 3, oC (vI 3)), (.iadd, o0), (.iaload, oA 1), (.aload_n 0, o0), (.iload_n 3, oA 3), (.iconst 4, oC (vI 4)), (.iadd, o0), (.iaload, oA 1), (.invokevirtual 147, vN, 155, 5, 1, 900011, [(0, 1129)]), (.aload_n 2, oA 2), (.aload_n 0, o0), (.iload_n 3, oA 3), (.iconst 1, oC (vI 1)), (.iadd, o0), (.iaload, oA 1), (.aload_n 0, o0), (.iload_n 3, oA 3), (.iconst 2, oC (vI 2)), (.iadd, o0), (.iaload, oA 1), (.aload_n 0, o0), (.iload_n 3, oA 3), (.iconst 3, oC (vI 3)), (.iadd, o0), (.iaload, oA 1), (.aload_n 0, o0), (.iload_n 3, oA 3), (.iconst 4, oC (vI 4)), (.iadd, o0), (.iaload, oA 1), (.invokevirtual 150, vN, 298, 5, 1, 900012, [(0, 2092)]), (.if_icmp .eq 674, oA 59), (.iconst 0, oC (vI 0)), (.ireturn, oA 1)], 34),
  (1467, [(.aload_n 1, oA 1), (.aload_n 0, o0), (.iload_n 3, oA 3), (.iconst 1, oC (vI 1)), (.iadd, o0), (.iaload, oA 1), (.aload_n 0, o0), (.iload_n 3, oA 3), (.iconst 2, oC (vI 2)), (.iadd, o0), (.iaload, oA 1), (.invokevirtual 151, vN, 156, 3, 1, 900011, [(0, 1140)]), (.aload_n 2, oA 2), (.aload_n 0, o0), (.iload_n 3, oA 3), (.iconst 1, oC (vI 1)), (.iadd, o0), (.iaload, oA 1), (.aload_n 0, o0), (.iload_n 3, oA 3), (.iconst 2, oC (vI 2)), (.iadd, o0), (.iaload, oA 1), (.invokevirtual 154, vN, 299, 3, 1, 900012, [(0, 2100)]), (.if_icmp .eq 641, oA 59), (.iconst 0, oC (vI 0)), (.ireturn, oA 1)], 35),
  (1500, [(.aload_n 1, oA 1), (.aload_n 0, o0), (.iload_n 3, oA 3), (.iconst 1, oC (vI 1)), (.iadd, o0), (.iaload, oA 1), (.invokevirtual 155, vN, 157, 2, 1, 900011, [(0, 1148)]), (.aload_n 2, oA 2), (.aload_n 0, o0), (.iload_n 3, oA 3), (.iconst 1, oC (vI 1)), (.iadd, o0), (.iaload, oA 1), (.invokevirtual 158, vN, 302, 2, 1, 900012, [(0, 2104)]), (.if_icmp .eq 618, oA 59), (.iconst 0, oC (vI 0)), (.ireturn, oA 1)], 36),
  (1523, [(.aload_n 1, oA 1), (.aload_n 0, o0), (.iload_n 3, oA 3), (.iconst 1, oC (vI 1)), (.iadd, o0), (.iaload, oA 1), (.invokevirtual 159, vN, 158, 2, 1, 900011, [(0, 1162)]), (.aload_n 2, oA 2), (.aload_n 0, o0), (.iload_n 3, oA 3), (.iconst 1, oC (vI 1)), (.iadd, o0), (.iaload, oA 1), (.invokevirtual 162, vN, 303, 2, 1, 900012, [(0, 2120)]), (.if_icmp .eq 595, oA 59), (.iconst 0, oC (vI 0)), (.ireturn, oA 1)], 37),
  (1546, [(.aload_n 1, oA 1), (.aload_n 0, o0), (.iload_n 3, oA 3), (.iconst 1, oC (vI 1)), (.iadd, o0), (.iaload, oA 1), (.aload_n 0, o0), (.iload_n 3, oA 3), (.iconst 2, oC (vI 2)), (.iadd, o0), (.iaload, oA 1), (.invokevirtual 163, vN, 159, 3, 1, 900011, [(0, 1170)]), (.aload_n 2, oA 2), (.aload_n 0, o0), (.iload_n 3, oA 3), (.iconst 1, oC (vI 1)), (.iadd, o0), (.iaload, oA 1), (.aload_n 0, o0), (.iload_n 3, oA 3), (.iconst 2, oC (vI 2)), (.iadd, o0), (.iaload, oA 1), (.invokevirtual 166, vN, 304, 3, 1, 900012, [(0, 2124)]), (.if_icmp .eq 562, oA 59), (.iconst 0, oC (vI 0)), (.ireturn, oA 1)], 38),
  (1579, [(.aload_n 1, oA 1), (.aload_n 0, o0), (.iload_n 3, oA 3), (.iconst 1, oC (vI 1)), (.iadd, o0), (.iaload, oA 1), (.invokevirtual 167, vN, 160, 2, 1, 900011, [(0, 1178)]), (.aload_n 2, oA 2), (.aload_n 0, o0), (.iload_n 3, oA 3), (.iconst 1, oC (vI 1)), (.iadd, o0), (.iaload, oA 1), (.invokevirtual 170, vN, 309, 2, 1, 900012, [(0, 2128)]), (.if_icmp .eq 539, oA 59), (.iconst 0, oC (vI 0)), (.ireturn, oA 1)], 39),
  (1602, [(.aload_n 1, oA 1), (.aload_n 0, o0), (.iload_n 3, oA 3), (.iconst 1, oC (vI 1)), (.iadd, o0), (.iaload, oA 1), (.invokevirtual 171, vN, 161, 2, 1, 900011, [(0, 1200)]), (.aload_n 2, oA 2), (.aload_n 0, o0), (.iload_n 3, oA 3), (.iconst 1, oC (vI 1)), (.iadd, o0), (.iaload, oA 1), (.invokevirtual 174, vN, 310, 2, 1, 900012, [(0, 2149)]), (.if_icmp .eq 516, oA 59), (.iconst 0, oC (vI 0)), (.ireturn, oA 1)], 40),
  (1625, [(.aload_n 1, oA 1), (.aload_n 0, o0), (.iload_n 3, oA 3), (.iconst 1, oC (vI 1)), (.iadd, o0), (.iaload, oA 1), (.invokevirtual 175, vN, 162, 2, 1, 900011, [(0, 1208)]), (.aload_n 2, oA 2), (.aload_n 0, o0), (.iload_n 3, oA 3), (.iconst 1, oC (vI 1)), (.iadd, o0), (.iaload, oA 1), (.invokevirtual 178, vN, 311, 2, 1, 900012, [(0, 2153)]), (.if_icmp .eq 493, oA 59), (.iconst 0, oC (vI 0)), (.ireturn, oA 1)], 41),
  (1648, [(.aload_n 1, oA 1), (.aload_n 0, o0), (.iload_n 3, oA 3), (.iconst 1, oC (vI 1)), (.iadd, o0), (.iaload, oA 1), (.aload_n 0, o0), (.iload_n 3, oA 3), (.iconst 2, oC (vI 2)), (.iadd, o0), (.iaload, oA 1), (.aload_n 0, o0), (.iload_n 3, oA 3), (.iconst 3, oC (vI 3)), (.iadd, o0), (.iaload, oA 1), (.ifCond .eq 7, oA 42), (.iconst 1, oC (vI 1)), (.goto 4, oA 43)], 42),
  (1671, [(.iconst 0, oC (vI 0))], 43),
  (1672, [(.invokevirtual 179, vN, 163, 4, 1, 900011, [(0, 1217)]), (.aload_n 2, oA 2), (.aload_n 0, o0), (.iload_n 3, oA 3), (.iconst 1, oC (vI 1)), (.iadd, o0), (.iaload, oA 1), (.aload_n 0, o0), (.iload_n 3, oA 3), (.iconst 2, oC (vI 2)), (.iadd, o0), (.iaload, oA 1), (.aload_n 0, o0), (.iload_n 3, oA 3), (.iconst 3, oC (vI 3)), (.iadd, o0), (.iaload, oA 1), (.ifCond .eq 7, oA 44), (.iconst 1, oC (vI 1)), (.goto 4, oA 45)], 44),
  (1698, [(.iconst 0, oC (vI 0))], 45),
  (1699, [(.invokevirtual 183, vN, 312, 4, 1, 900012, [(0, 2157)]), (.if_icmp .eq 434, oA 59), (.iconst 0, oC (vI 0)), (.ireturn, oA 1)], 46),
  (1707, [(.aload_n 1, oA 1), (.aload_n 0, o0), (.iload_n 3, oA 3), (.iconst 1, oC (vI 1)), (.iadd, o0), (.iaload, oA 1), (.invokevirtual 184, vN, 164, 2, 1, 900011, [(0, 1222)]), (.aload_n 2, oA 2), (.aload_n 0, o0), (.iload_n 3, oA 3), (.iconst 1, oC (vI 1)), (.iadd, o0), (.iaload, oA 1), (.invokevirtual 187, vN, 313, 2, 1, 900012, [(0, 2162)]), (.if_icmp .eq 411, oA 59), (.iconst 0, oC (vI 0)), (.ireturn, oA 1)], 47),
  (1730, [(.aload_n 1, oA 1), (.aload_n 0, o0), (.iload_n 3, oA 3), (.iconst 1, oC (vI 1)), (.iadd, o0), (.iaload, oA 1), (.aload_n 0, o0), (.iload_n 3, oA 3), (.iconst 2, oC (vI 2)), (.iadd, o0), (.iaload, oA 1), (.aload_n 0, o0), (.iload_n 3, oA 3), (.iconst 3, oC (vI 3)), (.iadd, o0), (.iaload, oA 1), (.invokevirtual 188, vN, 165, 4, 1, 900011, [(0, 1230)]), (.aload_n 2, oA 2), (.aload_n 0, o0), (.iload_n 3, oA 3), (.iconst 1, oC (vI 1)), (.iadd, o0), (.iaload, oA 1), (.aload_n 0, o0), (.iload_n 3, oA 3), (.iconst 2, oC (vI 2)), (.iadd, o0), (.iaload, oA 1), (.aload_n 0, o0), (.iload_n 3, oA 3), (.iconst 3, oC (vI 3)), (.iadd, o0), (.iaload, oA 1), (.invokevirtual 191, vN, 315, 4, 1, 900012, [(0, 2166)]), (.if_icmp .eq 368, oA 59), (.iconst 0, oC (vI 0)), (.ireturn, oA 1)], 48),
  (1773, [(.aload_n 1, oA 1), (.aload_n 0, o0), (.iload_n 3, oA 3), (.iconst 1, oC (vI 1)), (.iadd, o0), (.iaload, oA 1), (.aload_n 0, o0), (.iload_n 3, oA 3), (.iconst 2, oC (vI 2)), (.iadd, o0), (.iaload, oA 1), (.invokevirtual 192, vN, 166, 3, 1, 900011, [(0, 1242)]), (.aload_n 2, oA 2), (.aload_n 0, o0), (.iload_n 3, oA 3), (.iconst 1, oC (vI 1)), (.iadd, o0), (.iaload, oA 1), (.aload_n 0, o0), (.iload_n 3, oA 3), (.iconst 2, oC (vI 2)), (.iadd, o0), (.iaload, oA 1), (.invokevirtual 195, vN, 319, 3, 1, 900012, [(0, 2174)]), (.if_icmp .eq 335, oA 59), (.iconst 0, oC (vI 0)), (.ireturn, oA 1)], 49),
  (1806, [(.aload_n 1, oA 1), (.aload_n 0, o0), (.iload_n 3, oA 3), (.iconst 1, oC (vI 1)), (.iadd, o0), (.iaload, oA 1), (.aload_n 0, o0), (.iload_n 3, oA 3), (.iconst 2, oC (vI 2)), (.iadd, o0), (.iaload, oA 1), (.aload_n 0, o0), (.iload_n 3, oA 3), (.iconst 3, oC (vI 3)), (.iadd, o0), (.iaload, oA 1), (.invokevirtual 196, vN, 167, 4, 1, 900011, [(0, 1267)]), (.aload_n 2, oA 2), (.aload_n 0, o0), (.iload_n 3, oA 3), (.iconst 1, oC (vI 1)), (.iadd, o0), (.iaload, oA 1), (.aload_n 0, o0), (.iload_n 3, oA 3), (.iconst 2, oC (vI 2)), (.iadd, o0), (.iaload, oA 1), (.aload_n 0, o0), (.iload_n 3, oA 3), (.iconst 3, oC (vI 3)), (.iadd, o0), (.iaload, oA 1), (.invokevirtual 199, vN, 320, 4, 1, 900012, [(0, 2190)]), (.if_icmp .eq 292, oA 59), (.iconst 0, oC (vI 0)), (.ireturn, oA 1)], 50),
  (1849, [(.aload_n 1, oA 1), (.aload_n 0, o0), (.iload_n 3, oA 3), (.iconst 1, oC (vI 1)), (.iadd, o0), (.iaload, oA 1), (.aload_n 0, o0), (.iload_n 3, oA 3), (.iconst 2, oC (vI 2)), (.iadd, o0), (.iaload, oA 1), (.invokevirtual 200, vN, 168, 3, 1, 900011, [(0, 1271)]), (.aload_n 2, oA 2), (.aload_n 0, o0), (.iload_n 3, oA 3), (.iconst 1, oC (vI 1)), (.iadd, o0), (.iaload, oA 1), (.aload_n 0, o0), (.iload_n 3, oA 3), (.iconst 2, oC (vI 2)), (.iadd, o0), (.iaload, oA 1), (.invokevirtual 203, vN, 321, 3, 1, 900012, [(0, 2194)]), (.if_icmp .eq 259, oA 59), (.iconst 0, oC (vI 0)), (.ireturn, oA 1)], 51),
  (1882, [(.aload_n 1, oA 1), (.aload_n 0, o0), (.iload_n 3, oA 3), (.iconst 1, oC (vI 1)), (.iadd, o0), (.iaload, oA 1), (.invokevirtual 204, vN, 169, 2, 1, 900011, [(0, 1283)]), (.aload_n 2, oA 2), (.aload_n 0, o0), (.iload_n 3, oA 3), (.iconst 1, oC (vI 1)), (.iadd, o0), (.iaload, oA 1), (.invokevirtual 207, vN, 322, 2, 1, 900012, [(0, 2198)]), (.if_icmp .eq 236, oA 59), (.iconst 0, oC (vI 0)), (.ireturn, oA 1)], 52),
  (1905, [(.aload_n 1, oA 1), (.aload_n 0, o0), (.iload_n 3, oA 3), (.iconst 1, oC (vI 1)), (.iadd, o0), (.iaload, oA 1), (.aload_n 0, o0), (.iload_n 3, oA 3), (.iconst 2, oC (vI 2)), (.iadd, o0), (.iaload, oA 1), (.aload_n 0, o0), (.iload_n 3, oA 3), (.iconst 3, oC (vI 3)), (.iadd, o0), (.iaload, oA 1), (.invokevirtual 208, vN, 170, 4, 1, 900011, [(0, 1291)]), (.aload_n 2, oA 2), (.aload_n 0, o0), (.iload_n 3, oA 3), (.iconst 1, oC (vI 1)), (.iadd, o0), (.iaload, oA 1), (.aload_n 0, o0), (.iload_n 3, oA 3), (.iconst 2, oC (vI 2)), (.iadd, o0), (.iaload, oA 1), (.aload_n 0, o0), (.iload_n 3, oA 3), (.iconst 3, oC (vI 3)), (.iadd, o0), (.iaload, oA 1), (.invokevirtual 211, vN, 324, 4, 1, 900012, [(0, 2202)]), (.if_icmp .eq 193, oA 59), (.iconst 0, oC (vI 0)), (.ireturn, oA 1)], 53),
  (1948, [(.aload_n 1, oA 1), (.aload_n 0, o0), (.iload_n 3, oA 3), (.iconst 1, oC (vI 1)), (.iadd, o0), (.iaload, oA 1), (.aload_n 0, o0), (.iload_n 3, oA 3), (.iconst 2, oC (vI 2)), (.iadd, o0), (.iaload, oA 1), (.aload_n 0, o0), (.iload_n 3, oA 3), (.iconst 3, oC (vI 3)), (.iadd, o0), (.iaload, oA 1), (.invokevirtual 212, vN, 171, 4, 1, 900011, [(0, 1304)]), (.aload_n 2, oA 2), (.aload_n 0, o0), (.iload_n 3, oA 3), (.iconst 1, oC (vI 1)), (.iadd, o0), (.iaload, oA 1), (.aload_n 0, o0), (.iload_n 3, oA 3), (.iconst 2, oC (vI 2)), (.iadd, o0), (.iaload, oA 1), (.aload_n 0, o0), (.iload_n 3, oA 3), (.iconst 3, oC (vI 3)), (.iadd, o0), (.iaload, oA 1), (.invokevirtual 215, vN, 325, 4, 1, 900012, [(0, 2210)]), (.if_icmp .eq 150, oA 59), (.iconst 0, oC (vI 0)), (.ireturn, oA 1)], 54),
  (1991, [(.aload_n 1, oA 1), (.aload_n 0, o0), (.iload_n 3, oA 3), (.iconst 1, oC (vI 1)), (.iadd, o0), (.iaload, oA 1), (.aload_n 0, o0), (.iload_n 3, oA 3), (.iconst 2, oC (vI 2)), (.iadd, o0), (.iaload, oA 1), (.aload_n 0, o0), (.iload_n 3, oA 3), (.iconst 3, oC (vI 3)), (.iadd, o0), (.iaload, oA 1), (.aload_n 0, o0), (.iload_n 3, oA 3), (.iconst 4, oC (vI 4)), (.iadd, o0), (.iaload, oA 1), (.invokevirtual 216, vN, 172, 5, 1, 900011, [(0, 1312)]), (.aload_n 2, oA 2), (.aload_n 0, o0), (.iload_n 3, oA 3), (.iconst 1, oC (vI 1)), (.iadd, o0), (.iaload, oA 1), (.aload_n 0, o0), (.iload_n 3, oA 3), (.iconst 2, oC (vI 2)), (.iadd, o0), (.iaload, oA 1), (.aload_n 0, o0), (.iload_n 3, oA 3), (.iconst 3, oC (vI 3)), (.iadd, o0), (.iaload, oA 1), (.aload_n 0, o0), (.iload_n 3, oA 3), (.iconst 4, oC (vI 4)), (.iadd, o0), (.iaload, oA 1), (.invokevirtual 219, vN, 326, 5, 1, 900012, [(0, 2214)]), (.if_icmp .eq 97, oA 59), (.iconst 0, oC (vI 0)), (.ireturn, oA 1)], 55),
  (2044, [(.aload_n 1, oA 1), (.aload_n 0, o0), (.iload_n 3, oA 3), (.iconst 1, oC (vI 1)), (.iadd, o0), (.iaload, oA 1), (.aload_n 0, o0), (.iload_n 3, oA 3), (.iconst 2, oC (vI 2)), (.iadd, o0), (.iaload, oA 1), (.invokevirtual 220, vN, 173, 3, 1, 900011, [(0, 1320)]), (.aload_n 2, oA 2), (.aload_n 0, o0), (.iload_n 3, oA 3), (.iconst 1, oC (vI 1)), (.iadd, o0), (.iaload, oA 1), (.aload_n 0, o0), (.iload_n 3, oA 3), (.iconst 2, oC (vI 2)), (.iadd, o0), (.iaload, oA 1), (.invokevirtual 223, vN, 327, 3, 1, 900012, [(0, 2218)]), (.if_icmp .eq 64, oA 59), (.iconst 0, oC (vI 0)), (.ireturn, oA 1)], 56),
  (2077, [(.aload_n 1, oA 1), (.invokevirtual 224, vN, 174, 1, 1, 900011, [(0, 1334)]), (.aload_n 2, oA 2), (.invokevirtual 227, vN, 330, 1, 1, 900012, [(0, 2222)]), (.if_icmp .eq 51, oA 59), (.iconst 0, oC (vI 0)), (.ireturn, oA 1)], 57),
  (2090, [(.aload_n 1, oA 1), (.aload_n 0, o0), (.iload_n 3, oA 3), (.iconst 1, oC (vI 1)), (.iadd, o0), (.iaload, oA 1), (.invokevirtual 228, vN, 175, 2, 1, 900011, [(0, 1370)]), (.aload_n 2, oA 2), (.aload_n 0, o0), (.iload_n 3, oA 3), (.iconst 1, oC (vI 1)), (.iadd, o0), (.iaload, oA 1), (.invokevirtual 231, vN, 331, 2, 1, 900012, [(0, 2230)]), (.if_icmp .eq 28, oA 59), (.iconst 0, oC (vI 0)), (.ireturn, oA 1)], 58),
  (2113, [(.aload_n 1, oA 1), (.aload_n 0, o0), (.iload_n 3, oA 3), (.iconst 1, oC (vI 1)), (.iadd, o0), (.iaload, oA 1), (.invokevirtual 232, vN, 176, 2, 1, 900011, [(0, 1374)]), (.aload_n 2, oA 2), (.aload_n 0, o0), (.iload_n 3, oA 3), (.iconst 1, oC (vI 1)), (.iadd, o0), (.iaload, oA 1), (.invokevirtual 235, vN, 332, 2, 1, 900012, [(0, 2238)]), (.if_icmp .eq 5, oA 59), (.iconst 0, oC (vI 0)), (.ireturn, oA 1)], 59),
  (2136, [(.iinc 3 6, vI 6, 3, 0, 0, 0, []), (.goto (-2121), oA 1)], 60),
  (2142, [(.iconst 1, oC (vI 1)), (.ireturn, oA 1)], 61)]
def C_Law0_law : List Nat := [1, 2, 3, 4, 5, 6, 7, 8, 9, 10, 11, 12, 13, 14, 15, 16, 17, 18, 19, 20, 21, 22, 23, 24, 25, 26, 27, 28, 29, 30, 31, 32, 33, 34, 35, 36, 37, 38, 39, 40, 41, 42, 43, 44, 45, 46, 47, 48, 49, 50, 51, 52, 53, 54, 55, 56, 57, 58, 59, 60]
end
section
set_option maxRecDepth 100000 in
set_option maxHeartbeats 4000000 in
theorem t_P_worst_0 (L : Nat) (scr : Nat → Int32) (cal : Cal) (o0 : Nat) (l1 : Int32) (l2 : Int32) (l3 : Int32) (h : MH) : dn L scr cal B_P_worst C_P_worst 0 [some (vR 900011 o0), some (vI l1), some (vI l2), some (vI l3), none, none, none, none] [] h = (clI (cal 179 [vI l1] h) (fun x2 h1 => if x2 = (0 : Int32) then some (.inr (some (vI (-1)), h1)) else clI (cal 186 [vR 900011 o0, vI l2] h1) (fun x4 h3 => if x4 = (0 : Int32) then some (.inr (some (vI (-1)), h3)) else clI (cal 177 [vI l3, vI 0, vI 1] h3) (fun x6 h5 => if x6 = (0 : Int32) then some (.inr (some (vI (-1)), h5)) else clV (cal 108 [vR 900010 o0, vI l2] h5) (fun h7 => clV (cal 96 [vR 900007 o0, vI l1, vR 1212000721 o0] h7) (fun h8 => clV (cal 339 [vR 1213002304 o0, vI 0] h8) (fun h9 => clR 900005 (cal 188 [vR 900011 o0, vI l1] h9) (fun m11 h10 => some (.inl (3, [some (vR 900011 o0), some (vI l1), some (vI l2), some (vI l3), some (vR 900005 m11), some (vI 0), some (vI 0), none], [], h10)))))))))) := rfl
set_option maxRecDepth 100000 in
set_option maxHeartbeats 4000000 in
theorem t_P_worst_3 (L : Nat) (scr : Nat → Int32) (cal : Cal) (o0 : Nat) (l1 : Int32) (l2 : Int32) (l3 : Int32) (o4 : Nat) (l5 : Int32) (l6 : Int32) (z7 : Option MV) (h : MH) : dn L scr cal B_P_worst C_P_worst 3 [some (vR 900011 o0), some (vI l1), some (vI l2), some (vI l3), some (vR 900005 o4), some (vI l5), some (vI l6), z7] [] h = (if (hI h 1101 o0 0) ≤ l6 then some (.inl (6, [some (vR 900011 o0), some (vI l1), some (vI l2), some (vI l3), some (vR 900005 o4), some (vI l5), some (vI 0), some (vI 1)], [], h)) else clI (cal 193 [vR 900011 o0, vI l6, vI l1] h) (fun x2 h1 => if x2 = (0 : Int32) then some (.inl (3, [some (vR 900011 o0), some (vI l1), some (vI l2), some (vI l3), some (vR 900005 o4), some (vI l5), some (vI (l6 + 1)), z7], [], h1)) else clV (cal 2 [vR 900000 o0, vR 900010 o0, vI l6, vR 900005 o4, vR 1212000721 o0] h1) (fun h3 => clV (cal 6 [vR 900000 o0, vR 900005 o4, vR 1212000721 o0, vR 1213002304 o0] h3) (fun h4 => some (.inl (3, [some (vR 900011 o0), some (vI l1), some (vI l2), some (vI l3), some (vR 900005 o4), some (vI (l5 + (hI h3 105 o0 0))), some (vI (l6 + 1)), z7], [], h4)))))) := rfl
set_option maxRecDepth 100000 in
set_option maxHeartbeats 4000000 in
theorem t_P_worst_6 (L : Nat) (scr : Nat → Int32) (cal : Cal) (o0 : Nat) (l1 : Int32) (l2 : Int32) (l3 : Int32) (o4 : Nat) (l5 : Int32) (l6 : Int32) (l7 : Int32) (h : MH) : dn L scr cal B_P_worst C_P_worst 6 [some (vR 900011 o0), some (vI l1), some (vI l2), some (vI l3), some (vR 900005 o4), some (vI l5), some (vI l6), some (vI l7)] [] h = (if (660 : Int32) < l7 then if l3 = (0 : Int32) then some (.inr (some (vI l6), h)) else rdI 0 h 1213002304 o0 l6 (fun x1 => some (.inr (some (vI (l5 + x1)), h))) else rdI 0 h 1213002304 o0 l7 (fun x2 => rdI 0 h 1213002304 o0 l6 (fun x3 => if x2 ≤ x3 then some (.inl (6, [some (vR 900011 o0), some (vI l1), some (vI l2), some (vI l3), some (vR 900005 o4), some (vI l5), some (vI l6), some (vI (l7 + 1))], [], h)) else some (.inl (6, [some (vR 900011 o0), some (vI l1), some (vI l2), some (vI l3), some (vR 900005 o4), some (vI l5), some (vI l7), some (vI (l7 + 1))], [], h))))) := rfl
set_option maxRecDepth 100000 in
set_option maxHeartbeats 4000000 in
theorem t_M_single_0 (L : Nat) (scr : Nat → Int32) (cal : Cal) (o0 : Nat) (h : MH) : dn L scr cal B_M_single C_M_single 0 [some (vR 900012 o0), none, none] [] h = (clJ (cal 209 [vR 900012 o0] h) (fun x2 h1 => if (if x2 < 7237492 then -1 else if 7237492 < x2 then 1 else 0) = (0 : Int32) then clI (cal 215 [vR 900012 o0] h1) (fun x11 h10 => if x11 = (0 : Int32) then rtZ 0 h10 else clI (cal 218 [vR 900012 o0] (sI h10 1305 o0 0 (hI h10 1324 o0 0))) (fun x13 h12 => if x13 = (0 : Int32) then rtZ 0 h12 else clV (cal 214 [vR 900012 o0, vI 5, vI 0, vI 0] (sI h12 1306 o0 0 ((hI h12 1306 o0 0) - 1))) (fun h14 => rtZ 1 h14))) else if (hI h1 1304 o0 0) ≤ (hI h1 1305 o0 0) then some (.inl (7, [some (vR 900012 o0), none, none], [], h1)) else rdI 1 h1 1323100900 o0 (hI h1 1305 o0 0) (fun x3 => if x3 = (40 : Int32) then clI (cal 215 [vR 900012 o0] h1) (fun x5 h4 => if x5 = (0 : Int32) then rtZ 0 h4 else clI (cal 216 [vR 900012 o0] (sI h4 1305 o0 0 ((hI h4 1305 o0 0) + 1))) (fun x7 h6 => if x7 = (0 : Int32) then rtZ 0 h6 else clI (cal 211 [vR 900012 o0, vI 41] h6) (fun x9 h8 => if x9 = (0 : Int32) then rtZ 0 h8 else rtZ 1 (sI h8 1306 o0 0 ((hI h8 1306 o0 0) - 1))))) else some (.inl (7, [some (vR 900012 o0), none, none], [], h1))))) := rfl
set_option maxRecDepth 100000 in
set_option maxHeartbeats 4000000 in
theorem t_M_single_7 (L : Nat) (scr : Nat → Int32) (cal : Cal) (o0 : Nat) (z1 : Option MV) (z2 : Option MV) (h : MH) : dn L scr cal B_M_single C_M_single 7 [some (vR 900012 o0), z1, z2] [] h = (clJ (cal 209 [vR 900012 o0] h) (fun x2 h1 => clI (cal 213 [vL x2] h1) (fun x4 h3 => if x4 = ((-1) : Int32) then rtZ 0 h3 else clI (cal 211 [vR 900012 o0, vI 60] (sI h3 1305 o0 0 (hI h3 1324 o0 0))) (fun x6 h5 => if x6 = (0 : Int32) then clI (cal 211 [vR 900012 o0, vI 62] h5) (fun x8 h7 => if x8 = (0 : Int32) then clI (cal 211 [vR 900012 o0, vI 61] h7) (fun x10 h9 => if x10 = (0 : Int32) then some (.inl (12, [some (vR 900012 o0), some (vI x4), z2], [vI (-1)], h9)) else some (.inl (12, [some (vR 900012 o0), some (vI x4), z2], [vI 2], h9))) else some (.inl (12, [some (vR 900012 o0), some (vI x4), z2], [vI 1], h7))) else some (.inl (12, [some (vR 900012 o0), some (vI x4), z2], [vI 0], h5)))))) := rfl
set_option maxRecDepth 100000 in
set_option maxHeartbeats 4000000 in
theorem t_M_single_12 (L : Nat) (scr : Nat → Int32) (cal : Cal) (o0 : Nat) (l1 : Int32) (z2 : Option MV) (k0 : Int32) (h : MH) : dn L scr cal B_M_single C_M_single 12 [some (vR 900012 o0), some (vI l1), z2] [vI k0] h = (if k0 = ((-1) : Int32) then rtZ 0 h else clI (cal 212 [vR 900012 o0, vI 0, vI 999] h) (fun x2 h1 => if x2 = (0 : Int32) then rtZ 0 h1 else clV (cal 214 [vR 900012 o0, vI k0, vI l1, vI (hI h1 1325 o0 0)] h1) (fun h3 => rtZ 1 h3))) := rfl
set_option maxRecDepth 100000 in
set_option maxHeartbeats 4000000 in
theorem t_M_knows_0 (L : Nat) (scr : Nat → Int32) (cal : Cal) (o0 : Nat) (l1 : Int32) (h : MH) : dn L scr cal B_M_knows C_M_knows 0 [some (vR 900012 o0), some (vI l1), none, none] [] h = (some (.inl (1, [some (vR 900012 o0), some (vI l1), some (vI 0), none], [], sI h 1354 o0 0 l1))) := rfl
set_option maxRecDepth 100000 in
set_option maxHeartbeats 4000000 in
theorem t_M_knows_1 (L : Nat) (scr : Nat → Int32) (cal : Cal) (o0 : Nat) (l1 : Int32) (l2 : Int32) (z3 : Option MV) (h : MH) : dn L scr cal B_M_knows C_M_knows 1 [some (vR 900012 o0), some (vI l1), some (vI l2), z3] [] h = (if (hI h 1336 o0 0) ≤ l2 then some (.inl (3, [some (vR 900012 o0), some (vI l1), some (vI 1), z3], [], h)) else wrI 0 h 1350000120 o0 l2 (-1) (fun h1 => wrI 0 h1 1351000120 o0 l2 0 (fun h2 => wrI 0 h2 1352000120 o0 l2 0 (fun h3 => wrI 0 h3 1353000120 o0 l2 0 (fun h4 => some (.inl (1, [some (vR 900012 o0), some (vI l1), some (vI (l2 + 1)), z3], [], h4))))))) := rfl
set_option maxRecDepth 100000 in
set_option maxHeartbeats 4000000 in
theorem t_M_knows_3 (L : Nat) (scr : Nat → Int32) (cal : Cal) (o0 : Nat) (l1 : Int32) (l2 : Int32) (z3 : Option MV) (h : MH) : dn L scr cal B_M_knows C_M_knows 3 [some (vR 900012 o0), some (vI l1), some (vI l2), z3] [] h = (if l1 < l2 then some (.inr (none, h)) else rdI 0 h 1347000401 o0 l2 (fun x1 => rdI 0 h 1346000401 o0 l2 (fun x2 => if x2 = (1 : Int32) then rdI 0 h 1348000401 o0 l2 (fun x6 => wrI 0 h 1350000120 o0 x1 x6 (fun h7 => rdI 0 h7 1346000401 o0 l2 (fun x8 => if x8 = (2 : Int32) then rdI 0 h7 1348000401 o0 l2 (fun x9 => wrI 0 h7 1351000120 o0 x1 x9 (fun h10 => some (.inl (5, [some (vR 900012 o0), some (vI l1), some (vI l2), some (vI x1)], [], h10)))) else some (.inl (5, [some (vR 900012 o0), some (vI l1), some (vI l2), some (vI x1)], [], h7))))) else rdI 0 h 1346000401 o0 l2 (fun x3 => if x3 = (2 : Int32) then rdI 0 h 1348000401 o0 l2 (fun x4 => wrI 0 h 1351000120 o0 x1 x4 (fun h5 => some (.inl (5, [some (vR 900012 o0), some (vI l1), some (vI l2), some (vI x1)], [], h5)))) else some (.inl (5, [some (vR 900012 o0), some (vI l1), some (vI l2), some (vI x1)], [], h)))))) := rfl
set_option maxRecDepth 100000 in
set_option maxHeartbeats 4000000 in
theorem t_M_knows_5 (L : Nat) (scr : Nat → Int32) (cal : Cal) (o0 : Nat) (l1 : Int32) (l2 : Int32) (l3 : Int32) (h : MH) : dn L scr cal B_M_knows C_M_knows 5 [some (vR 900012 o0), some (vI l1), some (vI l2), some (vI l3)] [] h = (rdI 0 h 1346000401 o0 l2 (fun x1 => if x1 = (3 : Int32) then rdI 0 h 1348000401 o0 l2 (fun x2 => wrI 0 h 1352000120 o0 l3 x2 (fun h3 => rdI 0 h3 1349000401 o0 l2 (fun x4 => wrI 0 h3 1353000120 o0 l3 x4 (fun h5 => some (.inl (3, [some (vR 900012 o0), some (vI l1), some (vI (l2 + 1)), some (vI l3)], [], h5)))))) else some (.inl (3, [some (vR 900012 o0), some (vI l1), some (vI (l2 + 1)), some (vI l3)], [], h)))) := rfl
set_option maxRecDepth 100000 in
set_option maxHeartbeats 4000000 in
theorem t_M_isTrue_0 (L : Nat) (scr : Nat → Int32) (cal : Cal) (o0 : Nat) (l1 : Int32) (h : MH) : dn L scr cal B_M_isTrue C_M_isTrue 0 [some (vR 900012 o0), some (vI l1), none, none, none] [] h = (rdI 0 h 1315000240 o0 l1 (fun x1 => some (.inl (1, [some (vR 900012 o0), some (vI l1), some (vI 0), some (vI x1), none], [], h)))) := rfl
set_option maxRecDepth 100000 in
set_option maxHeartbeats 4000000 in
theorem t_M_isTrue_1 (L : Nat) (scr : Nat → Int32) (cal : Cal) (o0 : Nat) (l1 : Int32) (l2 : Int32) (l3 : Int32) (z4 : Option MV) (h : MH) : dn L scr cal B_M_isTrue C_M_isTrue 1 [some (vR 900012 o0), some (vI l1), some (vI l2), some (vI l3), z4] [] h = (rdI 0 h 1316000240 o0 l1 (fun x1 => if x1 ≤ l3 then rdI 0 h 1315000240 o0 l1 (fun x2 => rdI 0 h 1316000240 o0 l1 (fun x3 => if x2 = x3 then rtZ 1 h else rdI 2 h 1321200064 o0 0 (fun x4 => if x4 = (0 : Int32) then rtZ 0 h else rtZ 1 h))) else rdI 0 h 1317002700 o0 l3 (fun x5 => if (2 : Int32) < x5 then rdI 0 h 1317002700 o0 l3 (fun x6 => if x6 = (5 : Int32) then rdI 2 h 1321200064 o0 (l2 - 1) (fun x18 => if x18 = (0 : Int32) then wrI 2 h 1321200064 o0 (l2 - 1) (1 &&& 1) (fun h20 => some (.inl (17, [some (vR 900012 o0), some (vI l1), some (vI l2), some (vI l3), z4], [], h20))) else wrI 2 h 1321200064 o0 (l2 - 1) (0 &&& 1) (fun h19 => some (.inl (17, [some (vR 900012 o0), some (vI l1), some (vI l2), some (vI l3), z4], [], h19)))) else rdI 0 h 1317002700 o0 l3 (fun x7 => if x7 = (3 : Int32) then rdI 2 h 1321200064 o0 ((l2 + (-1)) - 1) (fun x13 => if x13 = (0 : Int32) then rdI 2 h 1321200064 o0 (l2 + (-1)) (fun x15 => if x15 = (0 : Int32) then wrI 2 h 1321200064 o0 ((l2 + (-1)) - 1) (0 &&& 1) (fun h16 => some (.inl (17, [some (vR 900012 o0), some (vI l1), some (vI (l2 + (-1))), some (vI l3), z4], [], h16))) else wrI 2 h 1321200064 o0 ((l2 + (-1)) - 1) (1 &&& 1) (fun h17 => some (.inl (17, [some (vR 900012 o0), some (vI l1), some (vI (l2 + (-1))), some (vI l3), z4], [], h17)))) else wrI 2 h 1321200064 o0 ((l2 + (-1)) - 1) (1 &&& 1) (fun h14 => some (.inl (17, [some (vR 900012 o0), some (vI l1), some (vI (l2 + (-1))), some (vI l3), z4], [], h14)))) else rdI 2 h 1321200064 o0 ((l2 + (-1)) - 1) (fun x8 => if x8 = (0 : Int32) then wrI 2 h 1321200064 o0 ((l2 + (-1)) - 1) (0 &&& 1) (fun h9 => some (.inl (17, [some (vR 900012 o0), some (vI l1), some (vI (l2 + (-1))), some (vI l3), z4], [], h9))) else rdI 2 h 1321200064 o0 (l2 + (-1)) (fun x10 => if x10 = (0 : Int32) then wrI 2 h 1321200064 o0 ((l2 + (-1)) - 1) (0 &&& 1) (fun h11 => some (.inl (17, [some (vR 900012 o0), some (vI l1), some (vI (l2 + (-1))), some (vI l3), z4], [], h11))) else wrI 2 h 1321200064 o0 ((l2 + (-1)) - 1) (1 &&& 1) (fun h12 => some (.inl (17, [some (vR 900012 o0), some (vI l1), some (vI (l2 + (-1))), some (vI l3), z4], [], h12))))))) else rdI 0 h 1318002700 o0 l3 (fun x21 => rdI 0 h 1320000008 o0 x21 (fun x22 => rdI 0 h 1317002700 o0 l3 (fun x23 => if x23 = (0 : Int32) then rdI 0 h 1319002700 o0 l3 (fun x31 => if x31 ≤ x22 then wrI 2 h 1321200064 o0 l2 (0 &&& 1) (fun h32 => some (.inl (17, [some (vR 900012 o0), some (vI l1), some (vI (l2 + 1)), some (vI l3), some (vI x22)], [], h32))) else wrI 2 h 1321200064 o0 l2 (1 &&& 1) (fun h33 => some (.inl (17, [some (vR 900012 o0), some (vI l1), some (vI (l2 + 1)), some (vI l3), some (vI x22)], [], h33)))) else rdI 0 h 1317002700 o0 l3 (fun x24 => if x24 = (1 : Int32) then rdI 0 h 1319002700 o0 l3 (fun x28 => if x22 ≤ x28 then wrI 2 h 1321200064 o0 l2 (0 &&& 1) (fun h29 => some (.inl (17, [some (vR 900012 o0), some (vI l1), some (vI (l2 + 1)), some (vI l3), some (vI x22)], [], h29))) else wrI 2 h 1321200064 o0 l2 (1 &&& 1) (fun h30 => some (.inl (17, [some (vR 900012 o0), some (vI l1), some (vI (l2 + 1)), some (vI l3), some (vI x22)], [], h30)))) else rdI 0 h 1319002700 o0 l3 (fun x25 => if x22 = x25 then wrI 2 h 1321200064 o0 l2 (1 &&& 1) (fun h27 => some (.inl (17, [some (vR 900012 o0), some (vI l1), some (vI (l2 + 1)), some (vI l3), some (vI x22)], [], h27))) else wrI 2 h 1321200064 o0 l2 (0 &&& 1) (fun h26 => some (.inl (17, [some (vR 900012 o0), some (vI l1), some (vI (l2 + 1)), some (vI l3), some (vI x22)], [], h26))))))))))) := rfl
set_option maxRecDepth 100000 in
set_option maxHeartbeats 4000000 in
theorem t_M_isTrue_17 (L : Nat) (scr : Nat → Int32) (cal : Cal) (o0 : Nat) (l1 : Int32) (l2 : Int32) (l3 : Int32) (z4 : Option MV) (h : MH) : dn L scr cal B_M_isTrue C_M_isTrue 17 [some (vR 900012 o0), some (vI l1), some (vI l2), some (vI l3), z4] [] h = (some (.inl (1, [some (vR 900012 o0), some (vI l1), some (vI l2), some (vI (l3 + 1)), z4], [], h))) := rfl
end

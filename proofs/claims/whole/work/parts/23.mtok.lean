/-! each method's words (printed by wip/whole/emitmt.py) -/
set_option maxRecDepth 100000 in
theorem mo_Bill_init : MOK e_Bill_init := mokB_ok (pl := (470, 13, 469, 0)) (code_in 470 rfl rfl) (by decide +kernel)
set_option maxRecDepth 100000 in
theorem mo_Bill_drawPrice : MOK e_Bill_drawPrice := mokB_ok (pl := (942, 13, 940, 941)) (code_in 942 rfl rfl) (by decide +kernel)
set_option maxRecDepth 100000 in
theorem mo_Bill_draw : MOK e_Bill_draw := mokB_ok (pl := (938, 13, 936, 937)) (code_in 938 rfl rfl) (by decide +kernel)
set_option maxRecDepth 100000 in
theorem mo_Bill_begun : MOK e_Bill_begun := mokB_ok (pl := (981, 13, 980, 0)) (code_in 981 rfl rfl) (by decide +kernel)
set_option maxRecDepth 100000 in
theorem mo_Bill_raised : MOK e_Bill_raised := mokB_ok (pl := (984, 13, 983, 0)) (code_in 984 rfl rfl) (by decide +kernel)
set_option maxRecDepth 100000 in
theorem mo_Bill_wetCoin : MOK e_Bill_wetCoin := mokB_ok (pl := (988, 13, 987, 1000034)) (code_in 988 rfl rfl) (by decide +kernel)
set_option maxRecDepth 100000 in
theorem mo_Bill_addRain : MOK e_Bill_addRain := mokB_ok (pl := (1038, 13, 1036, 1037)) (code_in 1038 rfl rfl) (by decide +kernel)
set_option maxRecDepth 100000 in
theorem mo_Bill_owed : MOK e_Bill_owed := mokB_ok (pl := (1002, 13, 1000, 1001)) (code_in 1002 rfl rfl) (by decide +kernel)
set_option maxRecDepth 100000 in
theorem mo_Bill_look : MOK e_Bill_look := mokB_ok (pl := (998, 13, 996, 997)) (code_in 998 rfl rfl) (by decide +kernel)
set_option maxRecDepth 100000 in
theorem mo_Book_init : MOK e_Book_init := mokB_ok (pl := (149, 6, 148, 0)) (code_in 149 rfl rfl) (by decide +kernel)
set_option maxRecDepth 100000 in
theorem mo_Book_take : MOK e_Book_take := mokB_ok (pl := (1345, 6, 1343, 1344)) (code_in 1345 rfl rfl) (by decide +kernel)
set_option maxRecDepth 100000 in
theorem mo_Book_addBoat : MOK e_Book_addBoat := mokB_ok (pl := (769, 6, 767, 768)) (code_in 769 rfl rfl) (by decide +kernel)
set_option maxRecDepth 100000 in
theorem mo_Book_hasRoom : MOK e_Book_hasRoom := mokB_ok (pl := (847, 6, 845, 846)) (code_in 847 rfl rfl) (by decide +kernel)
set_option maxRecDepth 100000 in
theorem mo_Book_addHire : MOK e_Book_addHire := mokB_ok (pl := (851, 6, 849, 850)) (code_in 851 rfl rfl) (by decide +kernel)
set_option maxRecDepth 100000 in
theorem mo_Book_tell : MOK e_Book_tell := mokB_ok (pl := (856, 6, 854, 855)) (code_in 856 rfl rfl) (by decide +kernel)
set_option maxRecDepth 100000 in
theorem mo_Book_look : MOK e_Book_look := mokB_ok (pl := (909, 6, 907, 908)) (code_in 909 rfl rfl) (by decide +kernel)
set_option maxRecDepth 100000 in
theorem mo_Book_dayOf : MOK e_Book_dayOf := mokB_ok (pl := (872, 6, 870, 871)) (code_in 872 rfl rfl) (by decide +kernel)
set_option maxRecDepth 100000 in
theorem mo_Book_kindOfHire : MOK e_Book_kindOfHire := mokB_ok (pl := (946, 6, 944, 945)) (code_in 946 rfl rfl) (by decide +kernel)
set_option maxRecDepth 100000 in
theorem mo_Book_nextOut : MOK e_Book_nextOut := mokB_ok (pl := (885, 6, 883, 884)) (code_in 885 rfl rfl) (by decide +kernel)
set_option maxRecDepth 100000 in
theorem mo_Book_reachesOfPole : MOK e_Book_reachesOfPole := mokB_ok (pl := (1229, 6, 1227, 1228)) (code_in 1229 rfl rfl) (by decide +kernel)
set_option maxRecDepth 100000 in
theorem mo_Demand_init : MOK e_Demand_init := mokB_ok (pl := (287, 8, 286, 0)) (code_in 287 rfl rfl) (by decide +kernel)
set_option maxRecDepth 100000 in
theorem mo_Demand_take : MOK e_Demand_take := mokB_ok (pl := (1355, 8, 1353, 1354)) (code_in 1355 rfl rfl) (by decide +kernel)
set_option maxRecDepth 100000 in
theorem mo_Demand_isWhole : MOK e_Demand_isWhole := mokB_ok (pl := (1095, 8, 1093, 1094)) (code_in 1095 rfl rfl) (by decide +kernel)
set_option maxRecDepth 100000 in
theorem mo_Demand_wanted : MOK e_Demand_wanted := mokB_ok (pl := (1117, 8, 1115, 1116)) (code_in 1117 rfl rfl) (by decide +kernel)
set_option maxRecDepth 100000 in
theorem mo_Demand_served : MOK e_Demand_served := mokB_ok (pl := (1100, 8, 1098, 1099)) (code_in 1100 rfl rfl) (by decide +kernel)
set_option maxRecDepth 100000 in
theorem mo_Demand_serveHour : MOK e_Demand_serveHour := mokB_ok (pl := (1108, 8, 1107, 1000038)) (code_in 1108 rfl rfl) (by decide +kernel)
set_option maxRecDepth 100000 in
theorem mo_Demand_commonDivisor : MOK e_Demand_commonDivisor := mokB_ok (pl := (1122, 8, 1121, 0)) (code_in 1122 rfl rfl) (by decide +kernel)
set_option maxRecDepth 100000 in
theorem mo_Demand_meanCoin : MOK e_Demand_meanCoin := mokB_ok (pl := (1139, 8, 1137, 1138)) (code_in 1139 rfl rfl) (by decide +kernel)
set_option maxRecDepth 100000 in
theorem mo_Demand_addLoyal : MOK e_Demand_addLoyal := mokB_ok (pl := (1290, 8, 1288, 1289)) (code_in 1290 rfl rfl) (by decide +kernel)
set_option maxRecDepth 100000 in
theorem mo_Demand_staying : MOK e_Demand_staying := mokB_ok (pl := (1302, 8, 1300, 1301)) (code_in 1302 rfl rfl) (by decide +kernel)
set_option maxRecDepth 100000 in
theorem mo_Demand_bestPrice : MOK e_Demand_bestPrice := mokB_ok (pl := (1298, 8, 1296, 1297)) (code_in 1298 rfl rfl) (by decide +kernel)
set_option maxRecDepth 100000 in
theorem mo_Dock_init : MOK e_Dock_init := mokB_ok (pl := (380, 11, 379, 0)) (code_in 380 rfl rfl) (by decide +kernel)
set_option maxRecDepth 100000 in
theorem mo_Dock_take : MOK e_Dock_take := mokB_ok (pl := (1368, 11, 1366, 1367)) (code_in 1368 rfl rfl) (by decide +kernel)
set_option maxRecDepth 100000 in
theorem mo_Dock_setPaint : MOK e_Dock_setPaint := mokB_ok (pl := (1237, 11, 1235, 1236)) (code_in 1237 rfl rfl) (by decide +kernel)
set_option maxRecDepth 100000 in
theorem mo_Dock_listDry : MOK e_Dock_listDry := mokB_ok (pl := (1241, 11, 1240, 1000042)) (code_in 1241 rfl rfl) (by decide +kernel)
set_option maxRecDepth 100000 in
theorem mo_Dock_orderDry : MOK e_Dock_orderDry := mokB_ok (pl := (1253, 11, 1252, 1000043)) (code_in 1253 rfl rfl) (by decide +kernel)
set_option maxRecDepth 100000 in
theorem mo_Dock_isSooner : MOK e_Dock_isSooner := mokB_ok (pl := (1257, 11, 1256, 1000044)) (code_in 1257 rfl rfl) (by decide +kernel)
set_option maxRecDepth 100000 in
theorem mo_Dock_solvePaint : MOK e_Dock_solvePaint := mokB_ok (pl := (1249, 11, 1247, 1248)) (code_in 1249 rfl rfl) (by decide +kernel)
set_option maxRecDepth 100000 in
theorem mo_Dock_coinLost : MOK e_Dock_coinLost := mokB_ok (pl := (1262, 11, 1261, 1000045)) (code_in 1262 rfl rfl) (by decide +kernel)
set_option maxRecDepth 100000 in
theorem mo_Dock_solveRenewal : MOK e_Dock_solveRenewal := mokB_ok (pl := (1278, 11, 1276, 1277)) (code_in 1278 rfl rfl) (by decide +kernel)
set_option maxRecDepth 100000 in
theorem mo_Dock_saving : MOK e_Dock_saving := mokB_ok (pl := (1282, 11, 1281, 1000046)) (code_in 1282 rfl rfl) (by decide +kernel)
set_option maxRecDepth 100000 in
theorem mo_Dock_bestSet : MOK e_Dock_bestSet := mokB_ok (pl := (1266, 11, 1264, 1265)) (code_in 1266 rfl rfl) (by decide +kernel)
set_option maxRecDepth 100000 in
theorem mo_Guides_init : MOK e_Guides_init := mokB_ok (pl := (340, 10, 339, 0)) (code_in 340 rfl rfl) (by decide +kernel)
set_option maxRecDepth 100000 in
theorem mo_Guides_take : MOK e_Guides_take := mokB_ok (pl := (1363, 10, 1361, 1362)) (code_in 1363 rfl rfl) (by decide +kernel)
set_option maxRecDepth 100000 in
theorem mo_Guides_addGuide : MOK e_Guides_addGuide := mokB_ok (pl := (1169, 10, 1167, 1168)) (code_in 1169 rfl rfl) (by decide +kernel)
set_option maxRecDepth 100000 in
theorem mo_Guides_addParty : MOK e_Guides_addParty := mokB_ok (pl := (1177, 10, 1175, 1176)) (code_in 1177 rfl rfl) (by decide +kernel)
set_option maxRecDepth 100000 in
theorem mo_Guides_canGuide : MOK e_Guides_canGuide := mokB_ok (pl := (1194, 10, 1193, 1000040)) (code_in 1194 rfl rfl) (by decide +kernel)
set_option maxRecDepth 100000 in
theorem mo_Guides_solve : MOK e_Guides_solve := mokB_ok (pl := (1185, 10, 1183, 1184)) (code_in 1185 rfl rfl) (by decide +kernel)
set_option maxRecDepth 100000 in
theorem mo_Guides_worth : MOK e_Guides_worth := mokB_ok (pl := (1190, 10, 1189, 1000039)) (code_in 1190 rfl rfl) (by decide +kernel)
set_option maxRecDepth 100000 in
theorem mo_Guides_choose : MOK e_Guides_choose := mokB_ok (pl := (1199, 10, 1198, 1000041)) (code_in 1199 rfl rfl) (by decide +kernel)
set_option maxRecDepth 100000 in
theorem mo_Guides_payOut : MOK e_Guides_payOut := mokB_ok (pl := (1207, 10, 1205, 1206)) (code_in 1207 rfl rfl) (by decide +kernel)
set_option maxRecDepth 100000 in
theorem mo_Guides_spread : MOK e_Guides_spread := mokB_ok (pl := (1215, 10, 1213, 1214)) (code_in 1215 rfl rfl) (by decide +kernel)
set_option maxRecDepth 100000 in
theorem mo_Law_init : MOK e_Law_init := mokB_ok (pl := (62, 3, 61, 0)) (code_in 62 rfl rfl) (by decide +kernel)
set_option maxRecDepth 100000 in
theorem mo_Law_clear : MOK e_Law_clear := mokB_ok (pl := (572, 3, 570, 571)) (code_in 572 rfl rfl) (by decide +kernel)
set_option maxRecDepth 100000 in
theorem mo_Law_addRule : MOK e_Law_addRule := mokB_ok (pl := (680, 3, 678, 679)) (code_in 680 rfl rfl) (by decide +kernel)
set_option maxRecDepth 100000 in
theorem mo_Law_emit : MOK e_Law_emit := mokB_ok (pl := (715, 3, 713, 714)) (code_in 715 rfl rfl) (by decide +kernel)
set_option maxRecDepth 100000 in
theorem mo_Law_testOf : MOK e_Law_testOf := mokB_ok (pl := (711, 3, 710, 0)) (code_in 711 rfl rfl) (by decide +kernel)
set_option maxRecDepth 100000 in
theorem mo_Law_look : MOK e_Law_look := mokB_ok (pl := (740, 3, 738, 739)) (code_in 740 rfl rfl) (by decide +kernel)
set_option maxRecDepth 100000 in
theorem mo_Law_busyParts : MOK e_Law_busyParts := mokB_ok (pl := (977, 3, 975, 976)) (code_in 977 rfl rfl) (by decide +kernel)
set_option maxRecDepth 100000 in
theorem mo_Law_harmPart : MOK e_Law_harmPart := mokB_ok (pl := (994, 3, 992, 993)) (code_in 994 rfl rfl) (by decide +kernel)
set_option maxRecDepth 100000 in
theorem mo_Law_isShut : MOK e_Law_isShut := mokB_ok (pl := (828, 3, 826, 827)) (code_in 828 rfl rfl) (by decide +kernel)
set_option maxRecDepth 100000 in
theorem mo_Law_holds : MOK e_Law_holds := mokB_ok (pl := (832, 3, 831, 1000026)) (code_in 832 rfl rfl) (by decide +kernel)
set_option maxRecDepth 100000 in
theorem mo_Law_passes : MOK e_Law_passes := mokB_ok (pl := (835, 3, 834, 0)) (code_in 835 rfl rfl) (by decide +kernel)
set_option maxRecDepth 100000 in
theorem mo_Reader_init : MOK e_Reader_init := mokB_ok (pl := (34, 2, 33, 0)) (code_in 34 rfl rfl) (by decide +kernel)
set_option maxRecDepth 100000 in
theorem mo_Reader_hasRoom : MOK e_Reader_hasRoom := mokB_ok (pl := (557, 2, 555, 556)) (code_in 557 rfl rfl) (by decide +kernel)
set_option maxRecDepth 100000 in
theorem mo_Reader_append : MOK e_Reader_append := mokB_ok (pl := (561, 2, 559, 560)) (code_in 561 rfl rfl) (by decide +kernel)
set_option maxRecDepth 100000 in
theorem mo_Reader_read : MOK e_Reader_read := mokB_ok (pl := (576, 2, 574, 575)) (code_in 576 rfl rfl) (by decide +kernel)
set_option maxRecDepth 100000 in
theorem mo_Reader_scan : MOK e_Reader_scan := mokB_ok (pl := (583, 2, 582, 1000000)) (code_in 583 rfl rfl) (by decide +kernel)
set_option maxRecDepth 100000 in
theorem mo_Reader_isBlank : MOK e_Reader_isBlank := mokB_ok (pl := (586, 2, 585, 0)) (code_in 586 rfl rfl) (by decide +kernel)
set_option maxRecDepth 100000 in
theorem mo_Reader_isLetter : MOK e_Reader_isLetter := mokB_ok (pl := (593, 2, 592, 0)) (code_in 593 rfl rfl) (by decide +kernel)
set_option maxRecDepth 100000 in
theorem mo_Reader_isDigit : MOK e_Reader_isDigit := mokB_ok (pl := (596, 2, 595, 0)) (code_in 596 rfl rfl) (by decide +kernel)
set_option maxRecDepth 100000 in
theorem mo_Reader_isComparison : MOK e_Reader_isComparison := mokB_ok (pl := (656, 2, 655, 0)) (code_in 656 rfl rfl) (by decide +kernel)
set_option maxRecDepth 100000 in
theorem mo_Reader_tokenEnd : MOK e_Reader_tokenEnd := mokB_ok (pl := (590, 2, 589, 1000001)) (code_in 590 rfl rfl) (by decide +kernel)
set_option maxRecDepth 100000 in
theorem mo_Reader_tokenOf : MOK e_Reader_tokenOf := mokB_ok (pl := (600, 2, 599, 1000002)) (code_in 600 rfl rfl) (by decide +kernel)
set_option maxRecDepth 100000 in
theorem mo_Reader_slotOf : MOK e_Reader_slotOf := mokB_ok (pl := (608, 2, 607, 1000004)) (code_in 608 rfl rfl) (by decide +kernel)
set_option maxRecDepth 100000 in
theorem mo_Reader_isInSlot : MOK e_Reader_isInSlot := mokB_ok (pl := (612, 2, 611, 1000005)) (code_in 612 rfl rfl) (by decide +kernel)
set_option maxRecDepth 100000 in
theorem mo_Reader_numberOf : MOK e_Reader_numberOf := mokB_ok (pl := (604, 2, 603, 1000003)) (code_in 604 rfl rfl) (by decide +kernel)
set_option maxRecDepth 100000 in
theorem mo_Reader_take : MOK e_Reader_take := mokB_ok (pl := (664, 2, 663, 1000007)) (code_in 664 rfl rfl) (by decide +kernel)
set_option maxRecDepth 100000 in
theorem mo_Reader_takeNumber : MOK e_Reader_takeNumber := mokB_ok (pl := (672, 2, 671, 1000009)) (code_in 672 rfl rfl) (by decide +kernel)
set_option maxRecDepth 100000 in
theorem mo_Reader_readRule : MOK e_Reader_readRule := mokB_ok (pl := (660, 2, 659, 1000006)) (code_in 660 rfl rfl) (by decide +kernel)
set_option maxRecDepth 100000 in
theorem mo_Reader_readPrice : MOK e_Reader_readPrice := mokB_ok (pl := (668, 2, 667, 1000008)) (code_in 668 rfl rfl) (by decide +kernel)
set_option maxRecDepth 100000 in
theorem mo_Reader_readBusy : MOK e_Reader_readBusy := mokB_ok (pl := (676, 2, 675, 1000010)) (code_in 676 rfl rfl) (by decide +kernel)
set_option maxRecDepth 100000 in
theorem mo_Reader_readDeposit : MOK e_Reader_readDeposit := mokB_ok (pl := (684, 2, 683, 1000011)) (code_in 684 rfl rfl) (by decide +kernel)
set_option maxRecDepth 100000 in
theorem mo_Reader_readLate : MOK e_Reader_readLate := mokB_ok (pl := (688, 2, 687, 1000012)) (code_in 688 rfl rfl) (by decide +kernel)
set_option maxRecDepth 100000 in
theorem mo_Reader_readRight : MOK e_Reader_readRight := mokB_ok (pl := (692, 2, 691, 1000013)) (code_in 692 rfl rfl) (by decide +kernel)
set_option maxRecDepth 100000 in
theorem mo_Reader_readHarm : MOK e_Reader_readHarm := mokB_ok (pl := (696, 2, 695, 1000014)) (code_in 696 rfl rfl) (by decide +kernel)
set_option maxRecDepth 100000 in
theorem mo_Reader_readShut : MOK e_Reader_readShut := mokB_ok (pl := (719, 2, 718, 1000018)) (code_in 719 rfl rfl) (by decide +kernel)
set_option maxRecDepth 100000 in
theorem mo_Reader_readAny : MOK e_Reader_readAny := mokB_ok (pl := (700, 2, 699, 1000015)) (code_in 700 rfl rfl) (by decide +kernel)
set_option maxRecDepth 100000 in
theorem mo_Reader_readAll : MOK e_Reader_readAll := mokB_ok (pl := (704, 2, 703, 1000016)) (code_in 704 rfl rfl) (by decide +kernel)
set_option maxRecDepth 100000 in
theorem mo_Reader_readOne : MOK e_Reader_readOne := mokB_ok (pl := (708, 2, 707, 1000017)) (code_in 708 rfl rfl) (by decide +kernel)
set_option maxRecDepth 100000 in
theorem mo_River_init : MOK e_River_init := mokB_ok (pl := (225, 7, 224, 0)) (code_in 225 rfl rfl) (by decide +kernel)
set_option maxRecDepth 100000 in
theorem mo_River_take : MOK e_River_take := mokB_ok (pl := (1350, 7, 1348, 1349)) (code_in 1350 rfl rfl) (by decide +kernel)
set_option maxRecDepth 100000 in
theorem mo_River_addSpell : MOK e_River_addSpell := mokB_ok (pl := (758, 7, 756, 757)) (code_in 758 rfl rfl) (by decide +kernel)
set_option maxRecDepth 100000 in
theorem mo_River_addNest : MOK e_River_addNest := mokB_ok (pl := (1311, 7, 1309, 1310)) (code_in 1311 rfl rfl) (by decide +kernel)
set_option maxRecDepth 100000 in
theorem mo_River_addRegatta : MOK e_River_addRegatta := mokB_ok (pl := (1319, 7, 1317, 1318)) (code_in 1319 rfl rfl) (by decide +kernel)
set_option maxRecDepth 100000 in
theorem mo_River_rains : MOK e_River_rains := mokB_ok (pl := (805, 7, 803, 804)) (code_in 805 rfl rfl) (by decide +kernel)
set_option maxRecDepth 100000 in
theorem mo_River_countWet : MOK e_River_countWet := mokB_ok (pl := (930, 7, 928, 929)) (code_in 930 rfl rfl) (by decide +kernel)
set_option maxRecDepth 100000 in
theorem mo_River_weedOf : MOK e_River_weedOf := mokB_ok (pl := (823, 7, 821, 822)) (code_in 823 rfl rfl) (by decide +kernel)
set_option maxRecDepth 100000 in
theorem mo_River_nestedReaches : MOK e_River_nestedReaches := mokB_ok (pl := (1328, 7, 1326, 1327)) (code_in 1328 rfl rfl) (by decide +kernel)
set_option maxRecDepth 100000 in
theorem mo_River_racedReaches : MOK e_River_racedReaches := mokB_ok (pl := (1332, 7, 1330, 1331)) (code_in 1332 rfl rfl) (by decide +kernel)
set_option maxRecDepth 100000 in
theorem mo_Roller_init : MOK e_Roller_init := mokB_ok (pl := (312, 9, 311, 0)) (code_in 312 rfl rfl) (by decide +kernel)
set_option maxRecDepth 100000 in
theorem mo_Roller_take : MOK e_Roller_take := mokB_ok (pl := (1359, 9, 1357, 1358)) (code_in 1359 rfl rfl) (by decide +kernel)
set_option maxRecDepth 100000 in
theorem mo_Roller_add : MOK e_Roller_add := mokB_ok (pl := (1147, 9, 1145, 1146)) (code_in 1147 rfl rfl) (by decide +kernel)
set_option maxRecDepth 100000 in
theorem mo_Roller_solve : MOK e_Roller_solve := mokB_ok (pl := (1155, 9, 1153, 1154)) (code_in 1155 rfl rfl) (by decide +kernel)
set_option maxRecDepth 100000 in
theorem mo_Roller_place : MOK e_Roller_place := mokB_ok (pl := (1159, 9, 1158, 0)) (code_in 1159 rfl rfl) (by decide +kernel)
set_option maxRecDepth 100000 in
theorem mo_State_init : MOK e_State_init := mokB_ok (pl := (143, 5, 142, 0)) (code_in 143 rfl rfl) (by decide +kernel)
set_option maxRecDepth 100000 in
theorem mo_State_take : MOK e_State_take := mokB_ok (pl := (1341, 5, 1339, 1340)) (code_in 1341 rfl rfl) (by decide +kernel)
set_option maxRecDepth 100000 in
theorem mo_View_init : MOK e_View_init := mokB_ok (pl := (443, 12, 442, 0)) (code_in 443 rfl rfl) (by decide +kernel)
set_option maxRecDepth 100000 in
theorem mo_View_see : MOK e_View_see := mokB_ok (pl := (789, 12, 787, 788)) (code_in 789 rfl rfl) (by decide +kernel)
set_option maxRecDepth 100000 in
theorem mo_View_learn : MOK e_View_learn := mokB_ok (pl := (793, 12, 792, 1000023)) (code_in 793 rfl rfl) (by decide +kernel)
set_option maxRecDepth 100000 in
theorem mo_View_isBack : MOK e_View_isBack := mokB_ok (pl := (876, 12, 874, 875)) (code_in 876 rfl rfl) (by decide +kernel)
set_option maxRecDepth 100000 in
theorem mo_View_minutesOf : MOK e_View_minutesOf := mokB_ok (pl := (950, 12, 948, 949)) (code_in 950 rfl rfl) (by decide +kernel)
set_option maxRecDepth 100000 in
theorem mo_View_isAway : MOK e_View_isAway := mokB_ok (pl := (813, 12, 812, 1000025)) (code_in 813 rfl rfl) (by decide +kernel)
set_option maxRecDepth 100000 in
theorem mo_View_outBits : MOK e_View_outBits := mokB_ok (pl := (809, 12, 807, 808)) (code_in 809 rfl rfl) (by decide +kernel)
set_option maxRecDepth 100000 in
theorem mo_View_allBackBy : MOK e_View_allBackBy := mokB_ok (pl := (797, 12, 795, 796)) (code_in 797 rfl rfl) (by decide +kernel)
set_option maxRecDepth 100000 in
theorem mo_View_knowsAlike : MOK e_View_knowsAlike := mokB_ok (pl := (1024, 12, 1022, 1023)) (code_in 1024 rfl rfl) (by decide +kernel)
set_option maxRecDepth 100000 in
theorem mo_View_freeMinutes : MOK e_View_freeMinutes := mokB_ok (pl := (954, 12, 952, 953)) (code_in 954 rfl rfl) (by decide +kernel)
set_option maxRecDepth 100000 in
theorem mo_View_sharesRight : MOK e_View_sharesRight := mokB_ok (pl := (960, 12, 959, 1000032)) (code_in 960 rfl rfl) (by decide +kernel)
set_option maxRecDepth 100000 in
theorem mo_View_isAhead : MOK e_View_isAhead := mokB_ok (pl := (965, 12, 964, 1000033)) (code_in 965 rfl rfl) (by decide +kernel)
set_option maxRecDepth 100000 in
theorem mo_View_markOut : MOK e_View_markOut := mokB_ok (pl := (1047, 12, 1045, 1046)) (code_in 1047 rfl rfl) (by decide +kernel)
set_option maxRecDepth 100000 in
theorem mo_View_minutesOfBoat : MOK e_View_minutesOfBoat := mokB_ok (pl := (1055, 12, 1053, 1054)) (code_in 1055 rfl rfl) (by decide +kernel)
set_option maxRecDepth 100000 in
theorem mo_View_hiresOfBoat : MOK e_View_hiresOfBoat := mokB_ok (pl := (1059, 12, 1057, 1058)) (code_in 1059 rfl rfl) (by decide +kernel)
set_option maxRecDepth 100000 in
theorem mo_View_waitFor : MOK e_View_waitFor := mokB_ok (pl := (1079, 12, 1077, 1078)) (code_in 1079 rfl rfl) (by decide +kernel)
set_option maxRecDepth 100000 in
theorem mo_P_init : MOK e_P_init := mokB_ok (pl := (26, 1, 25, 0)) (code_in 26 rfl rfl) (by decide +kernel)
set_option maxRecDepth 100000 in
theorem mo_P_feed : MOK e_P_feed := mokB_ok (pl := (553, 1, 551, 552)) (code_in 553 rfl rfl) (by decide +kernel)
set_option maxRecDepth 100000 in
theorem mo_P_law : MOK e_P_law := mokB_ok (pl := (565, 1, 563, 564)) (code_in 565 rfl rfl) (by decide +kernel)
set_option maxRecDepth 100000 in
theorem mo_P_fault : MOK e_P_fault := mokB_ok (pl := (724, 1, 722, 723)) (code_in 724 rfl rfl) (by decide +kernel)
set_option maxRecDepth 100000 in
theorem mo_P_rule : MOK e_P_rule := mokB_ok (pl := (728, 1, 726, 727)) (code_in 728 rfl rfl) (by decide +kernel)
set_option maxRecDepth 100000 in
theorem mo_P_water : MOK e_P_water := mokB_ok (pl := (744, 1, 742, 743)) (code_in 744 rfl rfl) (by decide +kernel)
set_option maxRecDepth 100000 in
theorem mo_P_rain : MOK e_P_rain := mokB_ok (pl := (751, 1, 749, 750)) (code_in 751 rfl rfl) (by decide +kernel)
set_option maxRecDepth 100000 in
theorem mo_P_boat : MOK e_P_boat := mokB_ok (pl := (762, 1, 760, 761)) (code_in 762 rfl rfl) (by decide +kernel)
set_option maxRecDepth 100000 in
theorem mo_P_free : MOK e_P_free := mokB_ok (pl := (773, 1, 771, 772)) (code_in 773 rfl rfl) (by decide +kernel)
set_option maxRecDepth 100000 in
theorem mo_P_out : MOK e_P_out := mokB_ok (pl := (840, 1, 838, 839)) (code_in 840 rfl rfl) (by decide +kernel)
set_option maxRecDepth 100000 in
theorem mo_P_back : MOK e_P_back := mokB_ok (pl := (860, 1, 858, 859)) (code_in 860 rfl rfl) (by decide +kernel)
set_option maxRecDepth 100000 in
theorem mo_P_mend : MOK e_P_mend := mokB_ok (pl := (881, 1, 879, 880)) (code_in 881 rfl rfl) (by decide +kernel)
set_option maxRecDepth 100000 in
theorem mo_P_swamp : MOK e_P_swamp := mokB_ok (pl := (889, 1, 887, 888)) (code_in 889 rfl rfl) (by decide +kernel)
set_option maxRecDepth 100000 in
theorem mo_P_cushions : MOK e_P_cushions := mokB_ok (pl := (893, 1, 891, 892)) (code_in 893 rfl rfl) (by decide +kernel)
set_option maxRecDepth 100000 in
theorem mo_P_weed : MOK e_P_weed := mokB_ok (pl := (897, 1, 895, 896)) (code_in 897 rfl rfl) (by decide +kernel)
set_option maxRecDepth 100000 in
theorem mo_P_cut : MOK e_P_cut := mokB_ok (pl := (901, 1, 899, 900)) (code_in 901 rfl rfl) (by decide +kernel)
set_option maxRecDepth 100000 in
theorem mo_P_hire : MOK e_P_hire := mokB_ok (pl := (905, 1, 903, 904)) (code_in 905 rfl rfl) (by decide +kernel)
set_option maxRecDepth 100000 in
theorem mo_P_known : MOK e_P_known := mokB_ok (pl := (913, 1, 911, 912)) (code_in 913 rfl rfl) (by decide +kernel)
set_option maxRecDepth 100000 in
theorem mo_P_bill : MOK e_P_bill := mokB_ok (pl := (925, 1, 923, 924)) (code_in 925 rfl rfl) (by decide +kernel)
set_option maxRecDepth 100000 in
theorem mo_P_outs : MOK e_P_outs := mokB_ok (pl := (1007, 1, 1005, 1006)) (code_in 1007 rfl rfl) (by decide +kernel)
set_option maxRecDepth 100000 in
theorem mo_P_takings : MOK e_P_takings := mokB_ok (pl := (1011, 1, 1009, 1010)) (code_in 1011 rfl rfl) (by decide +kernel)
set_option maxRecDepth 100000 in
theorem mo_P_differ : MOK e_P_differ := mokB_ok (pl := (1020, 1, 1018, 1019)) (code_in 1020 rfl rfl) (by decide +kernel)
set_option maxRecDepth 100000 in
theorem mo_P_cost : MOK e_P_cost := mokB_ok (pl := (1028, 1, 1026, 1027)) (code_in 1028 rfl rfl) (by decide +kernel)
set_option maxRecDepth 100000 in
theorem mo_P_worst : MOK e_P_worst := mokB_ok (pl := (1033, 1, 1031, 1032)) (code_in 1033 rfl rfl) (by decide +kernel)
set_option maxRecDepth 100000 in
theorem mo_P_together : MOK e_P_together := mokB_ok (pl := (1043, 1, 1041, 1042)) (code_in 1043 rfl rfl) (by decide +kernel)
set_option maxRecDepth 100000 in
theorem mo_P_worn : MOK e_P_worn := mokB_ok (pl := (1051, 1, 1049, 1050)) (code_in 1051 rfl rfl) (by decide +kernel)
set_option maxRecDepth 100000 in
theorem mo_P_old : MOK e_P_old := mokB_ok (pl := (1063, 1, 1061, 1062)) (code_in 1063 rfl rfl) (by decide +kernel)
set_option maxRecDepth 100000 in
theorem mo_P_doubt : MOK e_P_doubt := mokB_ok (pl := (1071, 1, 1069, 1070)) (code_in 1071 rfl rfl) (by decide +kernel)
set_option maxRecDepth 100000 in
theorem mo_P_queue : MOK e_P_queue := mokB_ok (pl := (1075, 1, 1073, 1074)) (code_in 1075 rfl rfl) (by decide +kernel)
set_option maxRecDepth 100000 in
theorem mo_P_chance : MOK e_P_chance := mokB_ok (pl := (1087, 1, 1085, 1086)) (code_in 1087 rfl rfl) (by decide +kernel)
set_option maxRecDepth 100000 in
theorem mo_P_keep : MOK e_P_keep := mokB_ok (pl := (1091, 1, 1089, 1090)) (code_in 1091 rfl rfl) (by decide +kernel)
set_option maxRecDepth 100000 in
theorem mo_P_least : MOK e_P_least := mokB_ok (pl := (1126, 1, 1124, 1125)) (code_in 1126 rfl rfl) (by decide +kernel)
set_option maxRecDepth 100000 in
theorem mo_P_protect : MOK e_P_protect := mokB_ok (pl := (1132, 1, 1130, 1131)) (code_in 1132 rfl rfl) (by decide +kernel)
set_option maxRecDepth 100000 in
theorem mo_P_roll : MOK e_P_roll := mokB_ok (pl := (1143, 1, 1141, 1142)) (code_in 1143 rfl rfl) (by decide +kernel)
set_option maxRecDepth 100000 in
theorem mo_P_rolled : MOK e_P_rolled := mokB_ok (pl := (1151, 1, 1149, 1150)) (code_in 1151 rfl rfl) (by decide +kernel)
set_option maxRecDepth 100000 in
theorem mo_P_guide : MOK e_P_guide := mokB_ok (pl := (1165, 1, 1163, 1164)) (code_in 1165 rfl rfl) (by decide +kernel)
set_option maxRecDepth 100000 in
theorem mo_P_party : MOK e_P_party := mokB_ok (pl := (1173, 1, 1171, 1172)) (code_in 1173 rfl rfl) (by decide +kernel)
set_option maxRecDepth 100000 in
theorem mo_P_guided : MOK e_P_guided := mokB_ok (pl := (1181, 1, 1179, 1180)) (code_in 1181 rfl rfl) (by decide +kernel)
set_option maxRecDepth 100000 in
theorem mo_P_pay : MOK e_P_pay := mokB_ok (pl := (1203, 1, 1201, 1202)) (code_in 1203 rfl rfl) (by decide +kernel)
set_option maxRecDepth 100000 in
theorem mo_P_earned : MOK e_P_earned := mokB_ok (pl := (1211, 1, 1209, 1210)) (code_in 1211 rfl rfl) (by decide +kernel)
set_option maxRecDepth 100000 in
theorem mo_P_pass : MOK e_P_pass := mokB_ok (pl := (1220, 1, 1218, 1219)) (code_in 1220 rfl rfl) (by decide +kernel)
set_option maxRecDepth 100000 in
theorem mo_P_pole : MOK e_P_pole := mokB_ok (pl := (1225, 1, 1223, 1224)) (code_in 1225 rfl rfl) (by decide +kernel)
set_option maxRecDepth 100000 in
theorem mo_P_paint : MOK e_P_paint := mokB_ok (pl := (1233, 1, 1231, 1232)) (code_in 1233 rfl rfl) (by decide +kernel)
set_option maxRecDepth 100000 in
theorem mo_P_painted : MOK e_P_painted := mokB_ok (pl := (1245, 1, 1243, 1244)) (code_in 1245 rfl rfl) (by decide +kernel)
set_option maxRecDepth 100000 in
theorem mo_P_fail : MOK e_P_fail := mokB_ok (pl := (1270, 1, 1268, 1269)) (code_in 1270 rfl rfl) (by decide +kernel)
set_option maxRecDepth 100000 in
theorem mo_P_renew : MOK e_P_renew := mokB_ok (pl := (1274, 1, 1272, 1273)) (code_in 1274 rfl rfl) (by decide +kernel)
set_option maxRecDepth 100000 in
theorem mo_P_loyal : MOK e_P_loyal := mokB_ok (pl := (1286, 1, 1284, 1285)) (code_in 1286 rfl rfl) (by decide +kernel)
set_option maxRecDepth 100000 in
theorem mo_P_tout : MOK e_P_tout := mokB_ok (pl := (1294, 1, 1292, 1293)) (code_in 1294 rfl rfl) (by decide +kernel)
set_option maxRecDepth 100000 in
theorem mo_P_nest : MOK e_P_nest := mokB_ok (pl := (1307, 1, 1305, 1306)) (code_in 1307 rfl rfl) (by decide +kernel)
set_option maxRecDepth 100000 in
theorem mo_P_regatta : MOK e_P_regatta := mokB_ok (pl := (1315, 1, 1313, 1314)) (code_in 1315 rfl rfl) (by decide +kernel)
set_option maxRecDepth 100000 in
theorem mo_P_barred : MOK e_P_barred := mokB_ok (pl := (1323, 1, 1321, 1322)) (code_in 1323 rfl rfl) (by decide +kernel)
set_option maxRecDepth 100000 in
theorem mo_P_image : MOK e_P_image := mokB_ok (pl := (1337, 1, 1335, 1336)) (code_in 1337 rfl rfl) (by decide +kernel)
set_option maxRecDepth 100000 in
theorem mo_P_restore : MOK e_P_restore := mokB_ok (pl := (1373, 1, 1371, 1372)) (code_in 1373 rfl rfl) (by decide +kernel)
set_option maxRecDepth 100000 in
theorem mo_P_count : MOK e_P_count := mokB_ok (pl := (1377, 1, 1375, 1376)) (code_in 1377 rfl rfl) (by decide +kernel)
set_option maxRecDepth 100000 in
theorem mo_P_within : MOK e_P_within := mokB_ok (pl := (747, 1, 746, 0)) (code_in 747 rfl rfl) (by decide +kernel)
set_option maxRecDepth 100000 in
theorem mo_P_isSpan : MOK e_P_isSpan := mokB_ok (pl := (754, 1, 753, 0)) (code_in 754 rfl rfl) (by decide +kernel)
set_option maxRecDepth 100000 in
theorem mo_P_isDay : MOK e_P_isDay := mokB_ok (pl := (568, 1, 567, 0)) (code_in 568 rfl rfl) (by decide +kernel)
set_option maxRecDepth 100000 in
theorem mo_P_isMoment : MOK e_P_isMoment := mokB_ok (pl := (780, 1, 779, 0)) (code_in 780 rfl rfl) (by decide +kernel)
set_option maxRecDepth 100000 in
theorem mo_P_isKind : MOK e_P_isKind := mokB_ok (pl := (765, 1, 764, 0)) (code_in 765 rfl rfl) (by decide +kernel)
set_option maxRecDepth 100000 in
theorem mo_P_isWho : MOK e_P_isWho := mokB_ok (pl := (843, 1, 842, 0)) (code_in 843 rfl rfl) (by decide +kernel)
set_option maxRecDepth 100000 in
theorem mo_P_isCoin : MOK e_P_isCoin := mokB_ok (pl := (1135, 1, 1134, 0)) (code_in 1135 rfl rfl) (by decide +kernel)
set_option maxRecDepth 100000 in
theorem mo_P_isBoat : MOK e_P_isBoat := mokB_ok (pl := (777, 1, 776, 1000021)) (code_in 777 rfl rfl) (by decide +kernel)
set_option maxRecDepth 100000 in
theorem mo_P_isHire : MOK e_P_isHire := mokB_ok (pl := (868, 1, 867, 1000028)) (code_in 868 rfl rfl) (by decide +kernel)
set_option maxRecDepth 100000 in
theorem mo_P_isTelling : MOK e_P_isTelling := mokB_ok (pl := (921, 1, 920, 1000030)) (code_in 921 rfl rfl) (by decide +kernel)
set_option maxRecDepth 100000 in
theorem mo_P_lawNumber : MOK e_P_lawNumber := mokB_ok (pl := (732, 1, 731, 1000019)) (code_in 732 rfl rfl) (by decide +kernel)
set_option maxRecDepth 100000 in
theorem mo_P_lawOf : MOK e_P_lawOf := mokB_ok (pl := (736, 1, 735, 1000020)) (code_in 736 rfl rfl) (by decide +kernel)
set_option maxRecDepth 100000 in
theorem mo_P_canGo : MOK e_P_canGo := mokB_ok (pl := (785, 1, 784, 1000022)) (code_in 785 rfl rfl) (by decide +kernel)
set_option maxRecDepth 100000 in
theorem mo_P_canEnd : MOK e_P_canEnd := mokB_ok (pl := (864, 1, 863, 1000027)) (code_in 864 rfl rfl) (by decide +kernel)
set_option maxRecDepth 100000 in
theorem mo_P_ask : MOK e_P_ask := mokB_ok (pl := (801, 1, 800, 1000024)) (code_in 801 rfl rfl) (by decide +kernel)
set_option maxRecDepth 100000 in
theorem mo_P_seesHire : MOK e_P_seesHire := mokB_ok (pl := (917, 1, 916, 1000029)) (code_in 917 rfl rfl) (by decide +kernel)
set_option maxRecDepth 100000 in
theorem mo_P_isBackOn : MOK e_P_isBackOn := mokB_ok (pl := (1015, 1, 1014, 1000035)) (code_in 1015 rfl rfl) (by decide +kernel)
set_option maxRecDepth 100000 in
theorem mo_P_drawBill : MOK e_P_drawBill := mokB_ok (pl := (934, 1, 933, 1000031)) (code_in 934 rfl rfl) (by decide +kernel)
set_option maxRecDepth 100000 in
theorem mo_P_boatsAheadOf : MOK e_P_boatsAheadOf := mokB_ok (pl := (1067, 1, 1066, 1000036)) (code_in 1067 rfl rfl) (by decide +kernel)
set_option maxRecDepth 100000 in
theorem mo_P_insertWait : MOK e_P_insertWait := mokB_ok (pl := (1083, 1, 1082, 1000037)) (code_in 1083 rfl rfl) (by decide +kernel)
set_option maxRecDepth 100000 in
theorem mo_M_init : MOK e_M_init := mokB_ok (pl := (1382, 14, 1381, 0)) (code_in 1382 rfl rfl) (by decide +kernel)
set_option maxRecDepth 100000 in
theorem mo_M_isIn : MOK e_M_isIn := mokB_ok (pl := (1688, 14, 1687, 0)) (code_in 1688 rfl rfl) (by decide +kernel)
set_option maxRecDepth 100000 in
theorem mo_M_one : MOK e_M_one := mokB_ok (pl := (1890, 14, 1889, 0)) (code_in 1890 rfl rfl) (by decide +kernel)
set_option maxRecDepth 100000 in
theorem mo_M_has : MOK e_M_has := mokB_ok (pl := (2115, 14, 2114, 0)) (code_in 2115 rfl rfl) (by decide +kernel)
set_option maxRecDepth 100000 in
theorem mo_M_bits : MOK e_M_bits := mokB_ok (pl := (1879, 14, 1878, 0)) (code_in 1879 rfl rfl) (by decide +kernel)
set_option maxRecDepth 100000 in
theorem mo_M_isDay : MOK e_M_isDay := mokB_ok (pl := (1691, 14, 1690, 0)) (code_in 1691 rfl rfl) (by decide +kernel)
set_option maxRecDepth 100000 in
theorem mo_M_isMoment : MOK e_M_isMoment := mokB_ok (pl := (1851, 14, 1850, 0)) (code_in 1851 rfl rfl) (by decide +kernel)
set_option maxRecDepth 100000 in
theorem mo_M_isKind : MOK e_M_isKind := mokB_ok (pl := (1840, 14, 1839, 0)) (code_in 1840 rfl rfl) (by decide +kernel)
set_option maxRecDepth 100000 in
theorem mo_M_begun : MOK e_M_begun := mokB_ok (pl := (1976, 14, 1975, 0)) (code_in 1976 rfl rfl) (by decide +kernel)
set_option maxRecDepth 100000 in
theorem mo_M_feed : MOK e_M_feed := mokB_ok (pl := (1677, 14, 1675, 1676)) (code_in 1677 rfl rfl) (by decide +kernel)
set_option maxRecDepth 100000 in
theorem mo_M_four : MOK e_M_four := mokB_ok (pl := (1681, 14, 1680, 1000047)) (code_in 1681 rfl rfl) (by decide +kernel)
set_option maxRecDepth 100000 in
theorem mo_M_blanks : MOK e_M_blanks := mokB_ok (pl := (1703, 14, 1702, 1000050)) (code_in 1703 rfl rfl) (by decide +kernel)
set_option maxRecDepth 100000 in
theorem mo_M_word : MOK e_M_word := mokB_ok (pl := (1716, 14, 1715, 1000053)) (code_in 1716 rfl rfl) (by decide +kernel)
set_option maxRecDepth 100000 in
theorem mo_M_takes : MOK e_M_takes := mokB_ok (pl := (1712, 14, 1711, 1000052)) (code_in 1712 rfl rfl) (by decide +kernel)
set_option maxRecDepth 100000 in
theorem mo_M_takesSign : MOK e_M_takesSign := mokB_ok (pl := (1765, 14, 1764, 1000064)) (code_in 1765 rfl rfl) (by decide +kernel)
set_option maxRecDepth 100000 in
theorem mo_M_takesNumber : MOK e_M_takesNumber := mokB_ok (pl := (1724, 14, 1723, 1000055)) (code_in 1724 rfl rfl) (by decide +kernel)
set_option maxRecDepth 100000 in
theorem mo_M_askedBy : MOK e_M_askedBy := mokB_ok (pl := (1768, 14, 1767, 0)) (code_in 1768 rfl rfl) (by decide +kernel)
set_option maxRecDepth 100000 in
theorem mo_M_puts : MOK e_M_puts := mokB_ok (pl := (1761, 14, 1760, 1000063)) (code_in 1761 rfl rfl) (by decide +kernel)
set_option maxRecDepth 100000 in
theorem mo_M_opens : MOK e_M_opens := mokB_ok (pl := (1757, 14, 1756, 1000062)) (code_in 1757 rfl rfl) (by decide +kernel)
set_option maxRecDepth 100000 in
theorem mo_M_any : MOK e_M_any := mokB_ok (pl := (1744, 14, 1743, 1000059)) (code_in 1744 rfl rfl) (by decide +kernel)
set_option maxRecDepth 100000 in
theorem mo_M_all : MOK e_M_all := mokB_ok (pl := (1748, 14, 1747, 1000060)) (code_in 1748 rfl rfl) (by decide +kernel)
set_option maxRecDepth 100000 in
theorem mo_M_single : MOK e_M_single := mokB_ok (pl := (1752, 14, 1751, 1000061)) (code_in 1752 rfl rfl) (by decide +kernel)
set_option maxRecDepth 100000 in
theorem mo_M_says : MOK e_M_says := mokB_ok (pl := (1733, 14, 1732, 1000057)) (code_in 1733 rfl rfl) (by decide +kernel)
set_option maxRecDepth 100000 in
theorem mo_M_eachTold : MOK e_M_eachTold := mokB_ok (pl := (1728, 14, 1727, 1000056)) (code_in 1728 rfl rfl) (by decide +kernel)
set_option maxRecDepth 100000 in
theorem mo_M_priceTold : MOK e_M_priceTold := mokB_ok (pl := (1720, 14, 1719, 1000054)) (code_in 1720 rfl rfl) (by decide +kernel)
set_option maxRecDepth 100000 in
theorem mo_M_depositTold : MOK e_M_depositTold := mokB_ok (pl := (1783, 14, 1782, 1000065)) (code_in 1783 rfl rfl) (by decide +kernel)
set_option maxRecDepth 100000 in
theorem mo_M_lateTold : MOK e_M_lateTold := mokB_ok (pl := (1788, 14, 1787, 1000066)) (code_in 1788 rfl rfl) (by decide +kernel)
set_option maxRecDepth 100000 in
theorem mo_M_rightTold : MOK e_M_rightTold := mokB_ok (pl := (1798, 14, 1797, 1000068)) (code_in 1798 rfl rfl) (by decide +kernel)
set_option maxRecDepth 100000 in
theorem mo_M_oneTold : MOK e_M_oneTold := mokB_ok (pl := (1793, 14, 1792, 1000067)) (code_in 1793 rfl rfl) (by decide +kernel)
set_option maxRecDepth 100000 in
theorem mo_M_clauseTold : MOK e_M_clauseTold := mokB_ok (pl := (1738, 14, 1737, 1000058)) (code_in 1738 rfl rfl) (by decide +kernel)
set_option maxRecDepth 100000 in
theorem mo_M_rule_0 : MOK e_M_rule_0 := mokB_ok (pl := (1707, 14, 1706, 1000051)) (code_in 1707 rfl rfl) (by decide +kernel)
set_option maxRecDepth 100000 in
theorem mo_M_bare : MOK e_M_bare := mokB_ok (pl := (1699, 14, 1698, 1000049)) (code_in 1699 rfl rfl) (by decide +kernel)
set_option maxRecDepth 100000 in
theorem mo_M_reads : MOK e_M_reads := mokB_ok (pl := (1695, 14, 1694, 1000048)) (code_in 1695 rfl rfl) (by decide +kernel)
set_option maxRecDepth 100000 in
theorem mo_M_law : MOK e_M_law := mokB_ok (pl := (1685, 14, 1683, 1684)) (code_in 1685 rfl rfl) (by decide +kernel)
set_option maxRecDepth 100000 in
theorem mo_M_fault : MOK e_M_fault := mokB_ok (pl := (1805, 14, 1803, 1804)) (code_in 1805 rfl rfl) (by decide +kernel)
set_option maxRecDepth 100000 in
theorem mo_M_lawOf : MOK e_M_lawOf := mokB_ok (pl := (1813, 14, 1812, 1000069)) (code_in 1813 rfl rfl) (by decide +kernel)
set_option maxRecDepth 100000 in
theorem mo_M_said : MOK e_M_said := mokB_ok (pl := (1817, 14, 1816, 1000070)) (code_in 1817 rfl rfl) (by decide +kernel)
set_option maxRecDepth 100000 in
theorem mo_M_rule_1 : MOK e_M_rule_1 := mokB_ok (pl := (1809, 14, 1807, 1808)) (code_in 1809 rfl rfl) (by decide +kernel)
set_option maxRecDepth 100000 in
theorem mo_M_water : MOK e_M_water := mokB_ok (pl := (1821, 14, 1819, 1820)) (code_in 1821 rfl rfl) (by decide +kernel)
set_option maxRecDepth 100000 in
theorem mo_M_rain : MOK e_M_rain := mokB_ok (pl := (1825, 14, 1823, 1824)) (code_in 1825 rfl rfl) (by decide +kernel)
set_option maxRecDepth 100000 in
theorem mo_M_rains : MOK e_M_rains := mokB_ok (pl := (1887, 14, 1886, 1000079)) (code_in 1887 rfl rfl) (by decide +kernel)
set_option maxRecDepth 100000 in
theorem mo_M_weed : MOK e_M_weed := mokB_ok (pl := (1829, 14, 1827, 1828)) (code_in 1829 rfl rfl) (by decide +kernel)
set_option maxRecDepth 100000 in
theorem mo_M_cut : MOK e_M_cut := mokB_ok (pl := (1833, 14, 1831, 1832)) (code_in 1833 rfl rfl) (by decide +kernel)
set_option maxRecDepth 100000 in
theorem mo_M_weedOn : MOK e_M_weedOn := mokB_ok (pl := (1894, 14, 1893, 1000080)) (code_in 1894 rfl rfl) (by decide +kernel)
set_option maxRecDepth 100000 in
theorem mo_M_boat : MOK e_M_boat := mokB_ok (pl := (1837, 14, 1835, 1836)) (code_in 1837 rfl rfl) (by decide +kernel)
set_option maxRecDepth 100000 in
theorem mo_M_isBoat : MOK e_M_isBoat := mokB_ok (pl := (1848, 14, 1847, 1000071)) (code_in 1848 rfl rfl) (by decide +kernel)
set_option maxRecDepth 100000 in
theorem mo_M_isHire : MOK e_M_isHire := mokB_ok (pl := (1919, 14, 1918, 1000084)) (code_in 1919 rfl rfl) (by decide +kernel)
set_option maxRecDepth 100000 in
theorem mo_M_isTelling : MOK e_M_isTelling := mokB_ok (pl := (1943, 14, 1942, 1000085)) (code_in 1943 rfl rfl) (by decide +kernel)
set_option maxRecDepth 100000 in
theorem mo_M_knows : MOK e_M_knows := mokB_ok (pl := (1860, 14, 1859, 1000073)) (code_in 1860 rfl rfl) (by decide +kernel)
set_option maxRecDepth 100000 in
theorem mo_M_isKnown : MOK e_M_isKnown := mokB_ok (pl := (1876, 14, 1875, 1000077)) (code_in 1876 rfl rfl) (by decide +kernel)
set_option maxRecDepth 100000 in
theorem mo_M_isBack : MOK e_M_isBack := mokB_ok (pl := (1952, 14, 1951, 1000086)) (code_in 1952 rfl rfl) (by decide +kernel)
set_option maxRecDepth 100000 in
theorem mo_M_isOut : MOK e_M_isOut := mokB_ok (pl := (1872, 14, 1871, 1000076)) (code_in 1872 rfl rfl) (by decide +kernel)
set_option maxRecDepth 100000 in
theorem mo_M_outSet : MOK e_M_outSet := mokB_ok (pl := (1868, 14, 1867, 1000075)) (code_in 1868 rfl rfl) (by decide +kernel)
set_option maxRecDepth 100000 in
theorem mo_M_asks : MOK e_M_asks := mokB_ok (pl := (1883, 14, 1882, 1000078)) (code_in 1883 rfl rfl) (by decide +kernel)
set_option maxRecDepth 100000 in
theorem mo_M_isTrue : MOK e_M_isTrue := mokB_ok (pl := (1899, 14, 1898, 1000081)) (code_in 1899 rfl rfl) (by decide +kernel)
set_option maxRecDepth 100000 in
theorem mo_M_isShut : MOK e_M_isShut := mokB_ok (pl := (1864, 14, 1863, 1000074)) (code_in 1864 rfl rfl) (by decide +kernel)
set_option maxRecDepth 100000 in
theorem mo_M_mayGo : MOK e_M_mayGo := mokB_ok (pl := (1856, 14, 1855, 1000072)) (code_in 1856 rfl rfl) (by decide +kernel)
set_option maxRecDepth 100000 in
theorem mo_M_free : MOK e_M_free := mokB_ok (pl := (1844, 14, 1842, 1843)) (code_in 1844 rfl rfl) (by decide +kernel)
set_option maxRecDepth 100000 in
theorem mo_M_tells : MOK e_M_tells := mokB_ok (pl := (1907, 14, 1906, 1000082)) (code_in 1907 rfl rfl) (by decide +kernel)
set_option maxRecDepth 100000 in
theorem mo_M_out : MOK e_M_out := mokB_ok (pl := (1903, 14, 1901, 1902)) (code_in 1903 rfl rfl) (by decide +kernel)
set_option maxRecDepth 100000 in
theorem mo_M_mayBe : MOK e_M_mayBe := mokB_ok (pl := (1915, 14, 1914, 1000083)) (code_in 1915 rfl rfl) (by decide +kernel)
set_option maxRecDepth 100000 in
theorem mo_M_back : MOK e_M_back := mokB_ok (pl := (1911, 14, 1909, 1910)) (code_in 1911 rfl rfl) (by decide +kernel)
set_option maxRecDepth 100000 in
theorem mo_M_mend : MOK e_M_mend := mokB_ok (pl := (1923, 14, 1921, 1922)) (code_in 1923 rfl rfl) (by decide +kernel)
set_option maxRecDepth 100000 in
theorem mo_M_swamp : MOK e_M_swamp := mokB_ok (pl := (1927, 14, 1925, 1926)) (code_in 1927 rfl rfl) (by decide +kernel)
set_option maxRecDepth 100000 in
theorem mo_M_cushions : MOK e_M_cushions := mokB_ok (pl := (1931, 14, 1929, 1930)) (code_in 1931 rfl rfl) (by decide +kernel)
set_option maxRecDepth 100000 in
theorem mo_M_hire : MOK e_M_hire := mokB_ok (pl := (1935, 14, 1933, 1934)) (code_in 1935 rfl rfl) (by decide +kernel)
set_option maxRecDepth 100000 in
theorem mo_M_known : MOK e_M_known := mokB_ok (pl := (1939, 14, 1937, 1938)) (code_in 1939 rfl rfl) (by decide +kernel)
set_option maxRecDepth 100000 in
theorem mo_M_lawBy : MOK e_M_lawBy := mokB_ok (pl := (1964, 14, 1963, 1000089)) (code_in 1964 rfl rfl) (by decide +kernel)
set_option maxRecDepth 100000 in
theorem mo_M_kindBy : MOK e_M_kindBy := mokB_ok (pl := (1968, 14, 1967, 1000090)) (code_in 1968 rfl rfl) (by decide +kernel)
set_option maxRecDepth 100000 in
theorem mo_M_minutes : MOK e_M_minutes := mokB_ok (pl := (1956, 14, 1955, 1000087)) (code_in 1956 rfl rfl) (by decide +kernel)
set_option maxRecDepth 100000 in
theorem mo_M_freeOf : MOK e_M_freeOf := mokB_ok (pl := (1960, 14, 1959, 1000088)) (code_in 1960 rfl rfl) (by decide +kernel)
set_option maxRecDepth 100000 in
theorem mo_M_priceOf : MOK e_M_priceOf := mokB_ok (pl := (1973, 14, 1972, 1000091)) (code_in 1973 rfl rfl) (by decide +kernel)
set_option maxRecDepth 100000 in
theorem mo_M_lateOf : MOK e_M_lateOf := mokB_ok (pl := (1980, 14, 1979, 1000092)) (code_in 1980 rfl rfl) (by decide +kernel)
set_option maxRecDepth 100000 in
theorem mo_M_wetOf : MOK e_M_wetOf := mokB_ok (pl := (1984, 14, 1983, 1000093)) (code_in 1984 rfl rfl) (by decide +kernel)
set_option maxRecDepth 100000 in
theorem mo_M_harmOf : MOK e_M_harmOf := mokB_ok (pl := (1989, 14, 1988, 1000094)) (code_in 1989 rfl rfl) (by decide +kernel)
set_option maxRecDepth 100000 in
theorem mo_M_cushionsOf : MOK e_M_cushionsOf := mokB_ok (pl := (1997, 14, 1996, 1000096)) (code_in 1997 rfl rfl) (by decide +kernel)
set_option maxRecDepth 100000 in
theorem mo_M_owedOf : MOK e_M_owedOf := mokB_ok (pl := (1993, 14, 1992, 1000095)) (code_in 1993 rfl rfl) (by decide +kernel)
set_option maxRecDepth 100000 in
theorem mo_M_bill : MOK e_M_bill := mokB_ok (pl := (1947, 14, 1945, 1946)) (code_in 1947 rfl rfl) (by decide +kernel)
set_option maxRecDepth 100000 in
theorem mo_M_outs : MOK e_M_outs := mokB_ok (pl := (2001, 14, 1999, 2000)) (code_in 2001 rfl rfl) (by decide +kernel)
set_option maxRecDepth 100000 in
theorem mo_M_isOn : MOK e_M_isOn := mokB_ok (pl := (2009, 14, 2008, 1000097)) (code_in 2009 rfl rfl) (by decide +kernel)
set_option maxRecDepth 100000 in
theorem mo_M_takings : MOK e_M_takings := mokB_ok (pl := (2005, 14, 2003, 2004)) (code_in 2005 rfl rfl) (by decide +kernel)
set_option maxRecDepth 100000 in
theorem mo_M_keeps : MOK e_M_keeps := mokB_ok (pl := (2017, 14, 2016, 1000098)) (code_in 2017 rfl rfl) (by decide +kernel)
set_option maxRecDepth 100000 in
theorem mo_M_differ : MOK e_M_differ := mokB_ok (pl := (2013, 14, 2011, 2012)) (code_in 2013 rfl rfl) (by decide +kernel)
set_option maxRecDepth 100000 in
theorem mo_M_cost : MOK e_M_cost := mokB_ok (pl := (2021, 14, 2019, 2020)) (code_in 2021 rfl rfl) (by decide +kernel)
set_option maxRecDepth 100000 in
theorem mo_M_worst : MOK e_M_worst := mokB_ok (pl := (2025, 14, 2023, 2024)) (code_in 2025 rfl rfl) (by decide +kernel)
set_option maxRecDepth 100000 in
theorem mo_M_hasOut : MOK e_M_hasOut := mokB_ok (pl := (2033, 14, 2032, 1000099)) (code_in 2033 rfl rfl) (by decide +kernel)
set_option maxRecDepth 100000 in
theorem mo_M_together : MOK e_M_together := mokB_ok (pl := (2029, 14, 2027, 2028)) (code_in 2029 rfl rfl) (by decide +kernel)
set_option maxRecDepth 100000 in
theorem mo_M_wornNow : MOK e_M_wornNow := mokB_ok (pl := (2041, 14, 2040, 1000100)) (code_in 2041 rfl rfl) (by decide +kernel)
set_option maxRecDepth 100000 in
theorem mo_M_worn : MOK e_M_worn := mokB_ok (pl := (2037, 14, 2035, 2036)) (code_in 2037 rfl rfl) (by decide +kernel)
set_option maxRecDepth 100000 in
theorem mo_M_old : MOK e_M_old := mokB_ok (pl := (2045, 14, 2043, 2044)) (code_in 2045 rfl rfl) (by decide +kernel)
set_option maxRecDepth 100000 in
theorem mo_M_doubt : MOK e_M_doubt := mokB_ok (pl := (2049, 14, 2047, 2048)) (code_in 2049 rfl rfl) (by decide +kernel)
set_option maxRecDepth 100000 in
theorem mo_M_comes : MOK e_M_comes := mokB_ok (pl := (2057, 14, 2056, 1000101)) (code_in 2057 rfl rfl) (by decide +kernel)
set_option maxRecDepth 100000 in
theorem mo_M_queue : MOK e_M_queue := mokB_ok (pl := (2053, 14, 2051, 2052)) (code_in 2053 rfl rfl) (by decide +kernel)
set_option maxRecDepth 100000 in
theorem mo_M_chance : MOK e_M_chance := mokB_ok (pl := (2061, 14, 2059, 2060)) (code_in 2061 rfl rfl) (by decide +kernel)
set_option maxRecDepth 100000 in
theorem mo_M_areWhole : MOK e_M_areWhole := mokB_ok (pl := (2069, 14, 2068, 1000102)) (code_in 2069 rfl rfl) (by decide +kernel)
set_option maxRecDepth 100000 in
theorem mo_M_served : MOK e_M_served := mokB_ok (pl := (2074, 14, 2073, 1000103)) (code_in 2074 rfl rfl) (by decide +kernel)
set_option maxRecDepth 100000 in
theorem mo_M_wantedNow : MOK e_M_wantedNow := mokB_ok (pl := (2080, 14, 2079, 1000104)) (code_in 2080 rfl rfl) (by decide +kernel)
set_option maxRecDepth 100000 in
theorem mo_M_divisor : MOK e_M_divisor := mokB_ok (pl := (2083, 14, 2082, 0)) (code_in 2083 rfl rfl) (by decide +kernel)
set_option maxRecDepth 100000 in
theorem mo_M_keep : MOK e_M_keep := mokB_ok (pl := (2065, 14, 2063, 2064)) (code_in 2065 rfl rfl) (by decide +kernel)
set_option maxRecDepth 100000 in
theorem mo_M_least : MOK e_M_least := mokB_ok (pl := (2090, 14, 2088, 2089)) (code_in 2090 rfl rfl) (by decide +kernel)
set_option maxRecDepth 100000 in
theorem mo_M_mean : MOK e_M_mean := mokB_ok (pl := (2099, 14, 2098, 1000105)) (code_in 2099 rfl rfl) (by decide +kernel)
set_option maxRecDepth 100000 in
theorem mo_M_protect : MOK e_M_protect := mokB_ok (pl := (2095, 14, 2093, 2094)) (code_in 2095 rfl rfl) (by decide +kernel)
set_option maxRecDepth 100000 in
theorem mo_M_roll : MOK e_M_roll := mokB_ok (pl := (2103, 14, 2101, 2102)) (code_in 2103 rfl rfl) (by decide +kernel)
set_option maxRecDepth 100000 in
theorem mo_M_orders : MOK e_M_orders := mokB_ok (pl := (2112, 14, 2111, 1000106)) (code_in 2112 rfl rfl) (by decide +kernel)
set_option maxRecDepth 100000 in
theorem mo_M_waits : MOK e_M_waits := mokB_ok (pl := (2119, 14, 2118, 1000107)) (code_in 2119 rfl rfl) (by decide +kernel)
set_option maxRecDepth 100000 in
theorem mo_M_rolled : MOK e_M_rolled := mokB_ok (pl := (2107, 14, 2105, 2106)) (code_in 2107 rfl rfl) (by decide +kernel)
set_option maxRecDepth 100000 in
theorem mo_M_guide : MOK e_M_guide := mokB_ok (pl := (2123, 14, 2121, 2122)) (code_in 2123 rfl rfl) (by decide +kernel)
set_option maxRecDepth 100000 in
theorem mo_M_party : MOK e_M_party := mokB_ok (pl := (2127, 14, 2125, 2126)) (code_in 2127 rfl rfl) (by decide +kernel)
set_option maxRecDepth 100000 in
theorem mo_M_maySing : MOK e_M_maySing := mokB_ok (pl := (2148, 14, 2147, 1000111)) (code_in 2148 rfl rfl) (by decide +kernel)
set_option maxRecDepth 100000 in
theorem mo_M_leftBy : MOK e_M_leftBy := mokB_ok (pl := (2143, 14, 2142, 1000110)) (code_in 2143 rfl rfl) (by decide +kernel)
set_option maxRecDepth 100000 in
theorem mo_M_lookLeft : MOK e_M_lookLeft := mokB_ok (pl := (2139, 14, 2138, 1000109)) (code_in 2139 rfl rfl) (by decide +kernel)
set_option maxRecDepth 100000 in
theorem mo_M_guides : MOK e_M_guides := mokB_ok (pl := (2135, 14, 2134, 1000108)) (code_in 2135 rfl rfl) (by decide +kernel)
set_option maxRecDepth 100000 in
theorem mo_M_guided : MOK e_M_guided := mokB_ok (pl := (2131, 14, 2129, 2130)) (code_in 2131 rfl rfl) (by decide +kernel)
set_option maxRecDepth 100000 in
theorem mo_M_pay : MOK e_M_pay := mokB_ok (pl := (2152, 14, 2150, 2151)) (code_in 2152 rfl rfl) (by decide +kernel)
set_option maxRecDepth 100000 in
theorem mo_M_earned : MOK e_M_earned := mokB_ok (pl := (2156, 14, 2154, 2155)) (code_in 2156 rfl rfl) (by decide +kernel)
set_option maxRecDepth 100000 in
theorem mo_M_pass : MOK e_M_pass := mokB_ok (pl := (2160, 14, 2158, 2159)) (code_in 2160 rfl rfl) (by decide +kernel)
set_option maxRecDepth 100000 in
theorem mo_M_pole : MOK e_M_pole := mokB_ok (pl := (2165, 14, 2163, 2164)) (code_in 2165 rfl rfl) (by decide +kernel)
set_option maxRecDepth 100000 in
theorem mo_M_dries : MOK e_M_dries := mokB_ok (pl := (2173, 14, 2172, 1000112)) (code_in 2173 rfl rfl) (by decide +kernel)
set_option maxRecDepth 100000 in
theorem mo_M_paint : MOK e_M_paint := mokB_ok (pl := (2169, 14, 2167, 2168)) (code_in 2169 rfl rfl) (by decide +kernel)
set_option maxRecDepth 100000 in
theorem mo_M_sorts : MOK e_M_sorts := mokB_ok (pl := (2181, 14, 2180, 1000113)) (code_in 2181 rfl rfl) (by decide +kernel)
set_option maxRecDepth 100000 in
theorem mo_M_lost : MOK e_M_lost := mokB_ok (pl := (2185, 14, 2184, 1000114)) (code_in 2185 rfl rfl) (by decide +kernel)
set_option maxRecDepth 100000 in
theorem mo_M_byBoats : MOK e_M_byBoats := mokB_ok (pl := (2189, 14, 2188, 1000115)) (code_in 2189 rfl rfl) (by decide +kernel)
set_option maxRecDepth 100000 in
theorem mo_M_painted : MOK e_M_painted := mokB_ok (pl := (2177, 14, 2175, 2176)) (code_in 2177 rfl rfl) (by decide +kernel)
set_option maxRecDepth 100000 in
theorem mo_M_fail : MOK e_M_fail := mokB_ok (pl := (2193, 14, 2191, 2192)) (code_in 2193 rfl rfl) (by decide +kernel)
set_option maxRecDepth 100000 in
theorem mo_M_renew : MOK e_M_renew := mokB_ok (pl := (2197, 14, 2195, 2196)) (code_in 2197 rfl rfl) (by decide +kernel)
set_option maxRecDepth 100000 in
theorem mo_M_loyal : MOK e_M_loyal := mokB_ok (pl := (2201, 14, 2199, 2200)) (code_in 2201 rfl rfl) (by decide +kernel)
set_option maxRecDepth 100000 in
theorem mo_M_stays : MOK e_M_stays := mokB_ok (pl := (2209, 14, 2208, 1000116)) (code_in 2209 rfl rfl) (by decide +kernel)
set_option maxRecDepth 100000 in
theorem mo_M_tout : MOK e_M_tout := mokB_ok (pl := (2205, 14, 2203, 2204)) (code_in 2205 rfl rfl) (by decide +kernel)
set_option maxRecDepth 100000 in
theorem mo_M_nest : MOK e_M_nest := mokB_ok (pl := (2213, 14, 2211, 2212)) (code_in 2213 rfl rfl) (by decide +kernel)
set_option maxRecDepth 100000 in
theorem mo_M_regatta : MOK e_M_regatta := mokB_ok (pl := (2217, 14, 2215, 2216)) (code_in 2217 rfl rfl) (by decide +kernel)
set_option maxRecDepth 100000 in
theorem mo_M_barred : MOK e_M_barred := mokB_ok (pl := (2221, 14, 2219, 2220)) (code_in 2221 rfl rfl) (by decide +kernel)
set_option maxRecDepth 100000 in
theorem mo_M_lays : MOK e_M_lays := mokB_ok (pl := (2229, 14, 2228, 1000117)) (code_in 2229 rfl rfl) (by decide +kernel)
set_option maxRecDepth 100000 in
theorem mo_M_fetches : MOK e_M_fetches := mokB_ok (pl := (2237, 14, 2236, 1000118)) (code_in 2237 rfl rfl) (by decide +kernel)
set_option maxRecDepth 100000 in
theorem mo_M_image : MOK e_M_image := mokB_ok (pl := (2225, 14, 2223, 2224)) (code_in 2225 rfl rfl) (by decide +kernel)
set_option maxRecDepth 100000 in
theorem mo_M_restore : MOK e_M_restore := mokB_ok (pl := (2233, 14, 2231, 2232)) (code_in 2233 rfl rfl) (by decide +kernel)
set_option maxRecDepth 100000 in
theorem mo_M_count : MOK e_M_count := mokB_ok (pl := (2241, 14, 2239, 2240)) (code_in 2241 rfl rfl) (by decide +kernel)
set_option maxRecDepth 100000 in
theorem mo_Integer_compare : MOK e_Integer_compare := mokB_ok (pl := (968, 20, 967, 0)) (code_in 968 rfl rfl) (by decide +kernel)
set_option maxRecDepth 100000 in
theorem mo_Integer_bitCount : MOK e_Integer_bitCount := mokB_ok (pl := (816, 20, 815, 0)) (code_in 816 rfl rfl) (by decide +kernel)
set_option maxRecDepth 100000 in
theorem mo_Math_abs : MOK e_Math_abs := mokB_ok (pl := (2086, 15, 2085, 0)) (code_in 2086 rfl rfl) (by decide +kernel)
set_option maxRecDepth 100000 in
theorem mo_Math_max : MOK e_Math_max := mokB_ok (pl := (972, 15, 971, 0)) (code_in 972 rfl rfl) (by decide +kernel)
set_option maxRecDepth 100000 in
theorem mo_Math_min : MOK e_Math_min := mokB_ok (pl := (579, 15, 578, 0)) (code_in 579 rfl rfl) (by decide +kernel)
set_option maxRecDepth 100000 in
theorem mo_Arrays_fill_0 : MOK e_Arrays_fill_0 := mokB_ok (pl := (1103, 4, 1102, 0)) (code_in 1103 rfl rfl) (by decide +kernel)
set_option maxRecDepth 100000 in
theorem mo_Arrays_fill_1 : MOK e_Arrays_fill_1 := mokB_ok (pl := (66, 4, 65, 0)) (code_in 66 rfl rfl) (by decide +kernel)
theorem mok_all : ∀ q ∈ mTL, MOK q := by
  intro q hq
  rw [mTL_split] at hq
  have a0 : ∀ q ∈ [e_Bill_init, e_Bill_drawPrice, e_Bill_draw, e_Bill_begun, e_Bill_raised, e_Bill_wetCoin, e_Bill_addRain, e_Bill_owed, e_Bill_look, e_Book_init, e_Book_take, e_Book_addBoat, e_Book_hasRoom, e_Book_addHire, e_Book_tell, e_Book_look, e_Book_dayOf, e_Book_kindOfHire, e_Book_nextOut, e_Book_reachesOfPole, e_Demand_init, e_Demand_take, e_Demand_isWhole, e_Demand_wanted, e_Demand_served, e_Demand_serveHour, e_Demand_commonDivisor, e_Demand_meanCoin, e_Demand_addLoyal, e_Demand_staying, e_Demand_bestPrice, e_Dock_init, e_Dock_take, e_Dock_setPaint, e_Dock_listDry, e_Dock_orderDry, e_Dock_isSooner, e_Dock_solvePaint, e_Dock_coinLost, e_Dock_solveRenewal], MOK q := List.forall_mem_cons.mpr ⟨mo_Bill_init, List.forall_mem_cons.mpr ⟨mo_Bill_drawPrice, List.forall_mem_cons.mpr ⟨mo_Bill_draw, List.forall_mem_cons.mpr ⟨mo_Bill_begun, List.forall_mem_cons.mpr ⟨mo_Bill_raised, List.forall_mem_cons.mpr ⟨mo_Bill_wetCoin, List.forall_mem_cons.mpr ⟨mo_Bill_addRain, List.forall_mem_cons.mpr ⟨mo_Bill_owed, List.forall_mem_cons.mpr ⟨mo_Bill_look, List.forall_mem_cons.mpr ⟨mo_Book_init, List.forall_mem_cons.mpr ⟨mo_Book_take, List.forall_mem_cons.mpr ⟨mo_Book_addBoat, List.forall_mem_cons.mpr ⟨mo_Book_hasRoom, List.forall_mem_cons.mpr ⟨mo_Book_addHire, List.forall_mem_cons.mpr ⟨mo_Book_tell, List.forall_mem_cons.mpr ⟨mo_Book_look, List.forall_mem_cons.mpr ⟨mo_Book_dayOf, List.forall_mem_cons.mpr ⟨mo_Book_kindOfHire, List.forall_mem_cons.mpr ⟨mo_Book_nextOut, List.forall_mem_cons.mpr ⟨mo_Book_reachesOfPole, List.forall_mem_cons.mpr ⟨mo_Demand_init, List.forall_mem_cons.mpr ⟨mo_Demand_take, List.forall_mem_cons.mpr ⟨mo_Demand_isWhole, List.forall_mem_cons.mpr ⟨mo_Demand_wanted, List.forall_mem_cons.mpr ⟨mo_Demand_served, List.forall_mem_cons.mpr ⟨mo_Demand_serveHour, List.forall_mem_cons.mpr ⟨mo_Demand_commonDivisor, List.forall_mem_cons.mpr ⟨mo_Demand_meanCoin, List.forall_mem_cons.mpr ⟨mo_Demand_addLoyal, List.forall_mem_cons.mpr ⟨mo_Demand_staying, List.forall_mem_cons.mpr ⟨mo_Demand_bestPrice, List.forall_mem_cons.mpr ⟨mo_Dock_init, List.forall_mem_cons.mpr ⟨mo_Dock_take, List.forall_mem_cons.mpr ⟨mo_Dock_setPaint, List.forall_mem_cons.mpr ⟨mo_Dock_listDry, List.forall_mem_cons.mpr ⟨mo_Dock_orderDry, List.forall_mem_cons.mpr ⟨mo_Dock_isSooner, List.forall_mem_cons.mpr ⟨mo_Dock_solvePaint, List.forall_mem_cons.mpr ⟨mo_Dock_coinLost, List.forall_mem_cons.mpr ⟨mo_Dock_solveRenewal, fun _ h => absurd h List.not_mem_nil⟩⟩⟩⟩⟩⟩⟩⟩⟩⟩⟩⟩⟩⟩⟩⟩⟩⟩⟩⟩⟩⟩⟩⟩⟩⟩⟩⟩⟩⟩⟩⟩⟩⟩⟩⟩⟩⟩⟩⟩
  have a1 : ∀ q ∈ [e_Dock_saving, e_Dock_bestSet, e_Guides_init, e_Guides_take, e_Guides_addGuide, e_Guides_addParty, e_Guides_canGuide, e_Guides_solve, e_Guides_worth, e_Guides_choose, e_Guides_payOut, e_Guides_spread, e_Law_init, e_Law_clear, e_Law_addRule, e_Law_emit, e_Law_testOf, e_Law_look, e_Law_busyParts, e_Law_harmPart, e_Law_isShut, e_Law_holds, e_Law_passes, e_Reader_init, e_Reader_hasRoom, e_Reader_append, e_Reader_read, e_Reader_scan, e_Reader_isBlank, e_Reader_isLetter, e_Reader_isDigit, e_Reader_isComparison, e_Reader_tokenEnd, e_Reader_tokenOf, e_Reader_slotOf, e_Reader_isInSlot, e_Reader_numberOf, e_Reader_take, e_Reader_takeNumber, e_Reader_readRule], MOK q := List.forall_mem_cons.mpr ⟨mo_Dock_saving, List.forall_mem_cons.mpr ⟨mo_Dock_bestSet, List.forall_mem_cons.mpr ⟨mo_Guides_init, List.forall_mem_cons.mpr ⟨mo_Guides_take, List.forall_mem_cons.mpr ⟨mo_Guides_addGuide, List.forall_mem_cons.mpr ⟨mo_Guides_addParty, List.forall_mem_cons.mpr ⟨mo_Guides_canGuide, List.forall_mem_cons.mpr ⟨mo_Guides_solve, List.forall_mem_cons.mpr ⟨mo_Guides_worth, List.forall_mem_cons.mpr ⟨mo_Guides_choose, List.forall_mem_cons.mpr ⟨mo_Guides_payOut, List.forall_mem_cons.mpr ⟨mo_Guides_spread, List.forall_mem_cons.mpr ⟨mo_Law_init, List.forall_mem_cons.mpr ⟨mo_Law_clear, List.forall_mem_cons.mpr ⟨mo_Law_addRule, List.forall_mem_cons.mpr ⟨mo_Law_emit, List.forall_mem_cons.mpr ⟨mo_Law_testOf, List.forall_mem_cons.mpr ⟨mo_Law_look, List.forall_mem_cons.mpr ⟨mo_Law_busyParts, List.forall_mem_cons.mpr ⟨mo_Law_harmPart, List.forall_mem_cons.mpr ⟨mo_Law_isShut, List.forall_mem_cons.mpr ⟨mo_Law_holds, List.forall_mem_cons.mpr ⟨mo_Law_passes, List.forall_mem_cons.mpr ⟨mo_Reader_init, List.forall_mem_cons.mpr ⟨mo_Reader_hasRoom, List.forall_mem_cons.mpr ⟨mo_Reader_append, List.forall_mem_cons.mpr ⟨mo_Reader_read, List.forall_mem_cons.mpr ⟨mo_Reader_scan, List.forall_mem_cons.mpr ⟨mo_Reader_isBlank, List.forall_mem_cons.mpr ⟨mo_Reader_isLetter, List.forall_mem_cons.mpr ⟨mo_Reader_isDigit, List.forall_mem_cons.mpr ⟨mo_Reader_isComparison, List.forall_mem_cons.mpr ⟨mo_Reader_tokenEnd, List.forall_mem_cons.mpr ⟨mo_Reader_tokenOf, List.forall_mem_cons.mpr ⟨mo_Reader_slotOf, List.forall_mem_cons.mpr ⟨mo_Reader_isInSlot, List.forall_mem_cons.mpr ⟨mo_Reader_numberOf, List.forall_mem_cons.mpr ⟨mo_Reader_take, List.forall_mem_cons.mpr ⟨mo_Reader_takeNumber, List.forall_mem_cons.mpr ⟨mo_Reader_readRule, fun _ h => absurd h List.not_mem_nil⟩⟩⟩⟩⟩⟩⟩⟩⟩⟩⟩⟩⟩⟩⟩⟩⟩⟩⟩⟩⟩⟩⟩⟩⟩⟩⟩⟩⟩⟩⟩⟩⟩⟩⟩⟩⟩⟩⟩⟩
  have a2 : ∀ q ∈ [e_Reader_readPrice, e_Reader_readBusy, e_Reader_readDeposit, e_Reader_readLate, e_Reader_readRight, e_Reader_readHarm, e_Reader_readShut, e_Reader_readAny, e_Reader_readAll, e_Reader_readOne, e_River_init, e_River_take, e_River_addSpell, e_River_addNest, e_River_addRegatta, e_River_rains, e_River_countWet, e_River_weedOf, e_River_nestedReaches, e_River_racedReaches, e_Roller_init, e_Roller_take, e_Roller_add, e_Roller_solve, e_Roller_place, e_State_init, e_State_take, e_View_init, e_View_see, e_View_learn, e_View_isBack, e_View_minutesOf, e_View_isAway, e_View_outBits, e_View_allBackBy, e_View_knowsAlike, e_View_freeMinutes, e_View_sharesRight, e_View_isAhead, e_View_markOut], MOK q := List.forall_mem_cons.mpr ⟨mo_Reader_readPrice, List.forall_mem_cons.mpr ⟨mo_Reader_readBusy, List.forall_mem_cons.mpr ⟨mo_Reader_readDeposit, List.forall_mem_cons.mpr ⟨mo_Reader_readLate, List.forall_mem_cons.mpr ⟨mo_Reader_readRight, List.forall_mem_cons.mpr ⟨mo_Reader_readHarm, List.forall_mem_cons.mpr ⟨mo_Reader_readShut, List.forall_mem_cons.mpr ⟨mo_Reader_readAny, List.forall_mem_cons.mpr ⟨mo_Reader_readAll, List.forall_mem_cons.mpr ⟨mo_Reader_readOne, List.forall_mem_cons.mpr ⟨mo_River_init, List.forall_mem_cons.mpr ⟨mo_River_take, List.forall_mem_cons.mpr ⟨mo_River_addSpell, List.forall_mem_cons.mpr ⟨mo_River_addNest, List.forall_mem_cons.mpr ⟨mo_River_addRegatta, List.forall_mem_cons.mpr ⟨mo_River_rains, List.forall_mem_cons.mpr ⟨mo_River_countWet, List.forall_mem_cons.mpr ⟨mo_River_weedOf, List.forall_mem_cons.mpr ⟨mo_River_nestedReaches, List.forall_mem_cons.mpr ⟨mo_River_racedReaches, List.forall_mem_cons.mpr ⟨mo_Roller_init, List.forall_mem_cons.mpr ⟨mo_Roller_take, List.forall_mem_cons.mpr ⟨mo_Roller_add, List.forall_mem_cons.mpr ⟨mo_Roller_solve, List.forall_mem_cons.mpr ⟨mo_Roller_place, List.forall_mem_cons.mpr ⟨mo_State_init, List.forall_mem_cons.mpr ⟨mo_State_take, List.forall_mem_cons.mpr ⟨mo_View_init, List.forall_mem_cons.mpr ⟨mo_View_see, List.forall_mem_cons.mpr ⟨mo_View_learn, List.forall_mem_cons.mpr ⟨mo_View_isBack, List.forall_mem_cons.mpr ⟨mo_View_minutesOf, List.forall_mem_cons.mpr ⟨mo_View_isAway, List.forall_mem_cons.mpr ⟨mo_View_outBits, List.forall_mem_cons.mpr ⟨mo_View_allBackBy, List.forall_mem_cons.mpr ⟨mo_View_knowsAlike, List.forall_mem_cons.mpr ⟨mo_View_freeMinutes, List.forall_mem_cons.mpr ⟨mo_View_sharesRight, List.forall_mem_cons.mpr ⟨mo_View_isAhead, List.forall_mem_cons.mpr ⟨mo_View_markOut, fun _ h => absurd h List.not_mem_nil⟩⟩⟩⟩⟩⟩⟩⟩⟩⟩⟩⟩⟩⟩⟩⟩⟩⟩⟩⟩⟩⟩⟩⟩⟩⟩⟩⟩⟩⟩⟩⟩⟩⟩⟩⟩⟩⟩⟩⟩
  have a3 : ∀ q ∈ [e_View_minutesOfBoat, e_View_hiresOfBoat, e_View_waitFor, e_P_init, e_P_feed, e_P_law, e_P_fault, e_P_rule, e_P_water, e_P_rain, e_P_boat, e_P_free, e_P_out, e_P_back, e_P_mend, e_P_swamp, e_P_cushions, e_P_weed, e_P_cut, e_P_hire, e_P_known, e_P_bill, e_P_outs, e_P_takings, e_P_differ, e_P_cost, e_P_worst, e_P_together, e_P_worn, e_P_old, e_P_doubt, e_P_queue, e_P_chance, e_P_keep, e_P_least, e_P_protect, e_P_roll, e_P_rolled, e_P_guide, e_P_party], MOK q := List.forall_mem_cons.mpr ⟨mo_View_minutesOfBoat, List.forall_mem_cons.mpr ⟨mo_View_hiresOfBoat, List.forall_mem_cons.mpr ⟨mo_View_waitFor, List.forall_mem_cons.mpr ⟨mo_P_init, List.forall_mem_cons.mpr ⟨mo_P_feed, List.forall_mem_cons.mpr ⟨mo_P_law, List.forall_mem_cons.mpr ⟨mo_P_fault, List.forall_mem_cons.mpr ⟨mo_P_rule, List.forall_mem_cons.mpr ⟨mo_P_water, List.forall_mem_cons.mpr ⟨mo_P_rain, List.forall_mem_cons.mpr ⟨mo_P_boat, List.forall_mem_cons.mpr ⟨mo_P_free, List.forall_mem_cons.mpr ⟨mo_P_out, List.forall_mem_cons.mpr ⟨mo_P_back, List.forall_mem_cons.mpr ⟨mo_P_mend, List.forall_mem_cons.mpr ⟨mo_P_swamp, List.forall_mem_cons.mpr ⟨mo_P_cushions, List.forall_mem_cons.mpr ⟨mo_P_weed, List.forall_mem_cons.mpr ⟨mo_P_cut, List.forall_mem_cons.mpr ⟨mo_P_hire, List.forall_mem_cons.mpr ⟨mo_P_known, List.forall_mem_cons.mpr ⟨mo_P_bill, List.forall_mem_cons.mpr ⟨mo_P_outs, List.forall_mem_cons.mpr ⟨mo_P_takings, List.forall_mem_cons.mpr ⟨mo_P_differ, List.forall_mem_cons.mpr ⟨mo_P_cost, List.forall_mem_cons.mpr ⟨mo_P_worst, List.forall_mem_cons.mpr ⟨mo_P_together, List.forall_mem_cons.mpr ⟨mo_P_worn, List.forall_mem_cons.mpr ⟨mo_P_old, List.forall_mem_cons.mpr ⟨mo_P_doubt, List.forall_mem_cons.mpr ⟨mo_P_queue, List.forall_mem_cons.mpr ⟨mo_P_chance, List.forall_mem_cons.mpr ⟨mo_P_keep, List.forall_mem_cons.mpr ⟨mo_P_least, List.forall_mem_cons.mpr ⟨mo_P_protect, List.forall_mem_cons.mpr ⟨mo_P_roll, List.forall_mem_cons.mpr ⟨mo_P_rolled, List.forall_mem_cons.mpr ⟨mo_P_guide, List.forall_mem_cons.mpr ⟨mo_P_party, fun _ h => absurd h List.not_mem_nil⟩⟩⟩⟩⟩⟩⟩⟩⟩⟩⟩⟩⟩⟩⟩⟩⟩⟩⟩⟩⟩⟩⟩⟩⟩⟩⟩⟩⟩⟩⟩⟩⟩⟩⟩⟩⟩⟩⟩⟩
  have a4 : ∀ q ∈ [e_P_guided, e_P_pay, e_P_earned, e_P_pass, e_P_pole, e_P_paint, e_P_painted, e_P_fail, e_P_renew, e_P_loyal, e_P_tout, e_P_nest, e_P_regatta, e_P_barred, e_P_image, e_P_restore, e_P_count, e_P_within, e_P_isSpan, e_P_isDay, e_P_isMoment, e_P_isKind, e_P_isWho, e_P_isCoin, e_P_isBoat, e_P_isHire, e_P_isTelling, e_P_lawNumber, e_P_lawOf, e_P_canGo, e_P_canEnd, e_P_ask, e_P_seesHire, e_P_isBackOn, e_P_drawBill, e_P_boatsAheadOf, e_P_insertWait, e_M_init, e_M_isIn, e_M_one], MOK q := List.forall_mem_cons.mpr ⟨mo_P_guided, List.forall_mem_cons.mpr ⟨mo_P_pay, List.forall_mem_cons.mpr ⟨mo_P_earned, List.forall_mem_cons.mpr ⟨mo_P_pass, List.forall_mem_cons.mpr ⟨mo_P_pole, List.forall_mem_cons.mpr ⟨mo_P_paint, List.forall_mem_cons.mpr ⟨mo_P_painted, List.forall_mem_cons.mpr ⟨mo_P_fail, List.forall_mem_cons.mpr ⟨mo_P_renew, List.forall_mem_cons.mpr ⟨mo_P_loyal, List.forall_mem_cons.mpr ⟨mo_P_tout, List.forall_mem_cons.mpr ⟨mo_P_nest, List.forall_mem_cons.mpr ⟨mo_P_regatta, List.forall_mem_cons.mpr ⟨mo_P_barred, List.forall_mem_cons.mpr ⟨mo_P_image, List.forall_mem_cons.mpr ⟨mo_P_restore, List.forall_mem_cons.mpr ⟨mo_P_count, List.forall_mem_cons.mpr ⟨mo_P_within, List.forall_mem_cons.mpr ⟨mo_P_isSpan, List.forall_mem_cons.mpr ⟨mo_P_isDay, List.forall_mem_cons.mpr ⟨mo_P_isMoment, List.forall_mem_cons.mpr ⟨mo_P_isKind, List.forall_mem_cons.mpr ⟨mo_P_isWho, List.forall_mem_cons.mpr ⟨mo_P_isCoin, List.forall_mem_cons.mpr ⟨mo_P_isBoat, List.forall_mem_cons.mpr ⟨mo_P_isHire, List.forall_mem_cons.mpr ⟨mo_P_isTelling, List.forall_mem_cons.mpr ⟨mo_P_lawNumber, List.forall_mem_cons.mpr ⟨mo_P_lawOf, List.forall_mem_cons.mpr ⟨mo_P_canGo, List.forall_mem_cons.mpr ⟨mo_P_canEnd, List.forall_mem_cons.mpr ⟨mo_P_ask, List.forall_mem_cons.mpr ⟨mo_P_seesHire, List.forall_mem_cons.mpr ⟨mo_P_isBackOn, List.forall_mem_cons.mpr ⟨mo_P_drawBill, List.forall_mem_cons.mpr ⟨mo_P_boatsAheadOf, List.forall_mem_cons.mpr ⟨mo_P_insertWait, List.forall_mem_cons.mpr ⟨mo_M_init, List.forall_mem_cons.mpr ⟨mo_M_isIn, List.forall_mem_cons.mpr ⟨mo_M_one, fun _ h => absurd h List.not_mem_nil⟩⟩⟩⟩⟩⟩⟩⟩⟩⟩⟩⟩⟩⟩⟩⟩⟩⟩⟩⟩⟩⟩⟩⟩⟩⟩⟩⟩⟩⟩⟩⟩⟩⟩⟩⟩⟩⟩⟩⟩
  have a5 : ∀ q ∈ [e_M_has, e_M_bits, e_M_isDay, e_M_isMoment, e_M_isKind, e_M_begun, e_M_feed, e_M_four, e_M_blanks, e_M_word, e_M_takes, e_M_takesSign, e_M_takesNumber, e_M_askedBy, e_M_puts, e_M_opens, e_M_any, e_M_all, e_M_single, e_M_says, e_M_eachTold, e_M_priceTold, e_M_depositTold, e_M_lateTold, e_M_rightTold, e_M_oneTold, e_M_clauseTold, e_M_rule_0, e_M_bare, e_M_reads, e_M_law, e_M_fault, e_M_lawOf, e_M_said, e_M_rule_1, e_M_water, e_M_rain, e_M_rains, e_M_weed, e_M_cut], MOK q := List.forall_mem_cons.mpr ⟨mo_M_has, List.forall_mem_cons.mpr ⟨mo_M_bits, List.forall_mem_cons.mpr ⟨mo_M_isDay, List.forall_mem_cons.mpr ⟨mo_M_isMoment, List.forall_mem_cons.mpr ⟨mo_M_isKind, List.forall_mem_cons.mpr ⟨mo_M_begun, List.forall_mem_cons.mpr ⟨mo_M_feed, List.forall_mem_cons.mpr ⟨mo_M_four, List.forall_mem_cons.mpr ⟨mo_M_blanks, List.forall_mem_cons.mpr ⟨mo_M_word, List.forall_mem_cons.mpr ⟨mo_M_takes, List.forall_mem_cons.mpr ⟨mo_M_takesSign, List.forall_mem_cons.mpr ⟨mo_M_takesNumber, List.forall_mem_cons.mpr ⟨mo_M_askedBy, List.forall_mem_cons.mpr ⟨mo_M_puts, List.forall_mem_cons.mpr ⟨mo_M_opens, List.forall_mem_cons.mpr ⟨mo_M_any, List.forall_mem_cons.mpr ⟨mo_M_all, List.forall_mem_cons.mpr ⟨mo_M_single, List.forall_mem_cons.mpr ⟨mo_M_says, List.forall_mem_cons.mpr ⟨mo_M_eachTold, List.forall_mem_cons.mpr ⟨mo_M_priceTold, List.forall_mem_cons.mpr ⟨mo_M_depositTold, List.forall_mem_cons.mpr ⟨mo_M_lateTold, List.forall_mem_cons.mpr ⟨mo_M_rightTold, List.forall_mem_cons.mpr ⟨mo_M_oneTold, List.forall_mem_cons.mpr ⟨mo_M_clauseTold, List.forall_mem_cons.mpr ⟨mo_M_rule_0, List.forall_mem_cons.mpr ⟨mo_M_bare, List.forall_mem_cons.mpr ⟨mo_M_reads, List.forall_mem_cons.mpr ⟨mo_M_law, List.forall_mem_cons.mpr ⟨mo_M_fault, List.forall_mem_cons.mpr ⟨mo_M_lawOf, List.forall_mem_cons.mpr ⟨mo_M_said, List.forall_mem_cons.mpr ⟨mo_M_rule_1, List.forall_mem_cons.mpr ⟨mo_M_water, List.forall_mem_cons.mpr ⟨mo_M_rain, List.forall_mem_cons.mpr ⟨mo_M_rains, List.forall_mem_cons.mpr ⟨mo_M_weed, List.forall_mem_cons.mpr ⟨mo_M_cut, fun _ h => absurd h List.not_mem_nil⟩⟩⟩⟩⟩⟩⟩⟩⟩⟩⟩⟩⟩⟩⟩⟩⟩⟩⟩⟩⟩⟩⟩⟩⟩⟩⟩⟩⟩⟩⟩⟩⟩⟩⟩⟩⟩⟩⟩⟩
  have a6 : ∀ q ∈ [e_M_weedOn, e_M_boat, e_M_isBoat, e_M_isHire, e_M_isTelling, e_M_knows, e_M_isKnown, e_M_isBack, e_M_isOut, e_M_outSet, e_M_asks, e_M_isTrue, e_M_isShut, e_M_mayGo, e_M_free, e_M_tells, e_M_out, e_M_mayBe, e_M_back, e_M_mend, e_M_swamp, e_M_cushions, e_M_hire, e_M_known, e_M_lawBy, e_M_kindBy, e_M_minutes, e_M_freeOf, e_M_priceOf, e_M_lateOf, e_M_wetOf, e_M_harmOf, e_M_cushionsOf, e_M_owedOf, e_M_bill, e_M_outs, e_M_isOn, e_M_takings, e_M_keeps, e_M_differ], MOK q := List.forall_mem_cons.mpr ⟨mo_M_weedOn, List.forall_mem_cons.mpr ⟨mo_M_boat, List.forall_mem_cons.mpr ⟨mo_M_isBoat, List.forall_mem_cons.mpr ⟨mo_M_isHire, List.forall_mem_cons.mpr ⟨mo_M_isTelling, List.forall_mem_cons.mpr ⟨mo_M_knows, List.forall_mem_cons.mpr ⟨mo_M_isKnown, List.forall_mem_cons.mpr ⟨mo_M_isBack, List.forall_mem_cons.mpr ⟨mo_M_isOut, List.forall_mem_cons.mpr ⟨mo_M_outSet, List.forall_mem_cons.mpr ⟨mo_M_asks, List.forall_mem_cons.mpr ⟨mo_M_isTrue, List.forall_mem_cons.mpr ⟨mo_M_isShut, List.forall_mem_cons.mpr ⟨mo_M_mayGo, List.forall_mem_cons.mpr ⟨mo_M_free, List.forall_mem_cons.mpr ⟨mo_M_tells, List.forall_mem_cons.mpr ⟨mo_M_out, List.forall_mem_cons.mpr ⟨mo_M_mayBe, List.forall_mem_cons.mpr ⟨mo_M_back, List.forall_mem_cons.mpr ⟨mo_M_mend, List.forall_mem_cons.mpr ⟨mo_M_swamp, List.forall_mem_cons.mpr ⟨mo_M_cushions, List.forall_mem_cons.mpr ⟨mo_M_hire, List.forall_mem_cons.mpr ⟨mo_M_known, List.forall_mem_cons.mpr ⟨mo_M_lawBy, List.forall_mem_cons.mpr ⟨mo_M_kindBy, List.forall_mem_cons.mpr ⟨mo_M_minutes, List.forall_mem_cons.mpr ⟨mo_M_freeOf, List.forall_mem_cons.mpr ⟨mo_M_priceOf, List.forall_mem_cons.mpr ⟨mo_M_lateOf, List.forall_mem_cons.mpr ⟨mo_M_wetOf, List.forall_mem_cons.mpr ⟨mo_M_harmOf, List.forall_mem_cons.mpr ⟨mo_M_cushionsOf, List.forall_mem_cons.mpr ⟨mo_M_owedOf, List.forall_mem_cons.mpr ⟨mo_M_bill, List.forall_mem_cons.mpr ⟨mo_M_outs, List.forall_mem_cons.mpr ⟨mo_M_isOn, List.forall_mem_cons.mpr ⟨mo_M_takings, List.forall_mem_cons.mpr ⟨mo_M_keeps, List.forall_mem_cons.mpr ⟨mo_M_differ, fun _ h => absurd h List.not_mem_nil⟩⟩⟩⟩⟩⟩⟩⟩⟩⟩⟩⟩⟩⟩⟩⟩⟩⟩⟩⟩⟩⟩⟩⟩⟩⟩⟩⟩⟩⟩⟩⟩⟩⟩⟩⟩⟩⟩⟩⟩
  have a7 : ∀ q ∈ [e_M_cost, e_M_worst, e_M_hasOut, e_M_together, e_M_wornNow, e_M_worn, e_M_old, e_M_doubt, e_M_comes, e_M_queue, e_M_chance, e_M_areWhole, e_M_served, e_M_wantedNow, e_M_divisor, e_M_keep, e_M_least, e_M_mean, e_M_protect, e_M_roll, e_M_orders, e_M_waits, e_M_rolled, e_M_guide, e_M_party, e_M_maySing, e_M_leftBy, e_M_lookLeft, e_M_guides, e_M_guided, e_M_pay, e_M_earned, e_M_pass, e_M_pole, e_M_dries, e_M_paint, e_M_sorts, e_M_lost, e_M_byBoats, e_M_painted], MOK q := List.forall_mem_cons.mpr ⟨mo_M_cost, List.forall_mem_cons.mpr ⟨mo_M_worst, List.forall_mem_cons.mpr ⟨mo_M_hasOut, List.forall_mem_cons.mpr ⟨mo_M_together, List.forall_mem_cons.mpr ⟨mo_M_wornNow, List.forall_mem_cons.mpr ⟨mo_M_worn, List.forall_mem_cons.mpr ⟨mo_M_old, List.forall_mem_cons.mpr ⟨mo_M_doubt, List.forall_mem_cons.mpr ⟨mo_M_comes, List.forall_mem_cons.mpr ⟨mo_M_queue, List.forall_mem_cons.mpr ⟨mo_M_chance, List.forall_mem_cons.mpr ⟨mo_M_areWhole, List.forall_mem_cons.mpr ⟨mo_M_served, List.forall_mem_cons.mpr ⟨mo_M_wantedNow, List.forall_mem_cons.mpr ⟨mo_M_divisor, List.forall_mem_cons.mpr ⟨mo_M_keep, List.forall_mem_cons.mpr ⟨mo_M_least, List.forall_mem_cons.mpr ⟨mo_M_mean, List.forall_mem_cons.mpr ⟨mo_M_protect, List.forall_mem_cons.mpr ⟨mo_M_roll, List.forall_mem_cons.mpr ⟨mo_M_orders, List.forall_mem_cons.mpr ⟨mo_M_waits, List.forall_mem_cons.mpr ⟨mo_M_rolled, List.forall_mem_cons.mpr ⟨mo_M_guide, List.forall_mem_cons.mpr ⟨mo_M_party, List.forall_mem_cons.mpr ⟨mo_M_maySing, List.forall_mem_cons.mpr ⟨mo_M_leftBy, List.forall_mem_cons.mpr ⟨mo_M_lookLeft, List.forall_mem_cons.mpr ⟨mo_M_guides, List.forall_mem_cons.mpr ⟨mo_M_guided, List.forall_mem_cons.mpr ⟨mo_M_pay, List.forall_mem_cons.mpr ⟨mo_M_earned, List.forall_mem_cons.mpr ⟨mo_M_pass, List.forall_mem_cons.mpr ⟨mo_M_pole, List.forall_mem_cons.mpr ⟨mo_M_dries, List.forall_mem_cons.mpr ⟨mo_M_paint, List.forall_mem_cons.mpr ⟨mo_M_sorts, List.forall_mem_cons.mpr ⟨mo_M_lost, List.forall_mem_cons.mpr ⟨mo_M_byBoats, List.forall_mem_cons.mpr ⟨mo_M_painted, fun _ h => absurd h List.not_mem_nil⟩⟩⟩⟩⟩⟩⟩⟩⟩⟩⟩⟩⟩⟩⟩⟩⟩⟩⟩⟩⟩⟩⟩⟩⟩⟩⟩⟩⟩⟩⟩⟩⟩⟩⟩⟩⟩⟩⟩⟩
  have a8 : ∀ q ∈ [e_M_fail, e_M_renew, e_M_loyal, e_M_stays, e_M_tout, e_M_nest, e_M_regatta, e_M_barred, e_M_lays, e_M_fetches, e_M_image, e_M_restore, e_M_count, e_Integer_compare, e_Integer_bitCount, e_Math_abs, e_Math_max, e_Math_min, e_Arrays_fill_0, e_Arrays_fill_1], MOK q := List.forall_mem_cons.mpr ⟨mo_M_fail, List.forall_mem_cons.mpr ⟨mo_M_renew, List.forall_mem_cons.mpr ⟨mo_M_loyal, List.forall_mem_cons.mpr ⟨mo_M_stays, List.forall_mem_cons.mpr ⟨mo_M_tout, List.forall_mem_cons.mpr ⟨mo_M_nest, List.forall_mem_cons.mpr ⟨mo_M_regatta, List.forall_mem_cons.mpr ⟨mo_M_barred, List.forall_mem_cons.mpr ⟨mo_M_lays, List.forall_mem_cons.mpr ⟨mo_M_fetches, List.forall_mem_cons.mpr ⟨mo_M_image, List.forall_mem_cons.mpr ⟨mo_M_restore, List.forall_mem_cons.mpr ⟨mo_M_count, List.forall_mem_cons.mpr ⟨mo_Integer_compare, List.forall_mem_cons.mpr ⟨mo_Integer_bitCount, List.forall_mem_cons.mpr ⟨mo_Math_abs, List.forall_mem_cons.mpr ⟨mo_Math_max, List.forall_mem_cons.mpr ⟨mo_Math_min, List.forall_mem_cons.mpr ⟨mo_Arrays_fill_0, List.forall_mem_cons.mpr ⟨mo_Arrays_fill_1, fun _ h => absurd h List.not_mem_nil⟩⟩⟩⟩⟩⟩⟩⟩⟩⟩⟩⟩⟩⟩⟩⟩⟩⟩⟩⟩
  rcases List.mem_append.mp hq with hq | hq
  · exact a0 q hq
  rcases List.mem_append.mp hq with hq | hq
  · exact a1 q hq
  rcases List.mem_append.mp hq with hq | hq
  · exact a2 q hq
  rcases List.mem_append.mp hq with hq | hq
  · exact a3 q hq
  rcases List.mem_append.mp hq with hq | hq
  · exact a4 q hq
  rcases List.mem_append.mp hq with hq | hq
  · exact a5 q hq
  rcases List.mem_append.mp hq with hq | hq
  · exact a6 q hq
  rcases List.mem_append.mp hq with hq | hq
  · exact a7 q hq
  exact a8 q hq
theorem mt_ok : MtOk mtb := by
  refine ⟨⟨by unfold mtb; rw [List.getElem?_eq_none]; rw [mTL_len]; decide, fun q hq => ?_, fun q hq => ?_, fun q hq => ?_, fun j q hj hq => ?_⟩, fun j q hq => mok_all q (List.mem_of_getElem? hq)⟩
  · rw [m_Math_abs] at hq; cases hq; rfl
  · rw [m_Math_max] at hq; cases hq; rfl
  · rw [m_Math_min] at hq; cases hq; rfl
  · unfold mathB at hj
    rw [Bool.or_eq_true, Bool.or_eq_true] at hj
    rcases hj with e | e | e
    · have e := Nat.eq_of_beq_eq_true e; subst e; rw [m_Math_abs] at hq; cases hq; rfl
    · have e := Nat.eq_of_beq_eq_true e; subst e; rw [m_Math_max] at hq; cases hq; rfl
    · have e := Nat.eq_of_beq_eq_true e; subst e; rw [m_Math_min] at hq; cases hq; rfl

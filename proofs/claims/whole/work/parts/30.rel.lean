/-! THE RELATION between class and reference, by parts (printed by wip/whole/emitrel.py) -/
/-- WATER -/
def PWater (a b : Nat → Int32) : Prop := a = b
def RWater (h : MH) : Prop := PWater (hI h 800000100 0) (hI h 1330000100 0)
abbrev SWater : List (Nat × Nat) := [(800000100, 0), (1330000100, 0)]
theorem RWater.fr {W : List (Nat × Nat)} {h h2 : MH} (u : Upd W h h2) (hd : ∀ q ∈ SWater, q ∉ W) (r : RWater h) : RWater h2 := by
  unfold RWater at r ⊢
  rw [u.2 800000100 0 (hd (800000100, 0) (by decide)), u.2 1330000100 0 (hd (1330000100, 0) (by decide))]
  exact r
/-- SPELLS -/
def PSpell (cn cd cf ct mn md mf mt : Nat → Int32) : Prop := cd = md ∧ cf = mf ∧ ct = mt ∧ ∃ n, n ≤ 40 ∧ cn 0 = nI n ∧ mn 0 = nI n ∧ ∀ k, k < n → ∃ dy a b, dy < 100 ∧ a ≤ b ∧ b < 720 ∧ cd k = nI dy ∧ cf k = nI a ∧ ct k = nI b
def RSpell (h : MH) : Prop := PSpell (hI h 801 0) (hI h 802000040 0) (hI h 803000040 0) (hI h 804000040 0) (hI h 1326 0) (hI h 1332000040 0) (hI h 1333000040 0) (hI h 1334000040 0)
abbrev SSpell : List (Nat × Nat) := [(801, 0), (802000040, 0), (803000040, 0), (804000040, 0), (1326, 0), (1332000040, 0), (1333000040, 0), (1334000040, 0)]
theorem RSpell.fr {W : List (Nat × Nat)} {h h2 : MH} (u : Upd W h h2) (hd : ∀ q ∈ SSpell, q ∉ W) (r : RSpell h) : RSpell h2 := by
  unfold RSpell at r ⊢
  rw [u.2 801 0 (hd (801, 0) (by decide)), u.2 802000040 0 (hd (802000040, 0) (by decide)), u.2 803000040 0 (hd (803000040, 0) (by decide)), u.2 804000040 0 (hd (804000040, 0) (by decide)), u.2 1326 0 (hd (1326, 0) (by decide)), u.2 1332000040 0 (hd (1332000040, 0) (by decide)), u.2 1333000040 0 (hd (1333000040, 0) (by decide)), u.2 1334000040 0 (hd (1334000040, 0) (by decide))]
  exact r
/-- WEED -/
def PWeed (cr cc mr mc : Nat → Int32) : Prop := cc = mc ∧ (∃ r, r ≤ 99 ∧ cr 0 = nI r ∧ mr 0 = nI r) ∧ ∀ k, cc k = 0 ∨ cc k = 1
def RWeed (h : MH) : Prop := PWeed (hI h 805 0) (hI h 806000100 0) (hI h 1327 0) (hI h 1331000100 0)
abbrev SWeed : List (Nat × Nat) := [(805, 0), (806000100, 0), (1327, 0), (1331000100, 0)]
theorem RWeed.fr {W : List (Nat × Nat)} {h h2 : MH} (u : Upd W h h2) (hd : ∀ q ∈ SWeed, q ∉ W) (r : RWeed h) : RWeed h2 := by
  unfold RWeed at r ⊢
  rw [u.2 805 0 (hd (805, 0) (by decide)), u.2 806000100 0 (hd (806000100, 0) (by decide)), u.2 1327 0 (hd (1327, 0) (by decide)), u.2 1331000100 0 (hd (1331000100, 0) (by decide))]
  exact r
/-- SWANS -/
def PNest (cn cr cf ct mn mr mf mt : Nat → Int32) : Prop := cr = mr ∧ cf = mf ∧ ct = mt ∧ ∃ n, n ≤ 20 ∧ cn 0 = nI n ∧ mn 0 = nI n
def RNest (h : MH) : Prop := PNest (hI h 807 0) (hI h 808000020 0) (hI h 809000020 0) (hI h 810000020 0) (hI h 1383 0) (hI h 1385000020 0) (hI h 1386000020 0) (hI h 1387000020 0)
abbrev SNest : List (Nat × Nat) := [(807, 0), (808000020, 0), (809000020, 0), (810000020, 0), (1383, 0), (1385000020, 0), (1386000020, 0), (1387000020, 0)]
theorem RNest.fr {W : List (Nat × Nat)} {h h2 : MH} (u : Upd W h h2) (hd : ∀ q ∈ SNest, q ∉ W) (r : RNest h) : RNest h2 := by
  unfold RNest at r ⊢
  rw [u.2 807 0 (hd (807, 0) (by decide)), u.2 808000020 0 (hd (808000020, 0) (by decide)), u.2 809000020 0 (hd (809000020, 0) (by decide)), u.2 810000020 0 (hd (810000020, 0) (by decide)), u.2 1383 0 (hd (1383, 0) (by decide)), u.2 1385000020 0 (hd (1385000020, 0) (by decide)), u.2 1386000020 0 (hd (1386000020, 0) (by decide)), u.2 1387000020 0 (hd (1387000020, 0) (by decide))]
  exact r
/-- REGATTAS -/
def PRace (cn cd cf ct cs mn md mf mt ms : Nat → Int32) : Prop := cd = md ∧ cf = mf ∧ ct = mt ∧ cs = ms ∧ ∃ n, n ≤ 10 ∧ cn 0 = nI n ∧ mn 0 = nI n ∧ ∀ k, k < n → ∃ a b, a ≤ b ∧ b < 720 ∧ cf k = nI a ∧ ct k = nI b
def RRace (h : MH) : Prop := PRace (hI h 811 0) (hI h 812000010 0) (hI h 813000010 0) (hI h 814000010 0) (hI h 815000010 0) (hI h 1384 0) (hI h 1388000010 0) (hI h 1389000010 0) (hI h 1390000010 0) (hI h 1391000010 0)
abbrev SRace : List (Nat × Nat) := [(811, 0), (812000010, 0), (813000010, 0), (814000010, 0), (815000010, 0), (1384, 0), (1388000010, 0), (1389000010, 0), (1390000010, 0), (1391000010, 0)]
theorem RRace.fr {W : List (Nat × Nat)} {h h2 : MH} (u : Upd W h h2) (hd : ∀ q ∈ SRace, q ∉ W) (r : RRace h) : RRace h2 := by
  unfold RRace at r ⊢
  rw [u.2 811 0 (hd (811, 0) (by decide)), u.2 812000010 0 (hd (812000010, 0) (by decide)), u.2 813000010 0 (hd (813000010, 0) (by decide)), u.2 814000010 0 (hd (814000010, 0) (by decide)), u.2 815000010 0 (hd (815000010, 0) (by decide)), u.2 1384 0 (hd (1384, 0) (by decide)), u.2 1388000010 0 (hd (1388000010, 0) (by decide)), u.2 1389000010 0 (hd (1389000010, 0) (by decide)), u.2 1390000010 0 (hd (1390000010, 0) (by decide)), u.2 1391000010 0 (hd (1391000010, 0) (by decide))]
  exact r
/-- EARLY and LATE -/
def PDoubt (ce cl me ml : Nat → Int32) : Prop := ∃ a b, a ≤ 240 ∧ b ≤ 240 ∧ ce 0 = nI a ∧ me 0 = nI a ∧ cl 0 = nI b ∧ ml 0 = nI b
def RDoubt (h : MH) : Prop := PDoubt (hI h 214 0) (hI h 215 0) (hI h 1328 0) (hI h 1329 0)
abbrev SDoubt : List (Nat × Nat) := [(214, 0), (215, 0), (1328, 0), (1329, 0)]
theorem RDoubt.fr {W : List (Nat × Nat)} {h h2 : MH} (u : Upd W h h2) (hd : ∀ q ∈ SDoubt, q ∉ W) (r : RDoubt h) : RDoubt h2 := by
  unfold RDoubt at r ⊢
  rw [u.2 214 0 (hd (214, 0) (by decide)), u.2 215 0 (hd (215, 0) (by decide)), u.2 1328 0 (hd (1328, 0) (by decide)), u.2 1329 0 (hd (1329, 0) (by decide))]
  exact r
/-- CHANCES -/
def PChance (a b : Nat → Int32) : Prop := a = b ∧ ∀ k, ∃ n, n ≤ 10 ∧ a k = nI n
def RChance (h : MH) : Prop := PChance (hI h 300000072 0) (hI h 1357000072 0)
abbrev SChance : List (Nat × Nat) := [(300000072, 0), (1357000072, 0)]
theorem RChance.fr {W : List (Nat × Nat)} {h h2 : MH} (u : Upd W h h2) (hd : ∀ q ∈ SChance, q ∉ W) (r : RChance h) : RChance h2 := by
  unfold RChance at r ⊢
  rw [u.2 300000072 0 (hd (300000072, 0) (by decide)), u.2 1357000072 0 (hd (1357000072, 0) (by decide))]
  exact r
/-- LOYAL parties -/
def PLoyal (cn cp mn ml : Nat → Int32) : Prop := cp = ml ∧ ∃ n, n ≤ 12 ∧ cn 0 = nI n ∧ mn 0 = nI n ∧ ∀ k, ∃ v, v ≤ 999 ∧ cp k = nI v
def RLoyal (h : MH) : Prop := PLoyal (hI h 301 0) (hI h 302000012 0) (hI h 1381 0) (hI h 1382000012 0)
abbrev SLoyal : List (Nat × Nat) := [(301, 0), (302000012, 0), (1381, 0), (1382000012, 0)]
theorem RLoyal.fr {W : List (Nat × Nat)} {h h2 : MH} (u : Upd W h h2) (hd : ∀ q ∈ SLoyal, q ∉ W) (r : RLoyal h) : RLoyal h2 := by
  unfold RLoyal at r ⊢
  rw [u.2 301 0 (hd (301, 0) (by decide)), u.2 302000012 0 (hd (302000012, 0) (by decide)), u.2 1381 0 (hd (1381, 0) (by decide)), u.2 1382000012 0 (hd (1382000012, 0) (by decide))]
  exact r
/-- ROLLER -/
def PRoll (cn cc ct mn mc mt : Nat → Int32) : Prop := cc = mc ∧ ct = mt ∧ ∃ n, n ≤ 7 ∧ cn 0 = nI n ∧ mn 0 = nI n ∧ ∀ k, (∃ v, v ≤ 719 ∧ cc k = nI v) ∧ ∃ v, v ≤ 99 ∧ ct k = nI v
def RRoll (h : MH) : Prop := PRoll (hI h 900 0) (hI h 901000007 0) (hI h 902000007 0) (hI h 1360 0) (hI h 1362000007 0) (hI h 1363000007 0)
abbrev SRoll : List (Nat × Nat) := [(900, 0), (901000007, 0), (902000007, 0), (1360, 0), (1362000007, 0), (1363000007, 0)]
theorem RRoll.fr {W : List (Nat × Nat)} {h h2 : MH} (u : Upd W h h2) (hd : ∀ q ∈ SRoll, q ∉ W) (r : RRoll h) : RRoll h2 := by
  unfold RRoll at r ⊢
  rw [u.2 900 0 (hd (900, 0) (by decide)), u.2 901000007 0 (hd (901000007, 0) (by decide)), u.2 902000007 0 (hd (902000007, 0) (by decide)), u.2 1360 0 (hd (1360, 0) (by decide)), u.2 1362000007 0 (hd (1362000007, 0) (by decide)), u.2 1363000007 0 (hd (1363000007, 0) (by decide))]
  exact r
/-- GUIDES -/
def PGuide (cn ck cp mn mk mp : Nat → Int32) : Prop := ck = mk ∧ cp = mp ∧ ∃ n, n ≤ 8 ∧ cn 0 = nI n ∧ mn 0 = nI n
def RGuide (h : MH) : Prop := PGuide (hI h 500 0) (hI h 501000008 0) (hI h 502000008 0) (hI h 1366 0) (hI h 1368000008 0) (hI h 1369000008 0)
abbrev SGuide : List (Nat × Nat) := [(500, 0), (501000008, 0), (502000008, 0), (1366, 0), (1368000008, 0), (1369000008, 0)]
theorem RGuide.fr {W : List (Nat × Nat)} {h h2 : MH} (u : Upd W h h2) (hd : ∀ q ∈ SGuide, q ∉ W) (r : RGuide h) : RGuide h2 := by
  unfold RGuide at r ⊢
  rw [u.2 500 0 (hd (500, 0) (by decide)), u.2 501000008 0 (hd (501000008, 0) (by decide)), u.2 502000008 0 (hd (502000008, 0) (by decide)), u.2 1366 0 (hd (1366, 0) (by decide)), u.2 1368000008 0 (hd (1368000008, 0) (by decide)), u.2 1369000008 0 (hd (1369000008, 0) (by decide))]
  exact r
/-- PARTIES -/
def PParty (cn cw cp mn mw mp : Nat → Int32) : Prop := cw = mw ∧ cp = mp ∧ ∃ n, n ≤ 8 ∧ cn 0 = nI n ∧ mn 0 = nI n ∧ ∀ k, ∃ v, v ≤ 999 ∧ cp k = nI v
def RParty (h : MH) : Prop := PParty (hI h 503 0) (hI h 504000008 0) (hI h 505000008 0) (hI h 1367 0) (hI h 1370000008 0) (hI h 1371000008 0)
abbrev SParty : List (Nat × Nat) := [(503, 0), (504000008, 0), (505000008, 0), (1367, 0), (1370000008, 0), (1371000008, 0)]
theorem RParty.fr {W : List (Nat × Nat)} {h h2 : MH} (u : Upd W h h2) (hd : ∀ q ∈ SParty, q ∉ W) (r : RParty h) : RParty h2 := by
  unfold RParty at r ⊢
  rw [u.2 503 0 (hd (503, 0) (by decide)), u.2 504000008 0 (hd (504000008, 0) (by decide)), u.2 505000008 0 (hd (505000008, 0) (by decide)), u.2 1367 0 (hd (1367, 0) (by decide)), u.2 1370000008 0 (hd (1370000008, 0) (by decide)), u.2 1371000008 0 (hd (1371000008, 0) (by decide))]
  exact r
/-- BOATS -/
def PBoat (cn ck mn mk : Nat → Int32) : Prop := ck = mk ∧ ∃ n, n ≤ 20 ∧ cn 0 = nI n ∧ mn 0 = nI n ∧ ∀ k, ∃ v, v < 4 ∧ ck k = nI v
def RBoat (h : MH) : Prop := PBoat (hI h 200 0) (hI h 201000020 0) (hI h 1335 0) (hI h 1338000020 0)
abbrev SBoat : List (Nat × Nat) := [(200, 0), (201000020, 0), (1335, 0), (1338000020, 0)]
theorem RBoat.fr {W : List (Nat × Nat)} {h h2 : MH} (u : Upd W h h2) (hd : ∀ q ∈ SBoat, q ∉ W) (r : RBoat h) : RBoat h2 := by
  unfold RBoat at r ⊢
  rw [u.2 200 0 (hd (200, 0) (by decide)), u.2 201000020 0 (hd (201000020, 0) (by decide)), u.2 1335 0 (hd (1335, 0) (by decide)), u.2 1338000020 0 (hd (1338000020, 0) (by decide))]
  exact r
/-- PAINT -/
def PDry (bn cw cc mw mc : Nat → Int32) : Prop := cw = mw ∧ cc = mc ∧ (∃ n, n ≤ 20 ∧ bn 0 = nI n ∧ ∀ k, n ≤ k → cw k = 0) ∧ ∀ k, (∃ v, v ≤ 9 ∧ cw k = nI v) ∧ ∃ v, v ≤ 99 ∧ cc k = nI v
def RDry (h : MH) : Prop := PDry (hI h 200 0) (hI h 400000020 0) (hI h 401000020 0) (hI h 1374000020 0) (hI h 1375000020 0)
abbrev SDry : List (Nat × Nat) := [(200, 0), (400000020, 0), (401000020, 0), (1374000020, 0), (1375000020, 0)]
theorem RDry.fr {W : List (Nat × Nat)} {h h2 : MH} (u : Upd W h h2) (hd : ∀ q ∈ SDry, q ∉ W) (r : RDry h) : RDry h2 := by
  unfold RDry at r ⊢
  rw [u.2 200 0 (hd (200, 0) (by decide)), u.2 400000020 0 (hd (400000020, 0) (by decide)), u.2 401000020 0 (hd (401000020, 0) (by decide)), u.2 1374000020 0 (hd (1374000020, 0) (by decide)), u.2 1375000020 0 (hd (1375000020, 0) (by decide))]
  exact r
/-- chances to fail -/
def PFail (cp cc mp mc : Nat → Int32) : Prop := cp = mp ∧ cc = mc ∧ ∀ k, (∃ v, v ≤ 100 ∧ cp k = nI v) ∧ ∃ v, v ≤ 999 ∧ cc k = nI v
def RFail (h : MH) : Prop := PFail (hI h 402000020 0) (hI h 403000020 0) (hI h 1376000020 0) (hI h 1377000020 0)
abbrev SFail : List (Nat × Nat) := [(402000020, 0), (403000020, 0), (1376000020, 0), (1377000020, 0)]
theorem RFail.fr {W : List (Nat × Nat)} {h h2 : MH} (u : Upd W h h2) (hd : ∀ q ∈ SFail, q ∉ W) (r : RFail h) : RFail h2 := by
  unfold RFail at r ⊢
  rw [u.2 402000020 0 (hd (402000020, 0) (by decide)), u.2 403000020 0 (hd (403000020, 0) (by decide)), u.2 1376000020 0 (hd (1376000020, 0) (by decide)), u.2 1377000020 0 (hd (1377000020, 0) (by decide))]
  exact r
/-- HIRES and TELLINGS -/
def PHire (bn ch cb cw co cq cy cl dd sj vl mh mb mw mo mq my ml md ms m1 m2 : Nat → Int32) : Prop := cb = mb ∧ cw = mw ∧ co = mo ∧ cq = mq ∧ cy = my ∧ ∃ n t nb, n ≤ 120 ∧ t ≤ 400 ∧ nb ≤ 20 ∧ ch 0 = nI n ∧ mh 0 = nI n ∧ cl 0 = nI t ∧ ml 0 = nI t ∧ bn 0 = nI nb ∧ TellOk dd sj vl md ms m1 m2 co t n ∧ HiresOk cb cw co cq cy dd n t nb
def RHire (h : MH) : Prop := PHire (hI h 200 0) (hI h 202 0) (hI h 203000120 0) (hI h 204000120 0) (hI h 205000120 0) (hI h 206000120 0) (hI h 207000120 0) (hI h 210 0) (hI h 211000400 0) (hI h 212000400 0) (hI h 213000400 0) (hI h 1336 0) (hI h 1339000120 0) (hI h 1340000120 0) (hI h 1341000120 0) (hI h 1342000120 0) (hI h 1343000120 0) (hI h 1337 0) (hI h 1346000401 0) (hI h 1347000401 0) (hI h 1348000401 0) (hI h 1349000401 0)
abbrev SHire : List (Nat × Nat) := [(200, 0), (202, 0), (203000120, 0), (204000120, 0), (205000120, 0), (206000120, 0), (207000120, 0), (210, 0), (211000400, 0), (212000400, 0), (213000400, 0), (1336, 0), (1339000120, 0), (1340000120, 0), (1341000120, 0), (1342000120, 0), (1343000120, 0), (1337, 0), (1346000401, 0), (1347000401, 0), (1348000401, 0), (1349000401, 0)]
theorem RHire.fr {W : List (Nat × Nat)} {h h2 : MH} (u : Upd W h h2) (hd : ∀ q ∈ SHire, q ∉ W) (r : RHire h) : RHire h2 := by
  unfold RHire at r ⊢
  rw [u.2 200 0 (hd (200, 0) (by decide)), u.2 202 0 (hd (202, 0) (by decide)), u.2 203000120 0 (hd (203000120, 0) (by decide)), u.2 204000120 0 (hd (204000120, 0) (by decide)), u.2 205000120 0 (hd (205000120, 0) (by decide)), u.2 206000120 0 (hd (206000120, 0) (by decide)), u.2 207000120 0 (hd (207000120, 0) (by decide)), u.2 210 0 (hd (210, 0) (by decide)), u.2 211000400 0 (hd (211000400, 0) (by decide)), u.2 212000400 0 (hd (212000400, 0) (by decide)), u.2 213000400 0 (hd (213000400, 0) (by decide)), u.2 1336 0 (hd (1336, 0) (by decide)), u.2 1339000120 0 (hd (1339000120, 0) (by decide)), u.2 1340000120 0 (hd (1340000120, 0) (by decide)), u.2 1341000120 0 (hd (1341000120, 0) (by decide)), u.2 1342000120 0 (hd (1342000120, 0) (by decide)), u.2 1343000120 0 (hd (1343000120, 0) (by decide)), u.2 1337 0 (hd (1337, 0) (by decide)), u.2 1346000401 0 (hd (1346000401, 0) (by decide)), u.2 1347000401 0 (hd (1347000401, 0) (by decide)), u.2 1348000401 0 (hd (1348000401, 0) (by decide)), u.2 1349000401 0 (hd (1349000401, 0) (by decide))]
  exact r
/-- PASSES -/
def PPass (cr cc mr mc : Nat → Int32) : Prop := cr = mr ∧ cc = mc ∧ ∀ k, cc k = 0 ∨ cc k = 1
def RPass (h : MH) : Prop := PPass (hI h 208000120 0) (hI h 209000120 0) (hI h 1344000120 0) (hI h 1345000120 0)
abbrev SPass : List (Nat × Nat) := [(208000120, 0), (209000120, 0), (1344000120, 0), (1345000120, 0)]
theorem RPass.fr {W : List (Nat × Nat)} {h h2 : MH} (u : Upd W h h2) (hd : ∀ q ∈ SPass, q ∉ W) (r : RPass h) : RPass h2 := by
  unfold RPass at r ⊢
  rw [u.2 208000120 0 (hd (208000120, 0) (by decide)), u.2 209000120 0 (hd (209000120, 0) (by decide)), u.2 1344000120 0 (hd (1344000120, 0) (by decide)), u.2 1345000120 0 (hd (1345000120, 0) (by decide))]
  exact r

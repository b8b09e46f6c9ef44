/-! THE RELATION between class and reference, by parts (printed by wip/whole/emitrel.py) -/
/-- WATER -/
def PWater (a b : Nat → Int32) : Prop := a = b
def RWater (h : MH) : Prop := PWater (hI h 800000100 0) (hI h 1330000100 0)
abbrev SWater : List (Nat × Nat) := [(800000100, 0), (1330000100, 0)]
theorem RWater.ag {h h2 : MH} (u : Ag SWater h h2) (r : RWater h) : RWater h2 := by
  unfold RWater at r ⊢
  rw [u (800000100, 0) (by decide), u (1330000100, 0) (by decide)]
  exact r
theorem RWater.fr {W : List (Nat × Nat)} {h h2 : MH} (u : Upd W h h2) (hd : ∀ q ∈ SWater, q ∉ W) (r : RWater h) : RWater h2 := r.ag (Ag.of u hd)
/-- SPELLS -/
def PSpell (cn cd cf ct mn md mf mt : Nat → Int32) : Prop := cd = md ∧ cf = mf ∧ ct = mt ∧ ∃ n, n ≤ 40 ∧ cn 0 = nI n ∧ mn 0 = nI n ∧ ∀ k, k < n → ∃ dy a b, dy < 100 ∧ a ≤ b ∧ b < 720 ∧ cd k = nI dy ∧ cf k = nI a ∧ ct k = nI b
def RSpell (h : MH) : Prop := PSpell (hI h 801 0) (hI h 802000040 0) (hI h 803000040 0) (hI h 804000040 0) (hI h 1326 0) (hI h 1332000040 0) (hI h 1333000040 0) (hI h 1334000040 0)
abbrev SSpell : List (Nat × Nat) := [(801, 0), (802000040, 0), (803000040, 0), (804000040, 0), (1326, 0), (1332000040, 0), (1333000040, 0), (1334000040, 0)]
theorem RSpell.ag {h h2 : MH} (u : Ag SSpell h h2) (r : RSpell h) : RSpell h2 := by
  unfold RSpell at r ⊢
  rw [u (801, 0) (by decide), u (802000040, 0) (by decide), u (803000040, 0) (by decide), u (804000040, 0) (by decide), u (1326, 0) (by decide), u (1332000040, 0) (by decide), u (1333000040, 0) (by decide), u (1334000040, 0) (by decide)]
  exact r
theorem RSpell.fr {W : List (Nat × Nat)} {h h2 : MH} (u : Upd W h h2) (hd : ∀ q ∈ SSpell, q ∉ W) (r : RSpell h) : RSpell h2 := r.ag (Ag.of u hd)
/-- WEED -/
def PWeed (cr cc mr mc : Nat → Int32) : Prop := cc = mc ∧ (∃ r, r ≤ 99 ∧ cr 0 = nI r ∧ mr 0 = nI r) ∧ ∀ k, cc k = 0 ∨ cc k = 1
def RWeed (h : MH) : Prop := PWeed (hI h 805 0) (hI h 806000100 0) (hI h 1327 0) (hI h 1331000100 0)
abbrev SWeed : List (Nat × Nat) := [(805, 0), (806000100, 0), (1327, 0), (1331000100, 0)]
theorem RWeed.ag {h h2 : MH} (u : Ag SWeed h h2) (r : RWeed h) : RWeed h2 := by
  unfold RWeed at r ⊢
  rw [u (805, 0) (by decide), u (806000100, 0) (by decide), u (1327, 0) (by decide), u (1331000100, 0) (by decide)]
  exact r
theorem RWeed.fr {W : List (Nat × Nat)} {h h2 : MH} (u : Upd W h h2) (hd : ∀ q ∈ SWeed, q ∉ W) (r : RWeed h) : RWeed h2 := r.ag (Ag.of u hd)
/-- SWANS -/
def PNest (cn cr cf ct mn mr mf mt : Nat → Int32) : Prop := cr = mr ∧ cf = mf ∧ ct = mt ∧ ∃ n, n ≤ 20 ∧ cn 0 = nI n ∧ mn 0 = nI n
def RNest (h : MH) : Prop := PNest (hI h 807 0) (hI h 808000020 0) (hI h 809000020 0) (hI h 810000020 0) (hI h 1383 0) (hI h 1385000020 0) (hI h 1386000020 0) (hI h 1387000020 0)
abbrev SNest : List (Nat × Nat) := [(807, 0), (808000020, 0), (809000020, 0), (810000020, 0), (1383, 0), (1385000020, 0), (1386000020, 0), (1387000020, 0)]
theorem RNest.ag {h h2 : MH} (u : Ag SNest h h2) (r : RNest h) : RNest h2 := by
  unfold RNest at r ⊢
  rw [u (807, 0) (by decide), u (808000020, 0) (by decide), u (809000020, 0) (by decide), u (810000020, 0) (by decide), u (1383, 0) (by decide), u (1385000020, 0) (by decide), u (1386000020, 0) (by decide), u (1387000020, 0) (by decide)]
  exact r
theorem RNest.fr {W : List (Nat × Nat)} {h h2 : MH} (u : Upd W h h2) (hd : ∀ q ∈ SNest, q ∉ W) (r : RNest h) : RNest h2 := r.ag (Ag.of u hd)
/-- REGATTAS -/
def PRace (cn cd cf ct cs mn md mf mt ms : Nat → Int32) : Prop := cd = md ∧ cf = mf ∧ ct = mt ∧ cs = ms ∧ ∃ n, n ≤ 10 ∧ cn 0 = nI n ∧ mn 0 = nI n ∧ ∀ k, k < n → ∃ a b, a ≤ b ∧ b < 720 ∧ cf k = nI a ∧ ct k = nI b
def RRace (h : MH) : Prop := PRace (hI h 811 0) (hI h 812000010 0) (hI h 813000010 0) (hI h 814000010 0) (hI h 815000010 0) (hI h 1384 0) (hI h 1388000010 0) (hI h 1389000010 0) (hI h 1390000010 0) (hI h 1391000010 0)
abbrev SRace : List (Nat × Nat) := [(811, 0), (812000010, 0), (813000010, 0), (814000010, 0), (815000010, 0), (1384, 0), (1388000010, 0), (1389000010, 0), (1390000010, 0), (1391000010, 0)]
theorem RRace.ag {h h2 : MH} (u : Ag SRace h h2) (r : RRace h) : RRace h2 := by
  unfold RRace at r ⊢
  rw [u (811, 0) (by decide), u (812000010, 0) (by decide), u (813000010, 0) (by decide), u (814000010, 0) (by decide), u (815000010, 0) (by decide), u (1384, 0) (by decide), u (1388000010, 0) (by decide), u (1389000010, 0) (by decide), u (1390000010, 0) (by decide), u (1391000010, 0) (by decide)]
  exact r
theorem RRace.fr {W : List (Nat × Nat)} {h h2 : MH} (u : Upd W h h2) (hd : ∀ q ∈ SRace, q ∉ W) (r : RRace h) : RRace h2 := r.ag (Ag.of u hd)
/-- EARLY and LATE -/
def PDoubt (ce cl me ml : Nat → Int32) : Prop := ∃ a b, a ≤ 240 ∧ b ≤ 240 ∧ ce 0 = nI a ∧ me 0 = nI a ∧ cl 0 = nI b ∧ ml 0 = nI b
def RDoubt (h : MH) : Prop := PDoubt (hI h 214 0) (hI h 215 0) (hI h 1328 0) (hI h 1329 0)
abbrev SDoubt : List (Nat × Nat) := [(214, 0), (215, 0), (1328, 0), (1329, 0)]
theorem RDoubt.ag {h h2 : MH} (u : Ag SDoubt h h2) (r : RDoubt h) : RDoubt h2 := by
  unfold RDoubt at r ⊢
  rw [u (214, 0) (by decide), u (215, 0) (by decide), u (1328, 0) (by decide), u (1329, 0) (by decide)]
  exact r
theorem RDoubt.fr {W : List (Nat × Nat)} {h h2 : MH} (u : Upd W h h2) (hd : ∀ q ∈ SDoubt, q ∉ W) (r : RDoubt h) : RDoubt h2 := r.ag (Ag.of u hd)
/-- CHANCES -/
def PChance (a b : Nat → Int32) : Prop := a = b ∧ ∀ k, ∃ n, n ≤ 10 ∧ a k = nI n
def RChance (h : MH) : Prop := PChance (hI h 300000072 0) (hI h 1357000072 0)
abbrev SChance : List (Nat × Nat) := [(300000072, 0), (1357000072, 0)]
theorem RChance.ag {h h2 : MH} (u : Ag SChance h h2) (r : RChance h) : RChance h2 := by
  unfold RChance at r ⊢
  rw [u (300000072, 0) (by decide), u (1357000072, 0) (by decide)]
  exact r
theorem RChance.fr {W : List (Nat × Nat)} {h h2 : MH} (u : Upd W h h2) (hd : ∀ q ∈ SChance, q ∉ W) (r : RChance h) : RChance h2 := r.ag (Ag.of u hd)
/-- LOYAL parties -/
def PLoyal (cn cp mn ml : Nat → Int32) : Prop := cp = ml ∧ ∃ n, n ≤ 12 ∧ cn 0 = nI n ∧ mn 0 = nI n ∧ ∀ k, ∃ v, v ≤ 999 ∧ cp k = nI v
def RLoyal (h : MH) : Prop := PLoyal (hI h 301 0) (hI h 302000012 0) (hI h 1381 0) (hI h 1382000012 0)
abbrev SLoyal : List (Nat × Nat) := [(301, 0), (302000012, 0), (1381, 0), (1382000012, 0)]
theorem RLoyal.ag {h h2 : MH} (u : Ag SLoyal h h2) (r : RLoyal h) : RLoyal h2 := by
  unfold RLoyal at r ⊢
  rw [u (301, 0) (by decide), u (302000012, 0) (by decide), u (1381, 0) (by decide), u (1382000012, 0) (by decide)]
  exact r
theorem RLoyal.fr {W : List (Nat × Nat)} {h h2 : MH} (u : Upd W h h2) (hd : ∀ q ∈ SLoyal, q ∉ W) (r : RLoyal h) : RLoyal h2 := r.ag (Ag.of u hd)
/-- ROLLER -/
def PRoll (cn cc ct mn mc mt : Nat → Int32) : Prop := cc = mc ∧ ct = mt ∧ ∃ n, n ≤ 7 ∧ cn 0 = nI n ∧ mn 0 = nI n ∧ ∀ k, (∃ v, v ≤ 719 ∧ cc k = nI v) ∧ ∃ v, v ≤ 99 ∧ ct k = nI v
def RRoll (h : MH) : Prop := PRoll (hI h 900 0) (hI h 901000007 0) (hI h 902000007 0) (hI h 1360 0) (hI h 1362000007 0) (hI h 1363000007 0)
abbrev SRoll : List (Nat × Nat) := [(900, 0), (901000007, 0), (902000007, 0), (1360, 0), (1362000007, 0), (1363000007, 0)]
theorem RRoll.ag {h h2 : MH} (u : Ag SRoll h h2) (r : RRoll h) : RRoll h2 := by
  unfold RRoll at r ⊢
  rw [u (900, 0) (by decide), u (901000007, 0) (by decide), u (902000007, 0) (by decide), u (1360, 0) (by decide), u (1362000007, 0) (by decide), u (1363000007, 0) (by decide)]
  exact r
theorem RRoll.fr {W : List (Nat × Nat)} {h h2 : MH} (u : Upd W h h2) (hd : ∀ q ∈ SRoll, q ∉ W) (r : RRoll h) : RRoll h2 := r.ag (Ag.of u hd)
/-- GUIDES -/
def PGuide (cn ck cp mn mk mp : Nat → Int32) : Prop := ck = mk ∧ cp = mp ∧ ∃ n, n ≤ 8 ∧ cn 0 = nI n ∧ mn 0 = nI n
def RGuide (h : MH) : Prop := PGuide (hI h 500 0) (hI h 501000008 0) (hI h 502000008 0) (hI h 1366 0) (hI h 1368000008 0) (hI h 1369000008 0)
abbrev SGuide : List (Nat × Nat) := [(500, 0), (501000008, 0), (502000008, 0), (1366, 0), (1368000008, 0), (1369000008, 0)]
theorem RGuide.ag {h h2 : MH} (u : Ag SGuide h h2) (r : RGuide h) : RGuide h2 := by
  unfold RGuide at r ⊢
  rw [u (500, 0) (by decide), u (501000008, 0) (by decide), u (502000008, 0) (by decide), u (1366, 0) (by decide), u (1368000008, 0) (by decide), u (1369000008, 0) (by decide)]
  exact r
theorem RGuide.fr {W : List (Nat × Nat)} {h h2 : MH} (u : Upd W h h2) (hd : ∀ q ∈ SGuide, q ∉ W) (r : RGuide h) : RGuide h2 := r.ag (Ag.of u hd)
/-- PARTIES -/
def PParty (cn cw cp mn mw mp : Nat → Int32) : Prop := cw = mw ∧ cp = mp ∧ ∃ n, n ≤ 8 ∧ cn 0 = nI n ∧ mn 0 = nI n ∧ ∀ k, ∃ v, v ≤ 999 ∧ cp k = nI v
def RParty (h : MH) : Prop := PParty (hI h 503 0) (hI h 504000008 0) (hI h 505000008 0) (hI h 1367 0) (hI h 1370000008 0) (hI h 1371000008 0)
abbrev SParty : List (Nat × Nat) := [(503, 0), (504000008, 0), (505000008, 0), (1367, 0), (1370000008, 0), (1371000008, 0)]
theorem RParty.ag {h h2 : MH} (u : Ag SParty h h2) (r : RParty h) : RParty h2 := by
  unfold RParty at r ⊢
  rw [u (503, 0) (by decide), u (504000008, 0) (by decide), u (505000008, 0) (by decide), u (1367, 0) (by decide), u (1370000008, 0) (by decide), u (1371000008, 0) (by decide)]
  exact r
theorem RParty.fr {W : List (Nat × Nat)} {h h2 : MH} (u : Upd W h h2) (hd : ∀ q ∈ SParty, q ∉ W) (r : RParty h) : RParty h2 := r.ag (Ag.of u hd)
/-- BOATS -/
def PBoat (cn ck mn mk : Nat → Int32) : Prop := ck = mk ∧ ∃ n, n ≤ 20 ∧ cn 0 = nI n ∧ mn 0 = nI n ∧ ∀ k, ∃ v, v < 4 ∧ ck k = nI v
def RBoat (h : MH) : Prop := PBoat (hI h 200 0) (hI h 201000020 0) (hI h 1335 0) (hI h 1338000020 0)
abbrev SBoat : List (Nat × Nat) := [(200, 0), (201000020, 0), (1335, 0), (1338000020, 0)]
theorem RBoat.ag {h h2 : MH} (u : Ag SBoat h h2) (r : RBoat h) : RBoat h2 := by
  unfold RBoat at r ⊢
  rw [u (200, 0) (by decide), u (201000020, 0) (by decide), u (1335, 0) (by decide), u (1338000020, 0) (by decide)]
  exact r
theorem RBoat.fr {W : List (Nat × Nat)} {h h2 : MH} (u : Upd W h h2) (hd : ∀ q ∈ SBoat, q ∉ W) (r : RBoat h) : RBoat h2 := r.ag (Ag.of u hd)
/-- PAINT -/
def PDry (bn cw cc mw mc : Nat → Int32) : Prop := cw = mw ∧ cc = mc ∧ (∃ n, n ≤ 20 ∧ bn 0 = nI n ∧ ∀ k, n ≤ k → cw k = 0) ∧ (∀ k, (∃ v, v ≤ 9 ∧ cw k = nI v) ∧ ∃ v, v ≤ 99 ∧ cc k = nI v) ∧ dryN cw 20 ≤ 10
def RDry (h : MH) : Prop := PDry (hI h 200 0) (hI h 400000020 0) (hI h 401000020 0) (hI h 1374000020 0) (hI h 1375000020 0)
abbrev SDry : List (Nat × Nat) := [(200, 0), (400000020, 0), (401000020, 0), (1374000020, 0), (1375000020, 0)]
theorem RDry.ag {h h2 : MH} (u : Ag SDry h h2) (r : RDry h) : RDry h2 := by
  unfold RDry at r ⊢
  rw [u (200, 0) (by decide), u (400000020, 0) (by decide), u (401000020, 0) (by decide), u (1374000020, 0) (by decide), u (1375000020, 0) (by decide)]
  exact r
theorem RDry.fr {W : List (Nat × Nat)} {h h2 : MH} (u : Upd W h h2) (hd : ∀ q ∈ SDry, q ∉ W) (r : RDry h) : RDry h2 := r.ag (Ag.of u hd)
/-- chances to fail -/
def PFail (cp cc mp mc : Nat → Int32) : Prop := cp = mp ∧ cc = mc ∧ ∀ k, (∃ v, v ≤ 100 ∧ cp k = nI v) ∧ ∃ v, v ≤ 999 ∧ cc k = nI v
def RFail (h : MH) : Prop := PFail (hI h 402000020 0) (hI h 403000020 0) (hI h 1376000020 0) (hI h 1377000020 0)
abbrev SFail : List (Nat × Nat) := [(402000020, 0), (403000020, 0), (1376000020, 0), (1377000020, 0)]
theorem RFail.ag {h h2 : MH} (u : Ag SFail h h2) (r : RFail h) : RFail h2 := by
  unfold RFail at r ⊢
  rw [u (402000020, 0) (by decide), u (403000020, 0) (by decide), u (1376000020, 0) (by decide), u (1377000020, 0) (by decide)]
  exact r
theorem RFail.fr {W : List (Nat × Nat)} {h h2 : MH} (u : Upd W h h2) (hd : ∀ q ∈ SFail, q ∉ W) (r : RFail h) : RFail h2 := r.ag (Ag.of u hd)
/-- HIRES and TELLINGS -/
def PHire (bn ch cb cw co cq cy cl dd sj vl mh mb mw mo mq my ml md ms m1 m2 : Nat → Int32) : Prop := cb = mb ∧ cw = mw ∧ co = mo ∧ cq = mq ∧ cy = my ∧ ∃ n t nb, n ≤ 120 ∧ t ≤ 400 ∧ nb ≤ 20 ∧ ch 0 = nI n ∧ mh 0 = nI n ∧ cl 0 = nI t ∧ ml 0 = nI t ∧ bn 0 = nI nb ∧ TellOk dd sj vl md ms m1 m2 co t n ∧ HiresOk cb cw co cq cy dd n t nb ∧ SepOk cb co dd sj vl n t
def RHire (h : MH) : Prop := PHire (hI h 200 0) (hI h 202 0) (hI h 203000120 0) (hI h 204000120 0) (hI h 205000120 0) (hI h 206000120 0) (hI h 207000120 0) (hI h 210 0) (hI h 211000400 0) (hI h 212000400 0) (hI h 213000400 0) (hI h 1336 0) (hI h 1339000120 0) (hI h 1340000120 0) (hI h 1341000120 0) (hI h 1342000120 0) (hI h 1343000120 0) (hI h 1337 0) (hI h 1346000401 0) (hI h 1347000401 0) (hI h 1348000401 0) (hI h 1349000401 0)
abbrev SHire : List (Nat × Nat) := [(200, 0), (202, 0), (203000120, 0), (204000120, 0), (205000120, 0), (206000120, 0), (207000120, 0), (210, 0), (211000400, 0), (212000400, 0), (213000400, 0), (1336, 0), (1339000120, 0), (1340000120, 0), (1341000120, 0), (1342000120, 0), (1343000120, 0), (1337, 0), (1346000401, 0), (1347000401, 0), (1348000401, 0), (1349000401, 0)]
theorem RHire.ag {h h2 : MH} (u : Ag SHire h h2) (r : RHire h) : RHire h2 := by
  unfold RHire at r ⊢
  rw [u (200, 0) (by decide), u (202, 0) (by decide), u (203000120, 0) (by decide), u (204000120, 0) (by decide), u (205000120, 0) (by decide), u (206000120, 0) (by decide), u (207000120, 0) (by decide), u (210, 0) (by decide), u (211000400, 0) (by decide), u (212000400, 0) (by decide), u (213000400, 0) (by decide), u (1336, 0) (by decide), u (1339000120, 0) (by decide), u (1340000120, 0) (by decide), u (1341000120, 0) (by decide), u (1342000120, 0) (by decide), u (1343000120, 0) (by decide), u (1337, 0) (by decide), u (1346000401, 0) (by decide), u (1347000401, 0) (by decide), u (1348000401, 0) (by decide), u (1349000401, 0) (by decide)]
  exact r
theorem RHire.fr {W : List (Nat × Nat)} {h h2 : MH} (u : Upd W h h2) (hd : ∀ q ∈ SHire, q ∉ W) (r : RHire h) : RHire h2 := r.ag (Ag.of u hd)
/-- PASSES -/
def PPass (cr cc mr mc : Nat → Int32) : Prop := cr = mr ∧ cc = mc ∧ ∀ k, cc k = 0 ∨ cc k = 1
def RPass (h : MH) : Prop := PPass (hI h 208000120 0) (hI h 209000120 0) (hI h 1344000120 0) (hI h 1345000120 0)
abbrev SPass : List (Nat × Nat) := [(208000120, 0), (209000120, 0), (1344000120, 0), (1345000120, 0)]
theorem RPass.ag {h h2 : MH} (u : Ag SPass h h2) (r : RPass h) : RPass h2 := by
  unfold RPass at r ⊢
  rw [u (208000120, 0) (by decide), u (209000120, 0) (by decide), u (1344000120, 0) (by decide), u (1345000120, 0) (by decide)]
  exact r
theorem RPass.fr {W : List (Nat × Nat)} {h h2 : MH} (u : Upd W h h2) (hd : ∀ q ∈ SPass, q ∉ W) (r : RPass h) : RPass h2 := r.ag (Ag.of u hd)
/-- the TAPE -/
def PTape (n b m t : Nat → Int32) : Prop := ∃ k, k ≤ 900 ∧ n 0 = nI k ∧ m 0 = nI k ∧ ∀ i, i < k → b i = t i &&& 255
def RTape (h : MH) : Prop := PTape (hI h 701 0) (hI h 700000900 0) (hI h 1303 0) (hI h 1322100900 0)
abbrev STape : List (Nat × Nat) := [(701, 0), (700000900, 0), (1303, 0), (1322100900, 0)]
theorem RTape.ag {h h2 : MH} (u : Ag STape h h2) (r : RTape h) : RTape h2 := by
  unfold RTape at r ⊢
  rw [u (701, 0) (by decide), u (700000900, 0) (by decide), u (1303, 0) (by decide), u (1322100900, 0) (by decide)]
  exact r
theorem RTape.fr {W : List (Nat × Nat)} {h h2 : MH} (u : Upd W h h2) (hd : ∀ q ∈ STape, q ∉ W) (r : RTape h) : RTape h2 := r.ag (Ag.of u hd)
/-- the place of the FAULT -/
def PFault (a b : Nat → Int32) : Prop := a 0 = b 0
def RFault (h : MH) : Prop := PFault (hI h 1204 0) (hI h 1307 0)
abbrev SFault : List (Nat × Nat) := [(1204, 0), (1307, 0)]
theorem RFault.ag {h h2 : MH} (u : Ag SFault h h2) (r : RFault h) : RFault h2 := by
  unfold RFault at r ⊢
  rw [u (1204, 0) (by decide), u (1307, 0) (by decide)]
  exact r
theorem RFault.fr {W : List (Nat × Nat)} {h h2 : MH} (u : Upd W h h2) (hd : ∀ q ∈ SFault, q ∉ W) (r : RFault h) : RFault h2 := r.ag (Ag.of u hd)
/-- how many LAWS and IMAGES -/
def PCnt (a b c e : Nat → Int32) : Prop := ∃ n m, n ≤ 5 ∧ m ≤ 3 ∧ a 0 = nI n ∧ b 0 = nI n ∧ c 0 = nI m ∧ e 0 = nI m
def RCnt (h : MH) : Prop := PCnt (hI h 1203 0) (hI h 1300 0) (hI h 1207 0) (hI h 1392 0)
abbrev SCnt : List (Nat × Nat) := [(1203, 0), (1300, 0), (1207, 0), (1392, 0)]
theorem RCnt.ag {h h2 : MH} (u : Ag SCnt h h2) (r : RCnt h) : RCnt h2 := by
  unfold RCnt at r ⊢
  rw [u (1203, 0) (by decide), u (1300, 0) (by decide), u (1207, 0) (by decide), u (1392, 0) (by decide)]
  exact r
theorem RCnt.fr {W : List (Nat × Nat)} {h h2 : MH} (u : Upd W h h2) (hd : ∀ q ∈ SCnt, q ∉ W) (r : RCnt h) : RCnt h2 := r.ag (Ag.of u hd)

/-! IMAGES: what holds of a State that was taken back -/
theorem mgL {n k : Nat} {f g : Nat → Int32} (h : k < n) : cpN n f g k = f k := if_pos h
theorem mgE {n : Nat} {a b c e : Nat → Int32} (h1 : a = b) (h2 : c = e) : cpN n a c = cpN n b e := by rw [h1, h2]
theorem mgA {n : Nat} {f g : Nat → Int32} {Q : Int32 → Prop} (h1 : ∀ k, Q (f k)) (h2 : ∀ k, Q (g k)) : ∀ k, Q (cpN n f g k) := fun k => by
  unfold cpN
  by_cases c : k < n
  · rw [if_pos c]; exact h1 k
  · rw [if_neg c]; exact h2 k
theorem lastF_cg {w v0 : Int32} {d1 s1 v1 d2 s2 v2 : Nat → Int32} {i : Nat} : ∀ {t : Nat}, (∀ k, k < t → d1 k = d2 k ∧ s1 k = s2 k ∧ v1 k = v2 k) → lastF w v0 d1 s1 v1 t i = lastF w v0 d2 s2 v2 t i
  | 0, _ => rfl
  | t + 1, h => by
    obtain ⟨h1, h2, h3⟩ := h t (by omega)
    show (if d1 t = w ∧ s1 t = nI i then v1 t else lastF w v0 d1 s1 v1 t i) = (if d2 t = w ∧ s2 t = nI i then v2 t else lastF w v0 d2 s2 v2 t i)
    rw [h1, h2, h3, lastF_cg (fun k hk => h k (by omega))]
theorem cntW_cg2 {d1 d2 : Nat → Int32} : ∀ {k : Nat}, (∀ j, j < k → d1 j = d2 j) → cntW d1 k = cntW d2 k := fun h => cntW_cg h
theorem dryN_cg {f g : Nat → Int32} : ∀ {n : Nat}, (∀ k, k < n → f k = g k) → dryN f n = dryN g n
  | 0, _ => rfl
  | n + 1, h => by
    show (if f n = 0 then dryN f n else dryN f n + 1) = (if g n = 0 then dryN g n else dryN g n + 1)
    rw [h n (by omega), dryN_cg (fun k hk => h k (by omega))]
theorem TellOk.mg {dd sj vl md ms m1 m2 oa e1 e2 e3 e4 e5 e6 e7 e8 : Nat → Int32} {t n : Nat} (ht : t ≤ 400) (h : TellOk dd sj vl md ms m1 m2 oa t n) : TellOk (cpN 400 dd e1) (cpN 400 sj e2) (cpN 400 vl e3) (cpN 401 md e4) (cpN 401 ms e5) (cpN 401 m1 e6) (cpN 401 m2 e7) (cpN 120 oa e8) t n := by
  obtain ⟨h1, h2⟩ := h
  have cw : ∀ k, k ≤ t → cntW (cpN 400 dd e1) k = cntW dd k := fun k hk => cntW_cg (fun j hj => mgL (by omega))
  refine ⟨fun k hk => ?_, by rw [cw t (Nat.le_refl t)]; exact h2⟩
  obtain ⟨a1, a2, i, a3, a4, a5⟩ := h1 k hk
  rw [mgL (show k + 1 < 401 by omega), mgL (show k + 1 < 401 by omega), mgL (show k < 400 by omega), mgL (show k < 400 by omega), mgL (show k < 400 by omega), mgL (show k + 1 < 401 by omega), mgL (show k + 1 < 401 by omega), cw k (by omega)]
  refine ⟨a1, a2, i, a3, a4, ?_⟩
  rw [mgL (show i < 120 from a4)]
  exact a5
theorem HiresOk.mg {bo wo oa bk tb dd e1 e2 e3 e4 e5 e6 : Nat → Int32} {n t nb : Nat} (hn : n ≤ 120) (ht : t ≤ 400) (h : HiresOk bo wo oa bk tb dd n t nb) : HiresOk (cpN 120 bo e1) (cpN 120 wo e2) (cpN 120 oa e3) (cpN 120 bk e4) (cpN 120 tb e5) (cpN 400 dd e6) n t nb := by
  intro i hi
  obtain ⟨h1, ⟨k, h2, h3, h4, h5⟩, h6⟩ := h i hi
  rw [mgL (show i < 120 by omega), mgL (show i < 120 by omega), mgL (show i < 120 by omega), mgL (show i < 120 by omega), mgL (show i < 120 by omega)]
  refine ⟨h1, ⟨k, h2, h3, by rw [mgL (show k < 400 by omega)]; exact h4, by rw [cntW_cg (d2 := dd) (fun j hj => mgL (by omega))]; exact h5⟩, fun j hj hij => ?_⟩
  rw [mgL (show j < 120 by omega), mgL (show j < 120 by omega)]
  exact h6 j hj hij
theorem SepOk.mg {bo oa dd sj vl e1 e2 e3 e4 e5 : Nat → Int32} {n t : Nat} (hn : n ≤ 120) (ht : t ≤ 400) (h : SepOk bo oa dd sj vl n t) : SepOk (cpN 120 bo e1) (cpN 120 oa e2) (cpN 400 dd e3) (cpN 400 sj e4) (cpN 400 vl e5) n t := by
  intro i j hij hj
  rw [mgL (show i < 120 by omega), mgL (show j < 120 by omega), mgL (show j < 120 by omega), lastF_cg (d2 := dd) (s2 := sj) (v2 := vl) (fun k hk => ⟨mgL (by omega), mgL (by omega), mgL (by omega)⟩)]
  exact h i j hij hj
/-- the rows of s below their lengths, else those of h -/
def MgC (s h g : MH) : Prop := ∀ q, q ∈ tkAll → hI g q.1 0 = cpN q.2 (hI s q.1 0) (hI h q.1 0)
def MgM (s h g : MH) : Prop := (∀ q, q ∈ mL2 → hI g q.1 0 = cpN q.2 (hI s q.1 0) (hI h q.1 0)) ∧ ∀ a, a ∈ mSc → hI g a 0 0 = hI s a 0 0
section Merge
variable {s h g : MH}
theorem RWater.mg (c : MgC s h g) (m : MgM s h g) (x : RWater s) (y : RWater h) : RWater g := by
  show hI g 800000100 0 = hI g 1330000100 0
  rw [c (800000100, 100) (by decide), m.1 (1330000100, 100) (by decide)]
  exact mgE x y
theorem RSpell.mg (c : MgC s h g) (m : MgM s h g) (x : RSpell s) (y : RSpell h) : RSpell g := by
  obtain ⟨x1, x2, x3, n, hn, x4, x5, x6⟩ := x
  obtain ⟨y1, y2, y3, -⟩ := y
  unfold RSpell PSpell
  rw [c (801, 1) (by decide), c (802000040, 40) (by decide), c (803000040, 40) (by decide), c (804000040, 40) (by decide), m.1 (1332000040, 40) (by decide), m.1 (1333000040, 40) (by decide), m.1 (1334000040, 40) (by decide), m.2 1326 (by decide)]
  refine ⟨mgE x1 y1, mgE x2 y2, mgE x3 y3, n, hn, by rw [mgL (by decide)]; exact x4, x5, fun k hk => ?_⟩
  rw [mgL (show k < 40 by omega), mgL (show k < 40 by omega), mgL (show k < 40 by omega)]
  exact x6 k hk
theorem RWeed.mg (c : MgC s h g) (m : MgM s h g) (x : RWeed s) (y : RWeed h) : RWeed g := by
  obtain ⟨x1, ⟨r, hr, x2, x3⟩, x4⟩ := x
  obtain ⟨y1, -, y4⟩ := y
  unfold RWeed PWeed
  rw [c (805, 1) (by decide), c (806000100, 100) (by decide), m.1 (1331000100, 100) (by decide), m.2 1327 (by decide)]
  exact ⟨mgE x1 y1, ⟨r, hr, by rw [mgL (by decide)]; exact x2, x3⟩, mgA (Q := fun z => z = 0 ∨ z = 1) x4 y4⟩
theorem RNest.mg (c : MgC s h g) (m : MgM s h g) (x : RNest s) (y : RNest h) : RNest g := by
  obtain ⟨x1, x2, x3, n, hn, x4, x5⟩ := x
  obtain ⟨y1, y2, y3, -⟩ := y
  unfold RNest PNest
  rw [c (807, 1) (by decide), c (808000020, 20) (by decide), c (809000020, 20) (by decide), c (810000020, 20) (by decide), m.1 (1385000020, 20) (by decide), m.1 (1386000020, 20) (by decide), m.1 (1387000020, 20) (by decide), m.2 1383 (by decide)]
  exact ⟨mgE x1 y1, mgE x2 y2, mgE x3 y3, n, hn, by rw [mgL (by decide)]; exact x4, x5⟩
theorem RRace.mg (c : MgC s h g) (m : MgM s h g) (x : RRace s) (y : RRace h) : RRace g := by
  obtain ⟨x1, x2, x3, x4, n, hn, x5, x6, x7⟩ := x
  obtain ⟨y1, y2, y3, y4, -⟩ := y
  unfold RRace PRace
  rw [c (811, 1) (by decide), c (812000010, 10) (by decide), c (813000010, 10) (by decide), c (814000010, 10) (by decide), c (815000010, 10) (by decide), m.1 (1388000010, 10) (by decide), m.1 (1389000010, 10) (by decide), m.1 (1390000010, 10) (by decide), m.1 (1391000010, 10) (by decide), m.2 1384 (by decide)]
  refine ⟨mgE x1 y1, mgE x2 y2, mgE x3 y3, mgE x4 y4, n, hn, by rw [mgL (by decide)]; exact x5, x6, fun k hk => ?_⟩
  rw [mgL (show k < 10 by omega), mgL (show k < 10 by omega)]
  exact x7 k hk
theorem RDoubt.mg (c : MgC s h g) (m : MgM s h g) (x : RDoubt s) : RDoubt g := by
  obtain ⟨a, b, ha, hb, x1, x2, x3, x4⟩ := x
  unfold RDoubt PDoubt
  rw [c (214, 1) (by decide), c (215, 1) (by decide), m.2 1328 (by decide), m.2 1329 (by decide)]
  exact ⟨a, b, ha, hb, by rw [mgL (by decide)]; exact x1, x2, by rw [mgL (by decide)]; exact x3, x4⟩
theorem RChance.mg (c : MgC s h g) (m : MgM s h g) (x : RChance s) (y : RChance h) : RChance g := by
  unfold RChance PChance
  rw [c (300000072, 72) (by decide), m.1 (1357000072, 72) (by decide)]
  exact ⟨mgE x.1 y.1, mgA (Q := fun z => ∃ n, n ≤ 10 ∧ z = nI n) x.2 y.2⟩
theorem RLoyal.mg (c : MgC s h g) (m : MgM s h g) (x : RLoyal s) (y : RLoyal h) : RLoyal g := by
  obtain ⟨x1, n, hn, x2, x3, x4⟩ := x
  obtain ⟨y1, -, -, -, -, y4⟩ := y
  unfold RLoyal PLoyal
  rw [c (301, 1) (by decide), c (302000012, 12) (by decide), m.1 (1382000012, 12) (by decide), m.2 1381 (by decide)]
  exact ⟨mgE x1 y1, n, hn, by rw [mgL (by decide)]; exact x2, x3, mgA (Q := fun z => ∃ v, v ≤ 999 ∧ z = nI v) x4 y4⟩
theorem RRoll.mg (c : MgC s h g) (m : MgM s h g) (x : RRoll s) (y : RRoll h) : RRoll g := by
  obtain ⟨x1, x2, n, hn, x3, x4, x5⟩ := x
  obtain ⟨y1, y2, -, -, -, -, y5⟩ := y
  unfold RRoll PRoll
  rw [c (900, 1) (by decide), c (901000007, 7) (by decide), c (902000007, 7) (by decide), m.1 (1362000007, 7) (by decide), m.1 (1363000007, 7) (by decide), m.2 1360 (by decide)]
  exact ⟨mgE x1 y1, mgE x2 y2, n, hn, by rw [mgL (by decide)]; exact x3, x4, fun k => ⟨mgA (Q := fun z => ∃ v, v ≤ 719 ∧ z = nI v) (fun k => (x5 k).1) (fun k => (y5 k).1) k, mgA (Q := fun z => ∃ v, v ≤ 99 ∧ z = nI v) (fun k => (x5 k).2) (fun k => (y5 k).2) k⟩⟩
theorem RGuide.mg (c : MgC s h g) (m : MgM s h g) (x : RGuide s) (y : RGuide h) : RGuide g := by
  obtain ⟨x1, x2, n, hn, x3, x4⟩ := x
  obtain ⟨y1, y2, -⟩ := y
  unfold RGuide PGuide
  rw [c (500, 1) (by decide), c (501000008, 8) (by decide), c (502000008, 8) (by decide), m.1 (1368000008, 8) (by decide), m.1 (1369000008, 8) (by decide), m.2 1366 (by decide)]
  exact ⟨mgE x1 y1, mgE x2 y2, n, hn, by rw [mgL (by decide)]; exact x3, x4⟩
theorem RParty.mg (c : MgC s h g) (m : MgM s h g) (x : RParty s) (y : RParty h) : RParty g := by
  obtain ⟨x1, x2, n, hn, x3, x4, x5⟩ := x
  obtain ⟨y1, y2, -, -, -, -, y5⟩ := y
  unfold RParty PParty
  rw [c (503, 1) (by decide), c (504000008, 8) (by decide), c (505000008, 8) (by decide), m.1 (1370000008, 8) (by decide), m.1 (1371000008, 8) (by decide), m.2 1367 (by decide)]
  exact ⟨mgE x1 y1, mgE x2 y2, n, hn, by rw [mgL (by decide)]; exact x3, x4, mgA (Q := fun z => ∃ v, v ≤ 999 ∧ z = nI v) x5 y5⟩
theorem RBoat.mg (c : MgC s h g) (m : MgM s h g) (x : RBoat s) (y : RBoat h) : RBoat g := by
  obtain ⟨x1, n, hn, x2, x3, x4⟩ := x
  obtain ⟨y1, -, -, -, -, y4⟩ := y
  unfold RBoat PBoat
  rw [c (200, 1) (by decide), c (201000020, 20) (by decide), m.1 (1338000020, 20) (by decide), m.2 1335 (by decide)]
  exact ⟨mgE x1 y1, n, hn, by rw [mgL (by decide)]; exact x2, x3, mgA (Q := fun z => ∃ v, v < 4 ∧ z = nI v) x4 y4⟩
theorem RDry.mg (c : MgC s h g) (m : MgM s h g) (x : RDry s) (y : RDry h) : RDry g := by
  obtain ⟨x1, x2, ⟨n, hn, x3, x4⟩, x5, x6⟩ := x
  obtain ⟨y1, y2, ⟨n', hn', -, y4⟩, y5, -⟩ := y
  unfold RDry PDry
  rw [c (200, 1) (by decide), c (400000020, 20) (by decide), c (401000020, 20) (by decide), m.1 (1374000020, 20) (by decide), m.1 (1375000020, 20) (by decide)]
  refine ⟨mgE x1 y1, mgE x2 y2, ⟨n, hn, by rw [mgL (by decide)]; exact x3, fun k hk => ?_⟩, fun k => ⟨mgA (Q := fun z => ∃ v, v ≤ 9 ∧ z = nI v) (fun k => (x5 k).1) (fun k => (y5 k).1) k, mgA (Q := fun z => ∃ v, v ≤ 99 ∧ z = nI v) (fun k => (x5 k).2) (fun k => (y5 k).2) k⟩, ?_⟩
  · unfold cpN
    by_cases e : k < 20
    · rw [if_pos e]; exact x4 k hk
    · rw [if_neg e]; exact y4 k (by omega)
  · rw [dryN_cg (g := hI s 400000020 0) (fun k hk => mgL hk)]; exact x6
theorem RFail.mg (c : MgC s h g) (m : MgM s h g) (x : RFail s) (y : RFail h) : RFail g := by
  obtain ⟨x1, x2, x3⟩ := x
  obtain ⟨y1, y2, y3⟩ := y
  unfold RFail PFail
  rw [c (402000020, 20) (by decide), c (403000020, 20) (by decide), m.1 (1376000020, 20) (by decide), m.1 (1377000020, 20) (by decide)]
  exact ⟨mgE x1 y1, mgE x2 y2, fun k => ⟨mgA (Q := fun z => ∃ v, v ≤ 100 ∧ z = nI v) (fun k => (x3 k).1) (fun k => (y3 k).1) k, mgA (Q := fun z => ∃ v, v ≤ 999 ∧ z = nI v) (fun k => (x3 k).2) (fun k => (y3 k).2) k⟩⟩
theorem RPass.mg (c : MgC s h g) (m : MgM s h g) (x : RPass s) (y : RPass h) : RPass g := by
  obtain ⟨x1, x2, x3⟩ := x
  obtain ⟨y1, y2, y3⟩ := y
  unfold RPass PPass
  rw [c (208000120, 120) (by decide), c (209000120, 120) (by decide), m.1 (1344000120, 120) (by decide), m.1 (1345000120, 120) (by decide)]
  exact ⟨mgE x1 y1, mgE x2 y2, mgA (Q := fun z => z = 0 ∨ z = 1) x3 y3⟩
theorem RHire.mg (c : MgC s h g) (m : MgM s h g) (x : RHire s) (y : RHire h) : RHire g := by
  obtain ⟨x1, x2, x3, x4, x5, n, t, nb, hn, ht, hnb, a1, a2, a3, a4, a5, T1, T2, T3⟩ := x
  obtain ⟨y1, y2, y3, y4, y5, -⟩ := y
  unfold RHire PHire
  rw [c (200, 1) (by decide), c (202, 1) (by decide), c (203000120, 120) (by decide), c (204000120, 120) (by decide), c (205000120, 120) (by decide), c (206000120, 120) (by decide), c (207000120, 120) (by decide), c (210, 1) (by decide), c (211000400, 400) (by decide), c (212000400, 400) (by decide), c (213000400, 400) (by decide), m.1 (1339000120, 120) (by decide), m.1 (1340000120, 120) (by decide), m.1 (1341000120, 120) (by decide), m.1 (1342000120, 120) (by decide), m.1 (1343000120, 120) (by decide), m.1 (1346000401, 401) (by decide), m.1 (1347000401, 401) (by decide), m.1 (1348000401, 401) (by decide), m.1 (1349000401, 401) (by decide), m.2 1336 (by decide), m.2 1337 (by decide)]
  exact ⟨mgE x1 y1, mgE x2 y2, mgE x3 y3, mgE x4 y4, mgE x5 y5, n, t, nb, hn, ht, hnb, by rw [mgL (by decide)]; exact a1, a2, by rw [mgL (by decide)]; exact a3, a4, by rw [mgL (by decide)]; exact a5, T1.mg ht, T2.mg hn ht, T3.mg hn ht⟩
/-- all that an image keeps -/
def RIm (h : MH) : Prop := RWater h ∧ RSpell h ∧ RWeed h ∧ RNest h ∧ RRace h ∧ RDoubt h ∧ RChance h ∧ RLoyal h ∧ RRoll h ∧ RGuide h ∧ RParty h ∧ RBoat h ∧ RDry h ∧ RFail h ∧ RPass h ∧ RHire h
theorem RIm.mg (c : MgC s h g) (m : MgM s h g) (x : RIm s) (y : RIm h) : RIm g := by
  obtain ⟨x1, x2, x3, x4, x5, x6, x7, x8, x9, x10, x11, x12, x13, x14, x15, x16⟩ := x
  obtain ⟨y1, y2, y3, y4, y5, y6, y7, y8, y9, y10, y11, y12, y13, y14, y15, y16⟩ := y
  exact ⟨x1.mg c m y1, x2.mg c m y2, x3.mg c m y3, x4.mg c m y4, x5.mg c m y5, x6.mg c m, x7.mg c m y7, x8.mg c m y8, x9.mg c m y9, x10.mg c m y10, x11.mg c m y11, x12.mg c m y12, x13.mg c m y13, x14.mg c m y14, x15.mg c m y15, x16.mg c m y16⟩
end Merge

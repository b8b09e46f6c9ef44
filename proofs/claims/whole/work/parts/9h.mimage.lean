/-! IMAGES: image and restore on the reference's side (printed by wip/whole/emitimg.py) -/
abbrev mSc : List Nat := [1326, 1327, 1328, 1329, 1335, 1336, 1337, 1360, 1366, 1367, 1381, 1383, 1384]
abbrev mL2 : List (Nat × Nat) := [(1330000100, 100), (1331000100, 100), (1332000040, 40), (1333000040, 40), (1334000040, 40), (1338000020, 20), (1339000120, 120), (1340000120, 120), (1341000120, 120), (1342000120, 120), (1343000120, 120), (1344000120, 120), (1345000120, 120), (1346000401, 401), (1347000401, 401), (1348000401, 401), (1349000401, 401), (1357000072, 72), (1362000007, 7), (1363000007, 7), (1368000008, 8), (1369000008, 8), (1370000008, 8), (1371000008, 8), (1374000020, 20), (1375000020, 20), (1376000020, 20), (1377000020, 20), (1382000012, 12), (1385000020, 20), (1386000020, 20), (1387000020, 20), (1388000010, 10), (1389000010, 10), (1390000010, 10), (1391000010, 10)]
abbrev mL : List (Nat × Nat) := (1395000013, 13) :: mL2
theorem mL_ok : RowsOk mL := by decide
theorem mL_nd : (mL.map Prod.fst).Nodup := by decide
abbrev WIm : List (Nat × Nat) := [(1392, 0), (1393, 0), (1394012600, 0), (1395000013, 0)]
section MImage
variable {L : Nat} {scr : Nat → Int32} {d : Nat}
theorem c_M_image {k : Nat} {g : MH} (hk : k < 3) (ei : hI g 1392 0 0 = nI k) : ∃ g1 g2, Upd [(1393, 0), (1395000013, 0)] g g1 ∧ (∀ i, i < 13 → hI g1 1395000013 0 i = hI g (mSc.getD i 0) 0 0) ∧ E L scr (d + 2) 330 [vR 900012 0] g = some (some (vI (nI k)), g2) ∧ Upd WIm g g2 ∧ hI g2 1392 0 0 = nI (k + 1) ∧ (∀ c, c < 4200 * k ∨ 4200 * k + 3107 ≤ c → hI g2 1394012600 0 c = hI g 1394012600 0 c) ∧ Segs (fun s => hI g1 s 0) mL (4200 * k) (hI g2 1394012600 0) := by
  have ek : (4200 : Int32) * nI k = nI (4200 * k) := nI_mul 4200 k
  obtain ⟨g0, hg0⟩ : ∃ g0, g0 = sI g 1393 0 0 (nI (4200 * k)) := ⟨_, rfl⟩
  have u0 : Upd [(1393, 0), (1395000013, 0)] g g0 := by rw [hg0]; exact (Upd.rf _ g).sI (by decide)
  obtain ⟨g1, hg1⟩ : ∃ g1, g1 = sI g0 1395000013 0 0 (hI g 1326 0 0) := ⟨_, rfl⟩
  have v0 : hI g0 1326 0 0 = hI g 1326 0 0 := by rw [u0.2 _ _ (by decide)]
  have u1 : Upd [(1393, 0), (1395000013, 0)] g g1 := by rw [hg1]; exact u0.sI (by decide)
  obtain ⟨g2, hg2⟩ : ∃ g2, g2 = sI g1 1395000013 0 1 (hI g 1327 0 0) := ⟨_, rfl⟩
  have v1 : hI g1 1327 0 0 = hI g 1327 0 0 := by rw [u1.2 _ _ (by decide)]
  have u2 : Upd [(1393, 0), (1395000013, 0)] g g2 := by rw [hg2]; exact u1.sI (by decide)
  obtain ⟨g3, hg3⟩ : ∃ g3, g3 = sI g2 1395000013 0 2 (hI g 1328 0 0) := ⟨_, rfl⟩
  have v2 : hI g2 1328 0 0 = hI g 1328 0 0 := by rw [u2.2 _ _ (by decide)]
  have u3 : Upd [(1393, 0), (1395000013, 0)] g g3 := by rw [hg3]; exact u2.sI (by decide)
  obtain ⟨g4, hg4⟩ : ∃ g4, g4 = sI g3 1395000013 0 3 (hI g 1329 0 0) := ⟨_, rfl⟩
  have v3 : hI g3 1329 0 0 = hI g 1329 0 0 := by rw [u3.2 _ _ (by decide)]
  have u4 : Upd [(1393, 0), (1395000013, 0)] g g4 := by rw [hg4]; exact u3.sI (by decide)
  obtain ⟨g5, hg5⟩ : ∃ g5, g5 = sI g4 1395000013 0 4 (hI g 1335 0 0) := ⟨_, rfl⟩
  have v4 : hI g4 1335 0 0 = hI g 1335 0 0 := by rw [u4.2 _ _ (by decide)]
  have u5 : Upd [(1393, 0), (1395000013, 0)] g g5 := by rw [hg5]; exact u4.sI (by decide)
  obtain ⟨g6, hg6⟩ : ∃ g6, g6 = sI g5 1395000013 0 5 (hI g 1336 0 0) := ⟨_, rfl⟩
  have v5 : hI g5 1336 0 0 = hI g 1336 0 0 := by rw [u5.2 _ _ (by decide)]
  have u6 : Upd [(1393, 0), (1395000013, 0)] g g6 := by rw [hg6]; exact u5.sI (by decide)
  obtain ⟨g7, hg7⟩ : ∃ g7, g7 = sI g6 1395000013 0 6 (hI g 1337 0 0) := ⟨_, rfl⟩
  have v6 : hI g6 1337 0 0 = hI g 1337 0 0 := by rw [u6.2 _ _ (by decide)]
  have u7 : Upd [(1393, 0), (1395000013, 0)] g g7 := by rw [hg7]; exact u6.sI (by decide)
  obtain ⟨g8, hg8⟩ : ∃ g8, g8 = sI g7 1395000013 0 7 (hI g 1360 0 0) := ⟨_, rfl⟩
  have v7 : hI g7 1360 0 0 = hI g 1360 0 0 := by rw [u7.2 _ _ (by decide)]
  have u8 : Upd [(1393, 0), (1395000013, 0)] g g8 := by rw [hg8]; exact u7.sI (by decide)
  obtain ⟨g9, hg9⟩ : ∃ g9, g9 = sI g8 1395000013 0 8 (hI g 1366 0 0) := ⟨_, rfl⟩
  have v8 : hI g8 1366 0 0 = hI g 1366 0 0 := by rw [u8.2 _ _ (by decide)]
  have u9 : Upd [(1393, 0), (1395000013, 0)] g g9 := by rw [hg9]; exact u8.sI (by decide)
  obtain ⟨g10, hg10⟩ : ∃ g10, g10 = sI g9 1395000013 0 9 (hI g 1367 0 0) := ⟨_, rfl⟩
  have v9 : hI g9 1367 0 0 = hI g 1367 0 0 := by rw [u9.2 _ _ (by decide)]
  have u10 : Upd [(1393, 0), (1395000013, 0)] g g10 := by rw [hg10]; exact u9.sI (by decide)
  obtain ⟨g11, hg11⟩ : ∃ g11, g11 = sI g10 1395000013 0 10 (hI g 1381 0 0) := ⟨_, rfl⟩
  have v10 : hI g10 1381 0 0 = hI g 1381 0 0 := by rw [u10.2 _ _ (by decide)]
  have u11 : Upd [(1393, 0), (1395000013, 0)] g g11 := by rw [hg11]; exact u10.sI (by decide)
  obtain ⟨g12, hg12⟩ : ∃ g12, g12 = sI g11 1395000013 0 11 (hI g 1383 0 0) := ⟨_, rfl⟩
  have v11 : hI g11 1383 0 0 = hI g 1383 0 0 := by rw [u11.2 _ _ (by decide)]
  have u12 : Upd [(1393, 0), (1395000013, 0)] g g12 := by rw [hg12]; exact u11.sI (by decide)
  obtain ⟨g13, hg13⟩ : ∃ g13, g13 = sI g12 1395000013 0 12 (hI g 1384 0 0) := ⟨_, rfl⟩
  have v12 : hI g12 1384 0 0 = hI g 1384 0 0 := by rw [u12.2 _ _ (by decide)]
  have u13 : Upd [(1393, 0), (1395000013, 0)] g g13 := by rw [hg13]; exact u12.sI (by decide)
  have hp : hI g13 1393 0 0 = nI (4200 * k) := by
    rw [hg13, hI_rn (by decide), hg12, hI_rn (by decide), hg11, hI_rn (by decide), hg10, hI_rn (by decide), hg9, hI_rn (by decide), hg8, hI_rn (by decide), hg7, hI_rn (by decide), hg6, hI_rn (by decide), hg5, hI_rn (by decide), hg4, hI_rn (by decide), hg3, hI_rn (by decide), hg2, hI_rn (by decide), hg1, hI_rn (by decide), hg0, hI_rs, up_s]
  have hs : ∀ i, i < 13 → hI g13 1395000013 0 i = hI g (mSc.getD i 0) 0 0 := fun i hi => by
    rw [hg13, hI_rs, hg12, hI_rs, hg11, hI_rs, hg10, hI_rs, hg9, hI_rs, hg8, hI_rs, hg7, hI_rs, hg6, hI_rs, hg5, hI_rs, hg4, hI_rs, hg3, hI_rs, hg2, hI_rs, hg1, hI_rs]
    rcases (show i = 0 ∨ i = 1 ∨ i = 2 ∨ i = 3 ∨ i = 4 ∨ i = 5 ∨ i = 6 ∨ i = 7 ∨ i = 8 ∨ i = 9 ∨ i = 10 ∨ i = 11 ∨ i = 12 by omega) with rfl | rfl | rfl | rfl | rfl | rfl | rfl | rfl | rfl | rfl | rfl | rfl | rfl
    · rw [up_n (by decide), up_n (by decide), up_n (by decide), up_n (by decide), up_n (by decide), up_n (by decide), up_n (by decide), up_n (by decide), up_n (by decide), up_n (by decide), up_n (by decide), up_n (by decide), up_s]; rfl
    · rw [up_n (by decide), up_n (by decide), up_n (by decide), up_n (by decide), up_n (by decide), up_n (by decide), up_n (by decide), up_n (by decide), up_n (by decide), up_n (by decide), up_n (by decide), up_s]; rfl
    · rw [up_n (by decide), up_n (by decide), up_n (by decide), up_n (by decide), up_n (by decide), up_n (by decide), up_n (by decide), up_n (by decide), up_n (by decide), up_n (by decide), up_s]; rfl
    · rw [up_n (by decide), up_n (by decide), up_n (by decide), up_n (by decide), up_n (by decide), up_n (by decide), up_n (by decide), up_n (by decide), up_n (by decide), up_s]; rfl
    · rw [up_n (by decide), up_n (by decide), up_n (by decide), up_n (by decide), up_n (by decide), up_n (by decide), up_n (by decide), up_n (by decide), up_s]; rfl
    · rw [up_n (by decide), up_n (by decide), up_n (by decide), up_n (by decide), up_n (by decide), up_n (by decide), up_n (by decide), up_s]; rfl
    · rw [up_n (by decide), up_n (by decide), up_n (by decide), up_n (by decide), up_n (by decide), up_n (by decide), up_s]; rfl
    · rw [up_n (by decide), up_n (by decide), up_n (by decide), up_n (by decide), up_n (by decide), up_s]; rfl
    · rw [up_n (by decide), up_n (by decide), up_n (by decide), up_n (by decide), up_s]; rfl
    · rw [up_n (by decide), up_n (by decide), up_n (by decide), up_s]; rfl
    · rw [up_n (by decide), up_n (by decide), up_s]; rfl
    · rw [up_n (by decide), up_s]; rfl
    · rw [up_s]; rfl
  obtain ⟨g14, e14, u14, c14, s14⟩ := lys_ok (L := L) (scr := scr) (d := d) mL (4200 * k) g13 mL_ok hp (show 4200 * k + 3107 ≤ 12600 by omega)
  have i14 : hI g14 1392 0 0 = nI k := by rw [u14.2 _ _ (by decide), u13.2 _ _ (by decide)]; exact ei
  refine ⟨g13, sI g14 1392 0 0 (nI (k + 1)), u13, hs, r_M_image _ _ (Sm.ret ?_), ((u13.mono (by decide)).tr (u14.mono (by decide))).sI (by decide), by rw [hI_rs, up_s], fun c hc => ?_, ?_⟩
  · rw [t_M_image_0, ei, if_neg (show ¬ nI k = 3 from fun z => (show k ≠ 3 by omega) ((nI_eq (b := 3) (by omega) (by decide)).mp z)), ek, ← hg0]
    rw [wr_M_some (i := 0) (by decide), show ix (0 : Int32) = 0 by decide, v0, ← hg1]
    rw [wr_M_some (i := 1) (by decide), show ix (1 : Int32) = 1 by decide, v1, ← hg2]
    rw [wr_M_some (i := 2) (by decide), show ix (2 : Int32) = 2 by decide, v2, ← hg3]
    rw [wr_M_some (i := 3) (by decide), show ix (3 : Int32) = 3 by decide, v3, ← hg4]
    rw [wr_M_some (i := 4) (by decide), show ix (4 : Int32) = 4 by decide, v4, ← hg5]
    rw [wr_M_some (i := 5) (by decide), show ix (5 : Int32) = 5 by decide, v5, ← hg6]
    rw [wr_M_some (i := 6) (by decide), show ix (6 : Int32) = 6 by decide, v6, ← hg7]
    rw [wr_M_some (i := 7) (by decide), show ix (7 : Int32) = 7 by decide, v7, ← hg8]
    rw [wr_M_some (i := 8) (by decide), show ix (8 : Int32) = 8 by decide, v8, ← hg9]
    rw [wr_M_some (i := 9) (by decide), show ix (9 : Int32) = 9 by decide, v9, ← hg10]
    rw [wr_M_some (i := 10) (by decide), show ix (10 : Int32) = 10 by decide, v10, ← hg11]
    rw [wr_M_some (i := 11) (by decide), show ix (11 : Int32) = 11 by decide, v11, ← hg12]
    rw [wr_M_some (i := 12) (by decide), show ix (12 : Int32) = 12 by decide, v12, ← hg13]
    refine Eq.trans (show _ = lysT (E L scr (d + 1)) mL g13 (fun h50 => some (.inr (some (vI ((hI (sI h50 1392 0 0 ((hI h50 1392 0 0) + 1)) 1392 0 0) - 1)), sI h50 1392 0 0 ((hI h50 1392 0 0) + 1)))) from rfl) ?_
    rw [e14, i14, nI_1, hI_rs, up_s, show nI (k + 1) - 1 = nI k from nI_pred k]
  · rw [hI_rn (by decide), c14 c hc, u13.2 _ _ (by decide)]
  · rw [hI_rn (by decide)]; exact s14
theorem c_M_restore {v : Nat → Nat → Int32} {j k : Nat} {g : MH} (hj : j < k) (hk : k ≤ 3) (ei : hI g 1392 0 0 = nI k) (sg : Segs v mL (4200 * j) (hI g 1394012600 0)) : ∃ g2, E L scr (d + 2) 331 [vR 900012 0, vI (nI j)] g = some (some (vI 1), g2) ∧ g2.2 = g.2 ∧ (∀ a b, b ≠ 0 ∨ (a ≠ 1393 ∧ a ∉ mL.map Prod.fst ∧ a ∉ mSc) → hI g2 a b = hI g a b) ∧ (∀ q, q ∈ mL2 → hI g2 q.1 0 = cpN q.2 (v q.1) (hI g q.1 0)) ∧ ∀ i, i < 13 → hI g2 (mSc.getD i 0) 0 = up (hI g (mSc.getD i 0) 0) 0 (v 1395000013 i) := by
  have ek : (4200 : Int32) * nI j = nI (4200 * j) := nI_mul 4200 j
  have hin : inB (nI j) 0 (nI k - 1) = true := by
    rw [show nI k - 1 = nI (k - 1) from nI_sub (b := 1) (by omega), show inB (nI j) 0 (nI (k - 1)) = _ from inB_nI (a := 0) (by omega) (by decide) (by omega)]
    exact decide_eq_true (by omega)
  obtain ⟨g0, hg0⟩ : ∃ g0, g0 = sI g 1393 0 0 (nI (4200 * j)) := ⟨_, rfl⟩
  have p0 : hI g0 1393 0 0 = nI (4200 * j) := by rw [hg0, hI_rs, up_s]
  have o0 : ∀ a b, (a ≠ 1393 ∨ b ≠ 0) → hI g0 a b = hI g a b := fun a b h1 => by rw [hg0, hI_rn (fun z => h1.elim (fun y => y z.1) (fun y => y z.2))]
  have e1 := c_M_fetches (L := L) (scr := scr) (d := d) (s := 1395000013) (N := 13) (p := 4200 * j) (g := g0) rfl (by decide) (by decide) (by decide) (by decide) p0 (by omega)
  obtain ⟨f0, hf0⟩ : ∃ f0, f0 = sI (withR g0 [(1395000013, 0, cpN 13 (fun c => hI g0 1394012600 0 (4200 * j + c)) (hI g0 1395000013 0))]) 1393 0 0 (nI (4200 * j + 13)) := ⟨_, rfl⟩
  rw [← hf0] at e1
  have s0 : ∀ i, i < 13 → hI f0 1395000013 0 i = v 1395000013 i := fun i hi => by
    rw [hf0, hI_rn (by decide), withR_hit]
    show (if i < 13 then hI g0 1394012600 0 (4200 * j + i) else _) = _
    rw [if_pos hi, o0 _ _ (Or.inl (by decide))]; exact sg.1 i hi
  have q0 : ∀ a b, ((a ≠ 1393 ∧ a ≠ 1395000013) ∨ b ≠ 0) → hI f0 a b = hI g a b := fun a b h1 => by
    rw [hf0, hI_rn (fun z => h1.elim (fun y => y.1 z.1) (fun y => y z.2)), withR_miss (fun z => h1.elim (fun y => y.2 z.1) (fun y => y z.2)), withR_nil, o0 a b (h1.imp (fun y => y.1) id)]
  obtain ⟨f1, hf1⟩ : ∃ f1, f1 = sI f0 1326 0 0 (v 1395000013 0) := ⟨_, rfl⟩
  have s1 : ∀ i, i < 13 → hI f1 1395000013 0 i = v 1395000013 i := fun i hi => by rw [hf1, hI_rn (by decide)]; exact s0 i hi
  obtain ⟨f2, hf2⟩ : ∃ f2, f2 = sI f1 1327 0 0 (v 1395000013 1) := ⟨_, rfl⟩
  have s2 : ∀ i, i < 13 → hI f2 1395000013 0 i = v 1395000013 i := fun i hi => by rw [hf2, hI_rn (by decide)]; exact s1 i hi
  obtain ⟨f3, hf3⟩ : ∃ f3, f3 = sI f2 1328 0 0 (v 1395000013 2) := ⟨_, rfl⟩
  have s3 : ∀ i, i < 13 → hI f3 1395000013 0 i = v 1395000013 i := fun i hi => by rw [hf3, hI_rn (by decide)]; exact s2 i hi
  obtain ⟨f4, hf4⟩ : ∃ f4, f4 = sI f3 1329 0 0 (v 1395000013 3) := ⟨_, rfl⟩
  have s4 : ∀ i, i < 13 → hI f4 1395000013 0 i = v 1395000013 i := fun i hi => by rw [hf4, hI_rn (by decide)]; exact s3 i hi
  obtain ⟨f5, hf5⟩ : ∃ f5, f5 = sI f4 1335 0 0 (v 1395000013 4) := ⟨_, rfl⟩
  have s5 : ∀ i, i < 13 → hI f5 1395000013 0 i = v 1395000013 i := fun i hi => by rw [hf5, hI_rn (by decide)]; exact s4 i hi
  obtain ⟨f6, hf6⟩ : ∃ f6, f6 = sI f5 1336 0 0 (v 1395000013 5) := ⟨_, rfl⟩
  have s6 : ∀ i, i < 13 → hI f6 1395000013 0 i = v 1395000013 i := fun i hi => by rw [hf6, hI_rn (by decide)]; exact s5 i hi
  obtain ⟨f7, hf7⟩ : ∃ f7, f7 = sI f6 1337 0 0 (v 1395000013 6) := ⟨_, rfl⟩
  have s7 : ∀ i, i < 13 → hI f7 1395000013 0 i = v 1395000013 i := fun i hi => by rw [hf7, hI_rn (by decide)]; exact s6 i hi
  obtain ⟨f8, hf8⟩ : ∃ f8, f8 = sI f7 1360 0 0 (v 1395000013 7) := ⟨_, rfl⟩
  have s8 : ∀ i, i < 13 → hI f8 1395000013 0 i = v 1395000013 i := fun i hi => by rw [hf8, hI_rn (by decide)]; exact s7 i hi
  obtain ⟨f9, hf9⟩ : ∃ f9, f9 = sI f8 1366 0 0 (v 1395000013 8) := ⟨_, rfl⟩
  have s9 : ∀ i, i < 13 → hI f9 1395000013 0 i = v 1395000013 i := fun i hi => by rw [hf9, hI_rn (by decide)]; exact s8 i hi
  obtain ⟨f10, hf10⟩ : ∃ f10, f10 = sI f9 1367 0 0 (v 1395000013 9) := ⟨_, rfl⟩
  have s10 : ∀ i, i < 13 → hI f10 1395000013 0 i = v 1395000013 i := fun i hi => by rw [hf10, hI_rn (by decide)]; exact s9 i hi
  obtain ⟨f11, hf11⟩ : ∃ f11, f11 = sI f10 1381 0 0 (v 1395000013 10) := ⟨_, rfl⟩
  have s11 : ∀ i, i < 13 → hI f11 1395000013 0 i = v 1395000013 i := fun i hi => by rw [hf11, hI_rn (by decide)]; exact s10 i hi
  obtain ⟨f12, hf12⟩ : ∃ f12, f12 = sI f11 1383 0 0 (v 1395000013 11) := ⟨_, rfl⟩
  have s12 : ∀ i, i < 13 → hI f12 1395000013 0 i = v 1395000013 i := fun i hi => by rw [hf12, hI_rn (by decide)]; exact s11 i hi
  obtain ⟨f13, hf13⟩ : ∃ f13, f13 = sI f12 1384 0 0 (v 1395000013 12) := ⟨_, rfl⟩
  have s13 : ∀ i, i < 13 → hI f13 1395000013 0 i = v 1395000013 i := fun i hi => by rw [hf13, hI_rn (by decide)]; exact s12 i hi
  have oo : ∀ a b, (a ∉ mSc ∨ b ≠ 0) → hI f13 a b = hI f0 a b := fun a b h1 => by
    rw [hf13, hI_rn (fun z => h1.elim (fun y => y (by rw [z.1]; decide)) (fun y => y z.2)), hf12, hI_rn (fun z => h1.elim (fun y => y (by rw [z.1]; decide)) (fun y => y z.2)), hf11, hI_rn (fun z => h1.elim (fun y => y (by rw [z.1]; decide)) (fun y => y z.2)), hf10, hI_rn (fun z => h1.elim (fun y => y (by rw [z.1]; decide)) (fun y => y z.2)), hf9, hI_rn (fun z => h1.elim (fun y => y (by rw [z.1]; decide)) (fun y => y z.2)), hf8, hI_rn (fun z => h1.elim (fun y => y (by rw [z.1]; decide)) (fun y => y z.2)), hf7, hI_rn (fun z => h1.elim (fun y => y (by rw [z.1]; decide)) (fun y => y z.2)), hf6, hI_rn (fun z => h1.elim (fun y => y (by rw [z.1]; decide)) (fun y => y z.2)), hf5, hI_rn (fun z => h1.elim (fun y => y (by rw [z.1]; decide)) (fun y => y z.2)), hf4, hI_rn (fun z => h1.elim (fun y => y (by rw [z.1]; decide)) (fun y => y z.2)), hf3, hI_rn (fun z => h1.elim (fun y => y (by rw [z.1]; decide)) (fun y => y z.2)), hf2, hI_rn (fun z => h1.elim (fun y => y (by rw [z.1]; decide)) (fun y => y z.2)), hf1, hI_rn (fun z => h1.elim (fun y => y (by rw [z.1]; decide)) (fun y => y z.2))]
  have sv : ∀ i, i < 13 → hI f13 (mSc.getD i 0) 0 = up (hI g (mSc.getD i 0) 0) 0 (v 1395000013 i) := fun i hi => by
    rcases (show i = 0 ∨ i = 1 ∨ i = 2 ∨ i = 3 ∨ i = 4 ∨ i = 5 ∨ i = 6 ∨ i = 7 ∨ i = 8 ∨ i = 9 ∨ i = 10 ∨ i = 11 ∨ i = 12 by omega) with rfl | rfl | rfl | rfl | rfl | rfl | rfl | rfl | rfl | rfl | rfl | rfl | rfl
    · show hI f13 1326 0 = up (hI g 1326 0) 0 (v 1395000013 0)
      rw [hf13, hI_rn (by decide), hf12, hI_rn (by decide), hf11, hI_rn (by decide), hf10, hI_rn (by decide), hf9, hI_rn (by decide), hf8, hI_rn (by decide), hf7, hI_rn (by decide), hf6, hI_rn (by decide), hf5, hI_rn (by decide), hf4, hI_rn (by decide), hf3, hI_rn (by decide), hf2, hI_rn (by decide), hf1, hI_rs, q0 _ _ (Or.inl (by decide))]
    · show hI f13 1327 0 = up (hI g 1327 0) 0 (v 1395000013 1)
      rw [hf13, hI_rn (by decide), hf12, hI_rn (by decide), hf11, hI_rn (by decide), hf10, hI_rn (by decide), hf9, hI_rn (by decide), hf8, hI_rn (by decide), hf7, hI_rn (by decide), hf6, hI_rn (by decide), hf5, hI_rn (by decide), hf4, hI_rn (by decide), hf3, hI_rn (by decide), hf2, hI_rs, hf1, hI_rn (by decide), q0 _ _ (Or.inl (by decide))]
    · show hI f13 1328 0 = up (hI g 1328 0) 0 (v 1395000013 2)
      rw [hf13, hI_rn (by decide), hf12, hI_rn (by decide), hf11, hI_rn (by decide), hf10, hI_rn (by decide), hf9, hI_rn (by decide), hf8, hI_rn (by decide), hf7, hI_rn (by decide), hf6, hI_rn (by decide), hf5, hI_rn (by decide), hf4, hI_rn (by decide), hf3, hI_rs, hf2, hI_rn (by decide), hf1, hI_rn (by decide), q0 _ _ (Or.inl (by decide))]
    · show hI f13 1329 0 = up (hI g 1329 0) 0 (v 1395000013 3)
      rw [hf13, hI_rn (by decide), hf12, hI_rn (by decide), hf11, hI_rn (by decide), hf10, hI_rn (by decide), hf9, hI_rn (by decide), hf8, hI_rn (by decide), hf7, hI_rn (by decide), hf6, hI_rn (by decide), hf5, hI_rn (by decide), hf4, hI_rs, hf3, hI_rn (by decide), hf2, hI_rn (by decide), hf1, hI_rn (by decide), q0 _ _ (Or.inl (by decide))]
    · show hI f13 1335 0 = up (hI g 1335 0) 0 (v 1395000013 4)
      rw [hf13, hI_rn (by decide), hf12, hI_rn (by decide), hf11, hI_rn (by decide), hf10, hI_rn (by decide), hf9, hI_rn (by decide), hf8, hI_rn (by decide), hf7, hI_rn (by decide), hf6, hI_rn (by decide), hf5, hI_rs, hf4, hI_rn (by decide), hf3, hI_rn (by decide), hf2, hI_rn (by decide), hf1, hI_rn (by decide), q0 _ _ (Or.inl (by decide))]
    · show hI f13 1336 0 = up (hI g 1336 0) 0 (v 1395000013 5)
      rw [hf13, hI_rn (by decide), hf12, hI_rn (by decide), hf11, hI_rn (by decide), hf10, hI_rn (by decide), hf9, hI_rn (by decide), hf8, hI_rn (by decide), hf7, hI_rn (by decide), hf6, hI_rs, hf5, hI_rn (by decide), hf4, hI_rn (by decide), hf3, hI_rn (by decide), hf2, hI_rn (by decide), hf1, hI_rn (by decide), q0 _ _ (Or.inl (by decide))]
    · show hI f13 1337 0 = up (hI g 1337 0) 0 (v 1395000013 6)
      rw [hf13, hI_rn (by decide), hf12, hI_rn (by decide), hf11, hI_rn (by decide), hf10, hI_rn (by decide), hf9, hI_rn (by decide), hf8, hI_rn (by decide), hf7, hI_rs, hf6, hI_rn (by decide), hf5, hI_rn (by decide), hf4, hI_rn (by decide), hf3, hI_rn (by decide), hf2, hI_rn (by decide), hf1, hI_rn (by decide), q0 _ _ (Or.inl (by decide))]
    · show hI f13 1360 0 = up (hI g 1360 0) 0 (v 1395000013 7)
      rw [hf13, hI_rn (by decide), hf12, hI_rn (by decide), hf11, hI_rn (by decide), hf10, hI_rn (by decide), hf9, hI_rn (by decide), hf8, hI_rs, hf7, hI_rn (by decide), hf6, hI_rn (by decide), hf5, hI_rn (by decide), hf4, hI_rn (by decide), hf3, hI_rn (by decide), hf2, hI_rn (by decide), hf1, hI_rn (by decide), q0 _ _ (Or.inl (by decide))]
    · show hI f13 1366 0 = up (hI g 1366 0) 0 (v 1395000013 8)
      rw [hf13, hI_rn (by decide), hf12, hI_rn (by decide), hf11, hI_rn (by decide), hf10, hI_rn (by decide), hf9, hI_rs, hf8, hI_rn (by decide), hf7, hI_rn (by decide), hf6, hI_rn (by decide), hf5, hI_rn (by decide), hf4, hI_rn (by decide), hf3, hI_rn (by decide), hf2, hI_rn (by decide), hf1, hI_rn (by decide), q0 _ _ (Or.inl (by decide))]
    · show hI f13 1367 0 = up (hI g 1367 0) 0 (v 1395000013 9)
      rw [hf13, hI_rn (by decide), hf12, hI_rn (by decide), hf11, hI_rn (by decide), hf10, hI_rs, hf9, hI_rn (by decide), hf8, hI_rn (by decide), hf7, hI_rn (by decide), hf6, hI_rn (by decide), hf5, hI_rn (by decide), hf4, hI_rn (by decide), hf3, hI_rn (by decide), hf2, hI_rn (by decide), hf1, hI_rn (by decide), q0 _ _ (Or.inl (by decide))]
    · show hI f13 1381 0 = up (hI g 1381 0) 0 (v 1395000013 10)
      rw [hf13, hI_rn (by decide), hf12, hI_rn (by decide), hf11, hI_rs, hf10, hI_rn (by decide), hf9, hI_rn (by decide), hf8, hI_rn (by decide), hf7, hI_rn (by decide), hf6, hI_rn (by decide), hf5, hI_rn (by decide), hf4, hI_rn (by decide), hf3, hI_rn (by decide), hf2, hI_rn (by decide), hf1, hI_rn (by decide), q0 _ _ (Or.inl (by decide))]
    · show hI f13 1383 0 = up (hI g 1383 0) 0 (v 1395000013 11)
      rw [hf13, hI_rn (by decide), hf12, hI_rs, hf11, hI_rn (by decide), hf10, hI_rn (by decide), hf9, hI_rn (by decide), hf8, hI_rn (by decide), hf7, hI_rn (by decide), hf6, hI_rn (by decide), hf5, hI_rn (by decide), hf4, hI_rn (by decide), hf3, hI_rn (by decide), hf2, hI_rn (by decide), hf1, hI_rn (by decide), q0 _ _ (Or.inl (by decide))]
    · show hI f13 1384 0 = up (hI g 1384 0) 0 (v 1395000013 12)
      rw [hf13, hI_rs, hf12, hI_rn (by decide), hf11, hI_rn (by decide), hf10, hI_rn (by decide), hf9, hI_rn (by decide), hf8, hI_rn (by decide), hf7, hI_rn (by decide), hf6, hI_rn (by decide), hf5, hI_rn (by decide), hf4, hI_rn (by decide), hf3, hI_rn (by decide), hf2, hI_rn (by decide), hf1, hI_rn (by decide), q0 _ _ (Or.inl (by decide))]
  have hp : hI f13 1393 0 0 = nI (4200 * j + 13) := by rw [oo _ _ (Or.inl (by decide)), hf0, hI_rs, up_s]
  obtain ⟨g2, e2, w2, -, k2, r2⟩ := fch_ok (L := L) (scr := scr) (d := d) (v := v) mL2 (4200 * j + 13) f13 (fun q hq => mL_ok q (List.mem_cons_of_mem _ hq)) (by decide) hp (show 4200 * j + 13 + 3094 ≤ 12600 by omega) (by rw [oo _ _ (Or.inl (by decide)), q0 _ _ (Or.inl (by decide))]; exact sg.2)
  refine ⟨g2, r_M_restore _ _ _ (Sm.ret ?_), ?_, fun a b h1 => ?_, fun q hq => ?_, fun i hi => ?_⟩
  · rw [t_M_restore_0, ei, c_M_isIn, clI_ok, hin, itT, ek, ← hg0, show (13 : Int32) = nI 13 from rfl, e1, clV_ok]
    rw [rd_M_some (i := 0) (by decide), show ix (0 : Int32) = 0 by decide, s0 0 (by decide), ← hf1]
    rw [rd_M_some (i := 1) (by decide), show ix (1 : Int32) = 1 by decide, s1 1 (by decide), ← hf2]
    rw [rd_M_some (i := 2) (by decide), show ix (2 : Int32) = 2 by decide, s2 2 (by decide), ← hf3]
    rw [rd_M_some (i := 3) (by decide), show ix (3 : Int32) = 3 by decide, s3 3 (by decide), ← hf4]
    rw [rd_M_some (i := 4) (by decide), show ix (4 : Int32) = 4 by decide, s4 4 (by decide), ← hf5]
    rw [rd_M_some (i := 5) (by decide), show ix (5 : Int32) = 5 by decide, s5 5 (by decide), ← hf6]
    rw [rd_M_some (i := 6) (by decide), show ix (6 : Int32) = 6 by decide, s6 6 (by decide), ← hf7]
    rw [rd_M_some (i := 7) (by decide), show ix (7 : Int32) = 7 by decide, s7 7 (by decide), ← hf8]
    rw [rd_M_some (i := 8) (by decide), show ix (8 : Int32) = 8 by decide, s8 8 (by decide), ← hf9]
    rw [rd_M_some (i := 9) (by decide), show ix (9 : Int32) = 9 by decide, s9 9 (by decide), ← hf10]
    rw [rd_M_some (i := 10) (by decide), show ix (10 : Int32) = 10 by decide, s10 10 (by decide), ← hf11]
    rw [rd_M_some (i := 11) (by decide), show ix (11 : Int32) = 11 by decide, s11 11 (by decide), ← hf12]
    rw [rd_M_some (i := 12) (by decide), show ix (12 : Int32) = 12 by decide, s12 12 (by decide), ← hf13]
    refine Eq.trans (show _ = fchT (E L scr (d + 1)) mL2 f13 (fun h52 => rtZ 1 h52) from rfl) ?_
    rw [e2]; rfl
  · rw [w2, hf13, hf12, hf11, hf10, hf9, hf8, hf7, hf6, hf5, hf4, hf3, hf2, hf1, hf0, hg0]; rfl
  · rw [k2 a b (h1.symm.imp (fun y => y.1) id) (h1.symm.imp (fun y z => y.2.1 (List.mem_cons_of_mem _ z)) id), oo a b (h1.symm.imp (fun y => y.2.2) id), q0 a b (h1.symm.imp (fun y => ⟨y.1, fun z => y.2.1 (by rw [z]; exact List.mem_cons_self)⟩) id)]
  · rw [r2 q hq, oo q.1 0 (Or.inl ((by decide : ∀ q, q ∈ mL2 → q.1 ∉ mSc) q hq)), q0 q.1 0 (Or.inl ((by decide : ∀ q, q ∈ mL2 → q.1 ≠ 1393 ∧ q.1 ≠ 1395000013) q hq))]
  · rw [k2 _ 0 (Or.inl ((by decide : ∀ i : Fin 13, mSc.getD i.val 0 ≠ 1393) ⟨i, hi⟩)) (Or.inl ((by decide : ∀ i : Fin 13, mSc.getD i.val 0 ∉ mL2.map Prod.fst) ⟨i, hi⟩))]; exact sv i hi
end MImage

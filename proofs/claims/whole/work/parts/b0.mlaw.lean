/-! LAWS kept, on the reference's side: the draft copied to its place -/
abbrev WMl : List (Nat × Nat) := [(1308000384, 0), (1310000006, 0), (1317002700, 0), (1318002700, 0), (1319002700, 0), (1309000006, 0), (1300, 0)] ++ WCl
/-- by how much steps move -/
theorem shl_i : ∀ l : Fin 5, (450 : Int32) * (nI l.val - 5) + 2250 = nI (450 * l.val) := by decide +kernel
theorem shl_add {l a : Nat} (hl : l < 5) (ha : 2250 ≤ a) : nI a + (450 : Int32) * (nI l - 5) = nI (a - 2250 + 450 * l) := by
  have e : nI a = nI (a - 2250) + 2250 := by
    rw [show (2250 : Int32) = nI 2250 from rfl, nI_add, Nat.sub_add_cancel ha]
  rw [e, Int32.add_assoc, Int32.add_comm 2250, shl_i ⟨l, hl⟩, nI_add]
def clV6 (h : MH) (l : Nat) : List (Nat × (Nat → Int32)) := [(1311000240, fun i => hI h 1311000240 0 (200 + i)), (1312000240, fun i => hI h 1312000240 0 (200 + i)), (1313000240, fun i => hI h 1313000240 0 (200 + i)), (1314000240, fun i => hI h 1314000240 0 (200 + i)), (1315000240, fun i => hI h 1315000240 0 (200 + i) + (450 : Int32) * (nI l - 5)), (1316000240, fun i => hI h 1316000240 0 (200 + i) + (450 : Int32) * (nI l - 5))]
/-- rows of rules, the first k of them copied -/
def clH (h : MH) (l k : Nat) : MH := withR h [(1311000240, 0, stO (hI h 1311000240 0) (40 * l) (fun i => hI h 1311000240 0 (200 + i)) k), (1312000240, 0, stO (hI h 1312000240 0) (40 * l) (fun i => hI h 1312000240 0 (200 + i)) k), (1313000240, 0, stO (hI h 1313000240 0) (40 * l) (fun i => hI h 1313000240 0 (200 + i)) k), (1314000240, 0, stO (hI h 1314000240 0) (40 * l) (fun i => hI h 1314000240 0 (200 + i)) k), (1315000240, 0, stO (hI h 1315000240 0) (40 * l) (fun i => hI h 1315000240 0 (200 + i) + (450 : Int32) * (nI l - 5)) k), (1316000240, 0, stO (hI h 1316000240 0) (40 * l) (fun i => hI h 1316000240 0 (200 + i) + (450 : Int32) * (nI l - 5)) k)]
/-- rows of steps, the first k of them copied -/
def opH (h : MH) (l k : Nat) : MH := withR h [(1317002700, 0, stO (hI h 1317002700 0) (450 * l) (fun i => hI h 1317002700 0 (2250 + i)) k), (1318002700, 0, stO (hI h 1318002700 0) (450 * l) (fun i => hI h 1318002700 0 (2250 + i)) k), (1319002700, 0, stO (hI h 1319002700 0) (450 * l) (fun i => hI h 1319002700 0 (2250 + i)) k)]
theorem clH_0 (h : MH) (l : Nat) : clH h l 0 = h := by
  unfold clH
  refine withR_id (fun q hq => ?_)
  simp only [List.mem_cons, List.not_mem_nil, or_false] at hq
  rcases hq with rfl | rfl | rfl | rfl | rfl | rfl <;> (dsimp only; exact stO_0 _ _ _)
theorem opH_0 (h : MH) (l : Nat) : opH h l 0 = h := by
  unfold opH
  refine withR_id (fun q hq => ?_)
  simp only [List.mem_cons, List.not_mem_nil, or_false] at hq
  rcases hq with rfl | rfl | rfl <;> (dsimp only; exact stO_0 _ _ _)
theorem clH_u {h : MH} {l k : Nat} : Upd WCl h (clH h l k) := withR_Upd (fun q hq => by
  simp only [List.mem_cons, List.not_mem_nil, or_false] at hq
  rcases hq with rfl | rfl | rfl | rfl | rfl | rfl <;> (dsimp only; decide))
theorem opH_u {h : MH} {l k : Nat} : Upd [(1317002700, 0), (1318002700, 0), (1319002700, 0)] h (opH h l k) := withR_Upd (fun q hq => by
  simp only [List.mem_cons, List.not_mem_nil, or_false] at hq
  rcases hq with rfl | rfl | rfl <;> (dsimp only; decide))
theorem clH_r {h : MH} {l k : Nat} : hI (clH h l k) 1311000240 0 = stO (hI h 1311000240 0) (40 * l) (fun i => hI h 1311000240 0 (200 + i)) k ∧ hI (clH h l k) 1312000240 0 = stO (hI h 1312000240 0) (40 * l) (fun i => hI h 1312000240 0 (200 + i)) k ∧ hI (clH h l k) 1313000240 0 = stO (hI h 1313000240 0) (40 * l) (fun i => hI h 1313000240 0 (200 + i)) k ∧ hI (clH h l k) 1314000240 0 = stO (hI h 1314000240 0) (40 * l) (fun i => hI h 1314000240 0 (200 + i)) k ∧ hI (clH h l k) 1315000240 0 = stO (hI h 1315000240 0) (40 * l) (fun i => hI h 1315000240 0 (200 + i) + (450 : Int32) * (nI l - 5)) k ∧ hI (clH h l k) 1316000240 0 = stO (hI h 1316000240 0) (40 * l) (fun i => hI h 1316000240 0 (200 + i) + (450 : Int32) * (nI l - 5)) k := by
  unfold clH
  exact ⟨rfl, rfl, rfl, rfl, rfl, rfl⟩
theorem opH_r {h : MH} {l k : Nat} : hI (opH h l k) 1317002700 0 = stO (hI h 1317002700 0) (450 * l) (fun i => hI h 1317002700 0 (2250 + i)) k ∧ hI (opH h l k) 1318002700 0 = stO (hI h 1318002700 0) (450 * l) (fun i => hI h 1318002700 0 (2250 + i)) k ∧ hI (opH h l k) 1319002700 0 = stO (hI h 1319002700 0) (450 * l) (fun i => hI h 1319002700 0 (2250 + i)) k := by
  unfold opH
  exact ⟨rfl, rfl, rfl⟩
theorem opH_s {h : MH} {l k : Nat} : sI (sI (sI (opH h l k) 1317002700 0 (450 * l + k) (hI h 1317002700 0 (2250 + k))) 1318002700 0 (450 * l + k) (hI h 1318002700 0 (2250 + k))) 1319002700 0 (450 * l + k) (hI h 1319002700 0 (2250 + k)) = opH h l (k + 1) := by
  unfold opH
  rw [withR_set, withR_sI (by decide) withR_set, withR_sI (by decide) (withR_sI (by decide) withR_set)]
  rw [stO_s (hI h 1317002700 0) (450 * l) (fun i => hI h 1317002700 0 (2250 + i)) k, stO_s (hI h 1318002700 0) (450 * l) (fun i => hI h 1318002700 0 (2250 + i)) k, stO_s (hI h 1319002700 0) (450 * l) (fun i => hI h 1319002700 0 (2250 + i)) k]
theorem clH_s {h : MH} {l k : Nat} : sI (sI (sI (sI (sI (sI (clH h l k) 1311000240 0 (40 * l + k) (hI h 1311000240 0 (200 + k))) 1312000240 0 (40 * l + k) (hI h 1312000240 0 (200 + k))) 1313000240 0 (40 * l + k) (hI h 1313000240 0 (200 + k))) 1314000240 0 (40 * l + k) (hI h 1314000240 0 (200 + k))) 1315000240 0 (40 * l + k) (hI h 1315000240 0 (200 + k) + (450 : Int32) * (nI l - 5))) 1316000240 0 (40 * l + k) (hI h 1316000240 0 (200 + k) + (450 : Int32) * (nI l - 5)) = clH h l (k + 1) := by
  unfold clH
  rw [withR_set, withR_sI (by decide) withR_set, withR_sI (by decide) (withR_sI (by decide) withR_set), withR_sI (by decide) (withR_sI (by decide) (withR_sI (by decide) withR_set)), withR_sI (by decide) (withR_sI (by decide) (withR_sI (by decide) (withR_sI (by decide) withR_set))), withR_sI (by decide) (withR_sI (by decide) (withR_sI (by decide) (withR_sI (by decide) (withR_sI (by decide) withR_set))))]
  rw [stO_s (hI h 1311000240 0) (40 * l) (fun i => hI h 1311000240 0 (200 + i)) k, stO_s (hI h 1312000240 0) (40 * l) (fun i => hI h 1312000240 0 (200 + i)) k, stO_s (hI h 1313000240 0) (40 * l) (fun i => hI h 1313000240 0 (200 + i)) k, stO_s (hI h 1314000240 0) (40 * l) (fun i => hI h 1314000240 0 (200 + i)) k, stO_s (hI h 1315000240 0) (40 * l) (fun i => hI h 1315000240 0 (200 + i) + (450 : Int32) * (nI l - 5)) k, stO_s (hI h 1316000240 0) (40 * l) (fun i => hI h 1316000240 0 (200 + i) + (450 : Int32) * (nI l - 5)) k]
section MLaw
variable {L : Nat} {scr : Nat → Int32} {d : Nat}
theorem m_law9 {h : MH} {l c : Nat} (x1 dy : Int32) (hl : l < 5) (hc : c ≤ 300) (el : hI h 1300 0 0 = nI l) (es : hI h 1302 0 0 = nI (2250 + c)) (z5 z6 : Option MV) : Sm L scr d B_M_law C_M_law 9 [some (vR 900012 0), some (vI x1), some (vI dy), some (vI ((450 : Int32) * (nI l - 5))), some (vI 2250), z5, z6] [] h (some (vI (nI l)), sI (sI (opH h l c) 1309000006 0 l dy) 1300 0 0 (nI (l + 1))) := by
  have key := (Sm.for (L := L) (scr := scr) (d := d) (bs := B_M_law) (cs := C_M_law) (t := 9) (lo := fun k => [some (vR 900012 0), some (vI x1), some (vI dy), some (vI ((450 : Int32) * (nI l - 5))), some (vI (nI (2250 + k))), z5, z6]) (hh := fun k => opH h l k) (r := (some (vI (nI l)), sI (sI (opH h l c) 1309000006 0 l dy) 1300 0 0 (nI (l + 1)))) c (fun k hk => by
    have es2 : hI (opH h l k) 1302 0 0 = nI (2250 + c) := by rw [opH_u.2 _ _ (by decide)]; exact es
    have ob1 : ¬ oob (nI (2250 + k)) 2700 := oob_nI (by omega) (by decide)
    have ix1 : ix (nI (2250 + k)) = 2250 + k := ix_nI (by omega)
    have sh : nI (2250 + k) + (450 : Int32) * (nI l - 5) = nI (450 * l + k) := by rw [shl_add hl (by omega), show 2250 + k - 2250 + 450 * l = 450 * l + k by omega]
    have ob2 : ¬ oob (nI (450 * l + k)) 2700 := oob_nI (by omega) (by decide)
    have ix2 : ix (nI (450 * l + k)) = 450 * l + k := ix_nI (by omega)
    obtain ⟨r1, r2, r3⟩ := opH_r (h := h) (l := l) (k := k)
    have v1 : hI (opH h l k) 1317002700 0 (2250 + k) = hI h 1317002700 0 (2250 + k) := by rw [r1, stO_out (Or.inr (by omega))]
    have v2 : hI (opH h l k) 1318002700 0 (2250 + k) = hI h 1318002700 0 (2250 + k) := by rw [r2, stO_out (Or.inr (by omega))]
    have v3 : hI (opH h l k) 1319002700 0 (2250 + k) = hI h 1319002700 0 (2250 + k) := by rw [r3, stO_out (Or.inr (by omega))]
    show dn L scr (E L scr d) B_M_law C_M_law 9 [some (vR 900012 0), some (vI x1), some (vI dy), some (vI ((450 : Int32) * (nI l - 5))), some (vI (nI (2250 + k))), z5, z6] [] (opH h l k) = some (.inl (9, [some (vR 900012 0), some (vI x1), some (vI dy), some (vI ((450 : Int32) * (nI l - 5))), some (vI (nI (2250 + (k + 1)))), z5, z6], [], opH h l (k + 1)))
    rw [t_M_law_9, es2, if_neg (nI_ge (by omega) (by omega)), rd_M_op ob1, ix1, v1, sh, wr_M_op ob2, ix2, rd_M_arg ob1, ix1, hI_rn (by decide), v2, wr_M_arg ob2, ix2, rd_M_than ob1, ix1, hI_rn (by decide), hI_rn (by decide), v3, wr_M_than ob2, ix2, opH_s, nI_1]
    rfl) (Sm.ret (by
    have es2 : hI (opH h l c) 1302 0 0 = nI (2250 + c) := by rw [opH_u.2 _ _ (by decide)]; exact es
    have el2 : hI (opH h l c) 1300 0 0 = nI l := by rw [opH_u.2 _ _ (by decide)]; exact el
    have ob2 : ¬ oob (nI l) 6 := oob_nI (by omega) (by decide)
    have ix2 : ix (nI l) = l := ix_nI (by omega)
    have el3 : hI (sI (opH h l c) 1309000006 0 l dy) 1300 0 0 = nI l := by rw [hI_rn (by decide)]; exact el2
    rw [t_M_law_9, es2, if_pos (nI_le (Nat.le_refl _) (by omega)), el2, wr_M_lawDay ob2, ix2, el3, nI_1, hI_rs, up_s, nI_pred])))
  rw [opH_0] at key
  exact key
def z5N : Nat → Option MV
  | 0 => none
  | j + 1 => some (vI (nI (200 + j)))
def z6N (l : Nat) : Nat → Option MV
  | 0 => none
  | j + 1 => some (vI (nI (40 * l + j)))
theorem m_law7 {h : MH} {l c R : Nat} (x1 dy : Int32) (hl : l < 5) (hc : c ≤ 300) (hR : R ≤ 40) (el : hI h 1300 0 0 = nI l) (er : hI h 1310000006 0 l = nI R) (es : hI h 1302 0 0 = nI (2250 + c)) : Sm L scr d B_M_law C_M_law 7 [some (vR 900012 0), some (vI x1), some (vI dy), some (vI ((450 : Int32) * (nI l - 5))), some (vI 0), none, none] [] h (some (vI (nI l)), sI (sI (opH (clH h l R) l c) 1309000006 0 l dy) 1300 0 0 (nI (l + 1))) := by
  have key := (Sm.for (L := L) (scr := scr) (d := d) (bs := B_M_law) (cs := C_M_law) (t := 7) (lo := fun k => [some (vR 900012 0), some (vI x1), some (vI dy), some (vI ((450 : Int32) * (nI l - 5))), some (vI (nI k)), z5N k, z6N l k]) (hh := fun k => clH h l k) (r := (some (vI (nI l)), sI (sI (opH (clH h l R) l c) 1309000006 0 l dy) 1300 0 0 (nI (l + 1)))) R (fun k hk => by
    have el2 : hI (clH h l k) 1300 0 0 = nI l := by rw [clH_u.2 _ _ (by decide)]; exact el
    have er2 : hI (clH h l k) 1310000006 0 l = nI R := by rw [clH_u.2 _ _ (by decide)]; exact er
    have obl : ¬ oob (nI l) 6 := oob_nI (by omega) (by decide)
    have ixl : ix (nI l) = l := ix_nI (by omega)
    have a1 : (200 : Int32) + nI k = nI (200 + k) := by rw [show (200 : Int32) = nI 200 from rfl, nI_add]
    have a2 : (40 : Int32) * nI l + nI k = nI (40 * l + k) := by rw [show (40 : Int32) = nI 40 from rfl, nI_mul, nI_add]
    have ob1 : ¬ oob (nI (200 + k)) 240 := oob_nI (by omega) (by decide)
    have ix1 : ix (nI (200 + k)) = 200 + k := ix_nI (by omega)
    have ob2 : ¬ oob (nI (40 * l + k)) 240 := oob_nI (by omega) (by decide)
    have ix2 : ix (nI (40 * l + k)) = 40 * l + k := ix_nI (by omega)
    obtain ⟨r1, r2, r3, r4, r5, r6⟩ := clH_r (h := h) (l := l) (k := k)
    have v1 : hI (clH h l k) 1311000240 0 (200 + k) = hI h 1311000240 0 (200 + k) := by rw [r1, stO_out (Or.inr (by omega))]
    have v2 : hI (clH h l k) 1312000240 0 (200 + k) = hI h 1312000240 0 (200 + k) := by rw [r2, stO_out (Or.inr (by omega))]
    have v3 : hI (clH h l k) 1313000240 0 (200 + k) = hI h 1313000240 0 (200 + k) := by rw [r3, stO_out (Or.inr (by omega))]
    have v4 : hI (clH h l k) 1314000240 0 (200 + k) = hI h 1314000240 0 (200 + k) := by rw [r4, stO_out (Or.inr (by omega))]
    have v5 : hI (clH h l k) 1315000240 0 (200 + k) = hI h 1315000240 0 (200 + k) := by rw [r5, stO_out (Or.inr (by omega))]
    have v6 : hI (clH h l k) 1316000240 0 (200 + k) = hI h 1316000240 0 (200 + k) := by rw [r6, stO_out (Or.inr (by omega))]
    show dn L scr (E L scr d) B_M_law C_M_law 7 [some (vR 900012 0), some (vI x1), some (vI dy), some (vI ((450 : Int32) * (nI l - 5))), some (vI (nI k)), z5N k, z6N l k] [] (clH h l k) = some (.inl (7, [some (vR 900012 0), some (vI x1), some (vI dy), some (vI ((450 : Int32) * (nI l - 5))), some (vI (nI (k + 1))), some (vI (nI (200 + k))), some (vI (nI (40 * l + k)))], [], clH h l (k + 1)))
    rw [t_M_law_7, el2, rd_M_clauses obl, ixl, er2, if_neg (nI_ge hk (by omega)), a1, rd_M_clauseKind ob1, ix1, v1, a2, wr_M_clauseKind ob2, ix2]
    rw [rd_M_clauseFrom ob1, ix1, hI_rn (by decide), v2, wr_M_clauseFrom ob2, ix2]
    rw [rd_M_clauseTo ob1, ix1, hI_rn (by decide), hI_rn (by decide), v3, wr_M_clauseTo ob2, ix2]
    rw [rd_M_clausePart ob1, ix1, hI_rn (by decide), hI_rn (by decide), hI_rn (by decide), v4, wr_M_clausePart ob2, ix2]
    rw [rd_M_stepFrom ob1, ix1, hI_rn (by decide), hI_rn (by decide), hI_rn (by decide), hI_rn (by decide), v5, wr_M_stepFrom ob2, ix2]
    rw [rd_M_stepTo ob1, ix1, hI_rn (by decide), hI_rn (by decide), hI_rn (by decide), hI_rn (by decide), hI_rn (by decide), v6, wr_M_stepTo ob2, ix2, clH_s, nI_1]) (Sm.step (t' := 9) (lo' := [some (vR 900012 0), some (vI x1), some (vI dy), some (vI ((450 : Int32) * (nI l - 5))), some (vI 2250), z5N R, z6N l R]) (st' := []) (h' := clH h l R) (by
    have el2 : hI (clH h l R) 1300 0 0 = nI l := by rw [clH_u.2 _ _ (by decide)]; exact el
    have er2 : hI (clH h l R) 1310000006 0 l = nI R := by rw [clH_u.2 _ _ (by decide)]; exact er
    have obl : ¬ oob (nI l) 6 := oob_nI (by omega) (by decide)
    have ixl : ix (nI l) = l := ix_nI (by omega)
    rw [t_M_law_7, el2, rd_M_clauses obl, ixl, er2, if_pos (nI_le (Nat.le_refl _) (by omega))]) (m_law9 x1 dy hl hc (by rw [clH_u.2 _ _ (by decide)]; exact el) (by rw [clH_u.2 _ _ (by decide)]; exact es) (z5N R) (z6N l R))))
  rw [clH_0] at key
  exact key
/-- the law's numbers copied, and how many rules -/
def lwH (h : MH) (l R : Nat) : MH := sI (withR h [(1308000384, 0, stO (hI h 1308000384 0) (64 * l) (fun j => hI h 1308000384 0 (320 + j)) 64)]) 1310000006 0 l (nI R)
theorem m_law5 {h : MH} {l c R : Nat} (x1 dy : Int32) (hl : l < 5) (hc : c ≤ 300) (hR : R ≤ 40) (el : hI h 1300 0 0 = nI l) (er : hI h 1310000006 0 5 = nI R) (es : hI h 1302 0 0 = nI (2250 + c)) : Sm L scr d B_M_law C_M_law 5 [some (vR 900012 0), some (vI x1), some (vI dy), some (vI ((450 : Int32) * (nI l - 5))), some (vI 0), none, none] [] h (some (vI (nI l)), sI (sI (opH (clH (lwH h l R) l R) l c) 1309000006 0 l dy) 1300 0 0 (nI (l + 1))) := by
  obtain ⟨hh, hhh⟩ : ∃ hh : Nat → MH, hh = fun k => withR h [(1308000384, 0, stO (hI h 1308000384 0) (64 * l) (fun j => hI h 1308000384 0 (320 + j)) k)] := ⟨_, rfl⟩
  have h0 : hh 0 = h := by
    rw [hhh]
    refine withR_id (fun q hq => ?_)
    simp only [List.mem_cons, List.not_mem_nil, or_false] at hq
    rcases hq with rfl
    dsimp only
    exact stO_0 _ _ _
  have st : ∀ k, sI (hh k) 1308000384 0 (64 * l + k) (hI h 1308000384 0 (320 + k)) = hh (k + 1) := fun k => by
    rw [hhh]
    show sI (withR h [(1308000384, 0, stO (hI h 1308000384 0) (64 * l) (fun j => hI h 1308000384 0 (320 + j)) k)]) 1308000384 0 (64 * l + k) (hI h 1308000384 0 (320 + k)) = withR h [(1308000384, 0, stO (hI h 1308000384 0) (64 * l) (fun j => hI h 1308000384 0 (320 + j)) (k + 1))]
    rw [withR_set, stO_s (hI h 1308000384 0) (64 * l) (fun j => hI h 1308000384 0 (320 + j)) k]
  have hm : ∀ k a b, ¬ (a = 1308000384 ∧ b = 0) → hI (hh k) a b = hI h a b := fun k a b z => by rw [hhh]; exact withR_miss z
  have hr : ∀ k, hI (hh k) 1308000384 0 = stO (hI h 1308000384 0) (64 * l) (fun j => hI h 1308000384 0 (320 + j)) k := fun k => by rw [hhh]; exact withR_hit
  have e64 : lwH h l R = sI (hh 64) 1310000006 0 l (nI R) := by rw [hhh]; rfl
  have key := (Sm.for (L := L) (scr := scr) (d := d) (bs := B_M_law) (cs := C_M_law) (t := 5) (lo := fun k => [some (vR 900012 0), some (vI x1), some (vI dy), some (vI ((450 : Int32) * (nI l - 5))), some (vI (nI k)), none, none]) (hh := hh) (r := (some (vI (nI l)), sI (sI (opH (clH (lwH h l R) l R) l c) 1309000006 0 l dy) 1300 0 0 (nI (l + 1)))) 64 (fun k hk => by
    have el2 : hI (hh k) 1300 0 0 = nI l := by rw [hm _ _ _ (by decide)]; exact el
    have a1 : (320 : Int32) + nI k = nI (320 + k) := by rw [show (320 : Int32) = nI 320 from rfl, nI_add]
    have a2 : (64 : Int32) * nI l + nI k = nI (64 * l + k) := by rw [show (64 : Int32) = nI 64 from rfl, nI_mul, nI_add]
    have ob1 : ¬ oob (nI (320 + k)) 384 := oob_nI (by omega) (by decide)
    have ix1 : ix (nI (320 + k)) = 320 + k := ix_nI (by omega)
    have ob2 : ¬ oob (nI (64 * l + k)) 384 := oob_nI (by omega) (by decide)
    have ix2 : ix (nI (64 * l + k)) = 64 * l + k := ix_nI (by omega)
    rw [t_M_law_5, if_neg (show ¬ (64 : Int32) ≤ nI k from nI_ge (b := 64) hk (by decide)), a1, rd_M_law ob1, ix1, hr, stO_out (Or.inr (by omega)), el2, a2, wr_M_law ob2, ix2, st, nI_1]) (Sm.step (t' := 7) (lo' := [some (vR 900012 0), some (vI x1), some (vI dy), some (vI ((450 : Int32) * (nI l - 5))), some (vI 0), none, none]) (st' := []) (h' := lwH h l R) (by
    have el2 : hI (hh 64) 1300 0 0 = nI l := by rw [hm _ _ _ (by decide)]; exact el
    have er2 : hI (hh 64) 1310000006 0 5 = nI R := by rw [hm _ _ _ (by decide)]; exact er
    have obl : ¬ oob (nI l) 6 := oob_nI (by omega) (by decide)
    have ixl : ix (nI l) = l := ix_nI (by omega)
    rw [t_M_law_5, if_pos (show (64 : Int32) ≤ nI 64 by decide), rd_M_clauses (by decide), show ix (5 : Int32) = 5 by decide, er2, el2, wr_M_clauses obl, ixl, ← e64]) (m_law7 x1 dy hl hc hR (by rw [e64, hI_rn (by decide), hm _ _ _ (by decide)]; exact el) (by rw [e64, hI_rs, up_s]) (by rw [e64, hI_rn (by decide), hm _ _ _ (by decide)]; exact es))))
  rw [h0] at key
  exact key
end MLaw

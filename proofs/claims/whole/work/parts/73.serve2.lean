/-! Long rows; what is served, on both sides -/
def upJ (f : Nat → Int64) (i : Nat) (v : Int64) : Nat → Int64 := fun c => if c = i then v else f c
def rowJ (h : MH) (s : Nat) (f : Nat → Int64) : MH := (h.1, fun a b => if a = s ∧ b = 0 then f else h.2.1 a b, h.2.2)
theorem rowJ_at {h : MH} {s : Nat} {f : Nat → Int64} : hJ (rowJ h s f) s 0 = f := if_pos ⟨rfl, rfl⟩
theorem rowJ_ne {h : MH} {s t : Nat} {f : Nat → Int64} (q : t ≠ s) : hJ (rowJ h s f) t 0 = hJ h t 0 := if_neg (fun z => q z.1)
theorem rowJ_ext {h : MH} {f g : Nat → Nat → Nat → Int64} (e : ∀ a b, f a b = g a b) : ((h.1, f, h.2.2) : MH) = (h.1, g, h.2.2) := by
  refine congrArg (fun z => (h.1, z, h.2.2)) ?_
  funext a b
  exact e a b
theorem rowJ_sJ {h : MH} {s i : Nat} {v : Int64} : sJ h s 0 i v = rowJ h s (upJ (hJ h s 0) i v) := by
  refine rowJ_ext (h := h) (fun a b => ?_)
  funext c
  show (if a = s ∧ b = 0 ∧ c = i then v else h.2.1 a b c) = (if a = s ∧ b = 0 then upJ (hJ h s 0) i v else h.2.1 a b) c
  by_cases q : a = s ∧ b = 0
  · obtain ⟨rfl, rfl⟩ := q
    rw [if_pos (show a = a ∧ 0 = 0 from ⟨rfl, rfl⟩)]
    unfold upJ
    by_cases e : c = i
    · rw [if_pos ⟨rfl, rfl, e⟩, if_pos e]
    · rw [if_neg (fun z => e z.2.2), if_neg e]; rfl
  · rw [if_neg (fun z => q ⟨z.1, z.2.1⟩), if_neg q]
theorem rowJ_rr {h : MH} {s : Nat} {f g : Nat → Int64} : rowJ (rowJ h s f) s g = rowJ h s g := by
  refine rowJ_ext (h := h) (fun a b => ?_)
  show (if a = s ∧ b = 0 then g else if a = s ∧ b = 0 then f else h.2.1 a b) = if a = s ∧ b = 0 then g else h.2.1 a b
  by_cases q : a = s ∧ b = 0
  · rw [if_pos q, if_pos q]
  · rw [if_neg q, if_neg q, if_neg q]
theorem rowJ_sw {h : MH} {s t : Nat} {f g : Nat → Int64} (n : s ≠ t) : rowJ (rowJ h s f) t g = rowJ (rowJ h t g) s f := by
  refine rowJ_ext (h := h) (fun a b => ?_)
  show (if a = t ∧ b = 0 then g else if a = s ∧ b = 0 then f else h.2.1 a b) = if a = s ∧ b = 0 then f else if a = t ∧ b = 0 then g else h.2.1 a b
  by_cases q : a = t ∧ b = 0
  · rw [if_pos q, if_neg (show ¬ (a = s ∧ b = 0) from fun z => n (by rw [← z.1, q.1])), if_pos q]
  · rw [if_neg q, if_neg q]
theorem rowJ_id {h : MH} {s : Nat} : rowJ h s (hJ h s 0) = h := by
  refine Eq.trans (rowJ_ext (h := h) (g := h.2.1) (fun a b => ?_)) rfl
  show (if a = s ∧ b = 0 then hJ h s 0 else h.2.1 a b) = h.2.1 a b
  by_cases q : a = s ∧ b = 0
  · rw [if_pos q, q.1, q.2]; rfl
  · rw [if_neg q]
def cpR (g b : Nat → Int64) (n : Nat) : Nat → Int64 := fun c => if c < n then b c else g c
theorem cpR_0 {g b : Nat → Int64} : cpR g b 0 = g := by funext c; exact if_neg (Nat.not_lt_zero c)
theorem cpR_s {g b : Nat → Int64} {n : Nat} : upJ (cpR g b n) n (b n) = cpR g b (n + 1) := by
  funext c
  unfold upJ cpR
  by_cases h1 : c = n
  · rw [if_pos h1, if_pos (by omega), h1]
  · rw [if_neg h1]
    by_cases h2 : c < n
    · rw [if_pos h2, if_pos (by omega)]
    · rw [if_neg h2, if_neg (by omega)]
theorem cpR_cp {g b b2 : Nat → Int64} {n : Nat} : cpR (cpR g b n) b2 n = cpR g b2 n := by
  funext c
  unfold cpR
  by_cases h2 : c < n
  · rw [if_pos h2, if_pos h2]
  · rw [if_neg h2, if_neg h2, if_neg h2]
theorem lNaddR (a b : Nat) : lN (a + b) = lN a + lN b := Int64.ofNat_add a b
theorem lNmulR (a b : Nat) : lN (a * b) = lN a * lN b := Int64.ofNat_mul a b
/-- a row of 36 weights -/
def lr (f : Nat → Nat) (g : Nat → Int64) : Nat → Int64 := cpR g (fun t => lN (f t)) 36
theorem lr_at {f : Nat → Nat} {g : Nat → Int64} {t : Nat} (h : t < 36) : lr f g t = lN (f t) := if_pos h
theorem lr_ad {f : Nat → Nat} {g : Nat → Int64} {i w c : Nat} (h : i < 36) : upJ (lr f g) i (lN (f i) + lN w * lN c) = lr (adT f i (w * c)) g := by
  funext t
  unfold upJ lr cpR adT
  by_cases e : t = i
  · rw [if_pos e, if_pos (by omega)]
    show _ = lN (if t = i then f t + w * c else f t)
    rw [if_pos e, e, lNaddR, lNmulR]
  · rw [if_neg e]
    by_cases q : t < 36
    · rw [if_pos q, if_pos q]
      show _ = lN (if t = i then f t + w * c else f t)
      rw [if_neg e]
    · rw [if_neg q, if_neg q]
theorem lr_0 {g : Nat → Int64} : cpR g (fun _ => (0 : Int64)) 36 = lr (fun _ => 0) g := rfl
theorem lr_cp {f f2 : Nat → Nat} {g g2 : Nat → Int64} : cpR (lr f g) (lr f2 g2) 36 = lr f2 g := by
  unfold lr
  rw [cpR_cp]
  funext c
  unfold cpR
  by_cases h2 : c < 36
  · rw [if_pos h2, if_pos h2, if_pos h2]
  · rw [if_neg h2, if_neg h2]
def UpdJ (h h2 : MH) : Prop := h2.1 = h.1 ∧ h2.2.2 = h.2.2
theorem UpdJ.rf (h : MH) : UpdJ h h := ⟨rfl, rfl⟩
theorem UpdJ.tr {a b c : MH} (x : UpdJ a b) (y : UpdJ b c) : UpdJ a c := ⟨y.1.trans x.1, y.2.trans x.2⟩
theorem UpdJ.I {a b : MH} (x : UpdJ a b) : hI b = hI a := by unfold hI; rw [x.1]
theorem UpdJ.row {h h2 : MH} (x : UpdJ h h2) (s : Nat) (f : Nat → Int64) : UpdJ h (rowJ h2 s f) := ⟨x.1, x.2⟩
theorem max0_nI {a b : Nat} (ha : a < 2 ^ 30) (hb : b < 2 ^ 30) : (if (0 : Int32) < nI a - nI b then nI a - nI b else 0) = nI (a - b) := by
  by_cases c : b < a
  · rw [if_pos (by
      rw [Int32.lt_iff_toInt_lt, nI_sub_toInt ha hb]
      show (0 : Int) < _
      omega), nI_sub (by omega)]
  · rw [if_neg (by
      rw [Int32.lt_iff_toInt_lt, nI_sub_toInt ha hb]
      show ¬ (0 : Int) < _
      omega), show a - b = 0 by omega]; rfl
theorem i2l_nI {c : Nat} (h : c < 2 ^ 31) : Int32.toInt64 (nI c) = lN c := by
  apply Int64.toInt_inj.mp
  rw [Int32.toInt_toInt64, nI_toInt h, lNi (by omega)]
section Serve
variable {L : Nat} {scr : Nat → Int32} {d : Nat}
theorem c_fillJ {s N : Nat} (hr : isRow s 3 = true) (hN : lenOf s = N) (hN2 : N < 2 ^ 31) (v : Int64) (h : MH) : E L scr (d + 1) 338 [vR s 0, vL v] h = some (none, rowJ h s (cpR (hJ h s 0) (fun _ => v) N)) := by
  refine r_Arrays_fill_0 s 0 v h (Sm.step ((t_Arrays_fill_0_0 ..).trans (if_pos hr)) ?_)
  rw [hN]
  have key := Sm.for (L := L) (scr := scr) (d := d) (bs := B_Arrays_fill_0) (cs := C_Arrays_fill_0) (t := 1) (lo := fun k => [some (vR s 0), some (vL v), none, some (vI (nI k)), some (vI (nI N))]) (hh := fun k => rowJ h s (cpR (hJ h s 0) (fun _ => v) k)) (r := (none, rowJ h s (cpR (hJ h s 0) (fun _ => v) N))) N (fun k hk => by
    rw [t_Arrays_fill_0_1, if_neg (nI_ge hk hN2), wrJ_ok hr hN (oob_nI hk hN2), ix_nI (by omega), rowJ_sJ, rowJ_rr, rowJ_at, ← cpR_s, nI_1]; rfl) (Sm.ret (by rw [t_Arrays_fill_0_1, if_pos (nI_le (Nat.le_refl _) hN2)]))
  rw [cpR_0, rowJ_id] at key
  exact key
theorem c_serveHour {X : MH} {c : Nat → Nat} (hc : ∀ k, hI X 300000072 0 k = nI (c k) ∧ c k ≤ 10) {i s k n w : Nat} (hi : i < 12) (hs : s < 36) (hk : k ≤ 12) (hn : 1 ≤ n) (hn3 : n ≤ 3) (hw : hJ X 303300036 0 s = lN w) {N : Nat → Nat} {g2 : Nat → Int64} (hN : hJ X 304300036 0 = lr N g2) : E L scr (d + 2) 25 [vR 900002 0, vI (nI i), vI (nI s), vI (nI k), vI (nI n)] X = some (some (vI (nI (goS c (6 * i) (thC k s) 6))), rowJ X 304300036 (lr (roP c (6 * i) (nxC n k s) w N 6) g2)) := by
  obtain ⟨T, hT⟩ : ∃ T, T = thC k s := ⟨_, rfl⟩
  have hT2 : T ≤ 12 := by rw [hT]; unfold thC; omega
  refine r_Demand_serveHour _ _ _ _ _ _ (Sm.step (t' := 1) (lo' := [some (vR 900002 0), some (vI (nI i)), some (vI (nI s)), some (vI (nI k)), some (vI (nI n)), some (vI (nI (s / 6))), some (vI (nI T)), some (vI (nI (goS c (6 * i) T 0))), some (vI 0), none, none, none]) (st' := []) (h' := X) ?_ ?_)
  · rw [t_Demand_serveHour_0, dvI_ok (by decide), dvI_ok (by decide), show (6 : Int32) = nI 6 from rfl, nI_div (by omega) (by decide), nI_mod (by omega) (by decide), c_max, clI_ok, sub_sub_nI, max0_nI (by omega) (by omega), hT]; rfl
  refine Sm.inv0 (P := fun p lo h' => ∃ z9 z10 z11, lo = [some (vR 900002 0), some (vI (nI i)), some (vI (nI s)), some (vI (nI k)), some (vI (nI n)), some (vI (nI (s / 6))), some (vI (nI T)), some (vI (nI (goS c (6 * i) T p))), some (vI (nI p)), z9, z10, z11] ∧ h' = rowJ X 304300036 (lr (roP c (6 * i) (nxC n k s) w N p) g2)) 6 ⟨_, _, _, rfl, ?_⟩ ?_ ?_
  · show X = rowJ X 304300036 (lr N g2)
    rw [← hN, rowJ_id]
  · rintro p hp _ _ ⟨z9, z10, z11, rfl, rfl⟩ kk
    obtain ⟨A, hA⟩ : ∃ A, A = if 2 ≤ n then min p T * 6 else 0 := ⟨_, rfl⟩
    obtain ⟨B, hB⟩ : ∃ B, B = if 3 ≤ n then s / 6 else 0 := ⟨_, rfl⟩
    have hAB : A + B = nxC n k s p := by unfold nxC; rw [hA, hB, hT]
    have hlt : A + B < 36 := by rw [hAB]; exact nxC_ok n k s hs p hp
    have cv := hc (6 * i + p)
    refine Sm.step (t' := 5) (lo' := [some (vR 900002 0), some (vI (nI i)), some (vI (nI s)), some (vI (nI k)), some (vI (nI n)), some (vI (nI (s / 6))), some (vI (nI T)), some (vI (nI (goS c (6 * i) T p))), some (vI (nI p)), some (vI (nI (c (6 * i + p)))), some (vI (nI (min p T))), z11]) (st' := [vI (nI B), vI (nI A)]) (h' := rowJ X 304300036 (lr (roP c (6 * i) (nxC n k s) w N p) g2)) ?_ (Sm.step (t' := 1) (lo' := [some (vR 900002 0), some (vI (nI i)), some (vI (nI s)), some (vI (nI k)), some (vI (nI n)), some (vI (nI (s / 6))), some (vI (nI T)), some (vI (nI (goS c (6 * i) T (p + 1)))), some (vI (nI (p + 1))), some (vI (nI (c (6 * i + p)))), some (vI (nI (min p T))), some (vI (nI (A + B)))]) (st' := []) (h' := rowJ X 304300036 (lr (roP c (6 * i) (nxC n k s) w N (p + 1)) g2)) ?_ (kk _ _ ⟨_, _, _, rfl, rfl⟩))
    · rw [t_Demand_serveHour_1, if_neg (show ¬ (6 : Int32) ≤ nI p from nI_ge (b := 6) hp (by decide)), show (6 : Int32) = nI 6 from rfl, nI_mul, nI_add, Nat.mul_comm i 6, rd_Demand_parts (oob_nI (by omega) (by decide)), ix_nI (by omega), show hI (rowJ X 304300036 (lr (roP c (6 * i) (nxC n k s) w N p) g2)) = hI X from rfl, cv.1, c_min, clI_ok, min_nI (by omega) (by omega), nI_mul, hA, hB]
      rcases (show n = 1 ∨ n = 2 ∨ n = 3 by omega) with rfl | rfl | rfl <;> rfl
    · rw [t_Demand_serveHour_5, nI_add, rd_Demand_nextWeight (oob_nI hlt (by decide)), ix_nI (by omega), rd_Demand_weight (oob_nI hs (by decide)), ix_nI (by omega), wr_Demand_nextWeight (oob_nI hlt (by decide)), ix_nI (by omega), rowJ_at, rowJ_ne (by decide), hw, i2l_nI (by omega), rowJ_sJ, rowJ_rr, rowJ_at, lr_at hlt, lr_ad hlt, nI_mul, nI_add, nI_1, hAB]; rfl
  · rintro _ _ ⟨z9, z10, z11, rfl, rfl⟩
    refine Sm.ret ?_
    rw [t_Demand_serveHour_1, if_pos (by decide), hT]
theorem cpyJ_W {X : Type} {h : MH} {s t : Nat} (hs : isRow s 3 = true) (ht : isRow t 3 = true) (ls : lenOf s = 36) (lt : lenOf t = 36) {k : MH → Option X} : cpyJ h s 0 0 t 0 0 36 k = k (rowJ h t (cpR (hJ h t 0) (hJ h s 0) 36)) := by
  have e : cpyJ h s 0 0 t 0 0 36 k = k (cpJ h s 0 0 t 0 0 36) := if_pos ⟨hs, ht, by rw [ls, lt]; decide⟩
  rw [e]
  refine congrArg k (rowJ_ext (h := h) (fun a b => ?_))
  funext c
  show (if a = t ∧ b = 0 ∧ 0 ≤ c ∧ c < 0 + 36 then h.2.1 s 0 (0 + (c - 0)) else h.2.1 a b c) = (if a = t ∧ b = 0 then cpR (hJ h t 0) (hJ h s 0) 36 else h.2.1 a b) c
  by_cases q : a = t ∧ b = 0
  · obtain ⟨rfl, rfl⟩ := q
    rw [if_pos (show a = a ∧ 0 = 0 from ⟨rfl, rfl⟩)]
    unfold cpR
    by_cases e : c < 36
    · rw [if_pos ⟨rfl, rfl, by omega, by omega⟩, if_pos e, Nat.zero_add, Nat.sub_zero]; rfl
    · rw [if_neg (fun z => e (by omega)), if_neg e]; rfl
  · rw [if_neg (fun z => q ⟨z.1, z.2.1⟩), if_neg q]
theorem gz_0 {g : Nat → Int64} {f : Nat → Nat} : cpR (lr f g) (fun _ => (0 : Int64)) 36 = lr (fun _ => 0) g := by rw [show lr f g = cpR g (fun t => lN (f t)) 36 from rfl, cpR_cp, lr_0]
theorem c_served {h : MH} {c : Nat → Nat} (hc : ∀ k, hI h 300000072 0 k = nI (c k) ∧ c k ≤ 10) (hw : Wh c) {k n : Nat} (hk : k ≤ 12) (hn : 1 ≤ n) (hn3 : n ≤ 3) : ∃ h', E L scr (d + 3) 24 [vR 900002 0, vI (nI k), vI (nI n)] h = some (some (vL (lN (vaP c (nxC n k) (thC k) 12 0))), h') ∧ UpdJ h h' := by
  obtain ⟨g1, hg1⟩ : ∃ g1, g1 = hJ h 303300036 0 := ⟨_, rfl⟩
  obtain ⟨g2, hg2⟩ : ∃ g2, g2 = hJ h 304300036 0 := ⟨_, rfl⟩
  have ok : NxOk (nxC n k) := nxC_ok n k
  have bd : ∀ {h t}, h ≤ 12 → t < 36 → wtP c (nxC n k) h t < 2 ^ 63 := fun hh ht => wt_le hw ok hh ht
  have hq : ∀ (W : Nat → Int64) (G : Nat → Int64), ∀ k, hI (rowJ (rowJ h 304300036 G) 303300036 W) 300000072 0 k = nI (c k) ∧ c k ≤ 10 := fun W G => hc
  refine ⟨rowJ (rowJ h 304300036 (lr (wtP c (nxC n k) 12) g2)) 303300036 (lr (wtP c (nxC n k) 12) g1), r_Demand_served _ _ _ _ (Sm.step (t' := 1) (lo' := [some (vR 900002 0), some (vI (nI k)), some (vI (nI n)), some (vL (lN (seP c (nxC n k) (thC k) 0))), none, some (vI (nI 0)), none]) (st' := []) (h' := rowJ (rowJ h 304300036 g2) 303300036 (lr (wtP c (nxC n k) 0) g1)) ?_ ?_), ((UpdJ.rf h).row _ _).row _ _⟩
  · rw [t_Demand_served_0, c_fillJ (s := 303300036) (N := 36) rfl rfl (by decide), clV_ok, wr_Demand_weight (by decide), rowJ_sJ, rowJ_rr, rowJ_at, hg2, rowJ_id, ← hg1, show (upJ (cpR g1 (fun _ => 0) 36) (ix 0) 1) = lr (wtP c (nxC n k) 0) g1 by
      rw [lr_0, show ix 0 = 0 by decide]
      have := lr_ad (f := fun _ => 0) (g := g1) (i := 0) (w := 1) (c := 1) (by decide)
      rw [show lN 0 + lN 1 * lN 1 = 1 by decide] at this
      rw [this]
      refine congrArg (lr · g1) ?_
      funext t
      show (if t = 0 then 0 + 1 * 1 else 0) = if t = 0 then 1 else 0
      rfl]; rfl
  refine Sm.inv0 (P := fun i lo h' => ∃ z6 G, lo = [some (vR 900002 0), some (vI (nI k)), some (vI (nI n)), some (vL (lN (seP c (nxC n k) (thC k) i))), none, some (vI (nI i)), z6] ∧ h' = rowJ (rowJ h 304300036 G) 303300036 (lr (wtP c (nxC n k) i) g1) ∧ (0 < i → G = lr (wtP c (nxC n k) i) g2) ∧ cpR G (fun _ => 0) 36 = lr (fun _ => 0) g2) 12 ⟨_, _, rfl, rfl, fun z => absurd z (Nat.lt_irrefl 0), lr_0⟩ ?_ ?_
  · rintro i hi _ _ ⟨z6, G, rfl, rfl, -, hG⟩ kk
    refine Sm.step (t' := 2) (lo' := [some (vR 900002 0), some (vI (nI k)), some (vI (nI n)), some (vL (lN (seP c (nxC n k) (thC k) i * 10 + phi (fun s => goS c (6 * i) (thC k s) 6) (wtP c (nxC n k) i) 0))), none, some (vI (nI i)), some (vI (nI 0))]) (st' := []) (h' := rowJ (rowJ h 304300036 (lr (stP c (6 * i) (nxC n k) (wtP c (nxC n k) i) 0) g2)) 303300036 (lr (wtP c (nxC n k) i) g1)) ?_ ?_
    · rw [t_Demand_served_1, if_neg (show ¬ (12 : Int32) ≤ nI i from nI_ge (b := 12) hi (by decide)), c_fillJ (s := 304300036) (N := 36) rfl rfl (by decide), clV_ok, rowJ_ne (by decide), rowJ_at, hG, rowJ_sw (by decide), rowJ_rr]
      show _ = some (Sum.inl (2, [_, _, _, some (vL (lN (seP c (nxC n k) (thC k) i * 10 + 0))), _, _, _], [], _))
      rw [Nat.add_zero, lNmulR]; rfl
    refine Sm.for (lo := fun s => [some (vR 900002 0), some (vI (nI k)), some (vI (nI n)), some (vL (lN (seP c (nxC n k) (thC k) i * 10 + phi (fun s => goS c (6 * i) (thC k s) 6) (wtP c (nxC n k) i) s))), none, some (vI (nI i)), some (vI (nI s))]) (hh := fun s => rowJ (rowJ h 304300036 (lr (stP c (6 * i) (nxC n k) (wtP c (nxC n k) i) s) g2)) 303300036 (lr (wtP c (nxC n k) i) g1)) 36 (fun s hs => ?_) ?_
    · have hb := bd (h := i) (t := s) (by omega) hs
      have ew : hJ (rowJ (rowJ h 304300036 (lr (stP c (6 * i) (nxC n k) (wtP c (nxC n k) i) s) g2)) 303300036 (lr (wtP c (nxC n k) i) g1)) 303300036 0 s = lN (wtP c (nxC n k) i s) := by rw [rowJ_at, lr_at hs]
      have eN : hJ (rowJ (rowJ h 304300036 (lr (stP c (6 * i) (nxC n k) (wtP c (nxC n k) i) s) g2)) 303300036 (lr (wtP c (nxC n k) i) g1)) 304300036 0 = lr (stP c (6 * i) (nxC n k) (wtP c (nxC n k) i) s) g2 := by rw [rowJ_ne (by decide), rowJ_at]
      rw [t_Demand_served_2, if_neg (show ¬ (36 : Int32) ≤ nI s from nI_ge (b := 36) hs (by decide)), rd_Demand_weight (oob_nI hs (by decide)), ix_nI (by omega), ew, lNsg hb, nI_1]
      show _ = some (Sum.inl (2, [_, _, _, some (vL (lN (seP c (nxC n k) (thC k) i * 10 + (phi (fun s => goS c (6 * i) (thC k s) 6) (wtP c (nxC n k) i) s + wtP c (nxC n k) i s * goS c (6 * i) (thC k s) 6)))), _, _, _], [], rowJ (rowJ h 304300036 (lr (roP c (6 * i) (nxC n k s) (wtP c (nxC n k) i s) (stP c (6 * i) (nxC n k) (wtP c (nxC n k) i) s) 6) g2)) 303300036 _))
      by_cases z : wtP c (nxC n k) i s = 0
      · rw [if_pos z, if_pos (by decide), z, roP_0, Nat.zero_mul]; rfl
      · have hgo : goS c (6 * i) (thC k s) 6 < 2 ^ 31 := by
          have := roS_le (c := c) (b := 6 * i) (g := fun p => min p (thC k s)) (m := 5) (n := 6) (fun p hp => by show min p (thC k s) ≤ 5; omega)
          rw [hw i hi] at this
          show roS c (6 * i) (fun p => min p (thC k s)) 6 < 2 ^ 31
          omega
        rw [if_neg z, if_neg (by decide), rd_Demand_weight (oob_nI hs (by decide)), ix_nI (by omega), ew, c_serveHour (hq _ _) hi hs hk hn hn3 ew eN, clI_ok, i2l_nI hgo, ← Nat.add_assoc, lNaddR (seP c (nxC n k) (thC k) i * 10 + phi (fun s => goS c (6 * i) (thC k s) 6) (wtP c (nxC n k) i) s), lNmulR (wtP c (nxC n k) i s), rowJ_sw (by decide), rowJ_rr]
    · refine Sm.step (t' := 1) (lo' := [some (vR 900002 0), some (vI (nI k)), some (vI (nI n)), some (vL (lN (seP c (nxC n k) (thC k) (i + 1)))), none, some (vI (nI (i + 1))), some (vI (nI 36))]) (st' := []) (h' := rowJ (rowJ h 304300036 (lr (wtP c (nxC n k) (i + 1)) g2)) 303300036 (lr (wtP c (nxC n k) (i + 1)) g1)) ?_ (kk _ _ ⟨_, _, rfl, rfl, fun _ => rfl, gz_0⟩)
      rw [t_Demand_served_2, if_pos (by decide), cpyJ_W rfl rfl rfl rfl, rowJ_rr, rowJ_at, rowJ_ne (by decide), rowJ_at, lr_cp, nI_1]; rfl
  · rintro _ _ ⟨z6, G, rfl, rfl, hG, -⟩
    refine Sm.ret ?_
    rw [t_Demand_served_1, if_pos (by decide), hG (by decide), se_12 ok]
end Serve

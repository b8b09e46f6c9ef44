/-! CALL: renew -/
theorem sub_sub_nI (a b c : Nat) : nI a - nI b - nI c = nI a - nI (b + c) := by
  rw [← nI_add, Int32.sub_eq_add_neg, Int32.sub_eq_add_neg, Int32.sub_eq_add_neg, Int32.neg_add, Int32.sub_eq_add_neg, Int32.add_assoc]
theorem sub_lt0 {a b : Nat} (ha : a < 2 ^ 30) (hb : b < 2 ^ 30) : nI a - nI b < 0 ↔ a < b := by
  rw [Int32.lt_iff_toInt_lt, Int32.toInt_sub, nI_toInt (by omega), nI_toInt (by omega), Int.bmod_eq_of_le_mul_two (by omega) (by omega)]
  show ((a : Int) - b < 0) ↔ _
  omega
theorem shl_nI {c : Nat} (h : c ≤ 10) : (1 : Int32) <<< (nI c &&& 31) = nI (2 ^ c) := by
  have k : ∀ c : Fin 11, (1 : Int32) <<< (nI c.val &&& 31) = nI (2 ^ c.val) := by decide
  exact k ⟨c, by omega⟩
theorem bit_0 {k : Nat} (h : k < 10) : bitB 0 (nI k) = false := by
  have z : ∀ k : Fin 10, bitB 0 (nI k.val) = false := by decide
  exact z ⟨k, h⟩
/-- the number that an int stands for -/
def nn (x : Int32) : Nat := x.toInt.toNat
theorem nn_nI {v : Nat} (h : v < 2 ^ 31) : nn (nI v) = v := by unfold nn; rw [nI_toInt h]; rfl
theorem nn_ex {x : Int32} {n : Nat} (hn : n < 2 ^ 31) (h : ∃ v, v ≤ n ∧ x = nI v) : x = nI (nn x) ∧ nn x ≤ n := by
  obtain ⟨v, hv, rfl⟩ := h
  rw [nn_nI (by omega)]; exact ⟨rfl, hv⟩
/-- the sum of the v k with p k -/
def sumN (p : Nat → Bool) (v : Nat → Nat) : Nat → Nat
  | 0 => 0
  | k + 1 => if p k = true then sumN p v k + v k else sumN p v k
theorem sumN_t {p : Nat → Bool} {v : Nat → Nat} {k : Nat} (h : p k = true) : sumN p v (k + 1) = sumN p v k + v k := if_pos h
theorem sumN_f {p : Nat → Bool} {v : Nat → Nat} {k : Nat} (h : p k = false) : sumN p v (k + 1) = sumN p v k := if_neg (by rw [h]; decide)
theorem sumN_le {p : Nat → Bool} {v : Nat → Nat} {m : Nat} : ∀ {n : Nat}, (∀ k, k < n → v k ≤ m) → sumN p v n ≤ n * m
  | 0, _ => by show 0 ≤ _; omega
  | n + 1, h => by
    have ih := sumN_le (p := p) (n := n) (fun k hk => h k (by omega))
    have := h n (by omega)
    unfold sumN
    rw [Nat.succ_mul]
    split <;> omega
theorem sumN_0 {p : Nat → Bool} {v : Nat → Nat} : ∀ {n : Nat}, (∀ k, k < n → p k = false) → sumN p v n = 0
  | 0, _ => rfl
  | n + 1, h => by
    unfold sumN
    rw [if_neg (by rw [h n (by omega)]; decide)]
    exact sumN_0 (fun k hk => h k (by omega))
section Renew
variable {L : Nat} {scr : Nat → Int32} {d : Nat}
/-- the rows of the dock at g: N boats dry, the k-th is b k; weeks, part and coin of boats -/
def DockAt (g : MH) (N : Nat) (b : Nat → Nat) (wk fp fc : Nat → Int32) : Prop :=
  hI g 406 0 0 = nI N ∧ hI g 1380 0 0 = nI N ∧ N ≤ 10 ∧ (∀ k, k < N → hI g 404000010 0 k = nI (b k) ∧ hI g 1378000020 0 k = nI (b k) ∧ b k < 20) ∧ hI g 400000020 0 = wk ∧ hI g 1374000020 0 = wk ∧ hI g 402000020 0 = fp ∧ hI g 1376000020 0 = fp ∧ hI g 403000020 0 = fc ∧ hI g 1377000020 0 = fc
def DockC (g : MH) (N : Nat) (b : Nat → Nat) : Prop := hI g 406 0 0 = nI N ∧ N ≤ 10 ∧ ∀ k, k < N → hI g 404000010 0 k = nI (b k) ∧ b k < 20
def DockM (g : MH) (N : Nat) (b : Nat → Nat) : Prop := hI g 1380 0 0 = nI N ∧ N ≤ 10 ∧ ∀ k, k < N → hI g 1378000020 0 k = nI (b k) ∧ b k < 20
def pickV (m : Int32) (b : Nat → Nat) (k : Nat) : Int32 := zb (bitB m (nI k)) <<< (nI (b k) &&& 31)
theorem bit_zb (m k : Int32) : (m >>> (k &&& 31)) &&& 1 = zb (bitB m k) := by
  cases e : bitB m k with
  | true => rw [bitB_1 e]; rfl
  | false => rw [bitB_0 e]; rfl
theorem c_bestSet {g : MH} {N : Nat} {b : Nat → Nat} (hd : DockC g N b) : E L scr (d + 1) 41 [vR 900003 0] g = some (some (vI (fold (orF (fun _ => true) (pickV (hI g 408 0 0) b)) 0 N)), g) := by
  obtain ⟨e1, e2, e3⟩ := hd
  refine r_Dock_bestSet _ _ (Sm.step (t' := 1) (lo' := [some (vR 900003 0), some (vI 0), some (vI 0)]) (st' := []) (h' := g) (t_Dock_bestSet_0 ..) ?_)
  refine Sm.for (lo := fun k => [some (vR 900003 0), some (vI (fold (orF (fun _ => true) (pickV (hI g 408 0 0) b)) 0 k)), some (vI (nI k))]) (hh := fun _ => g) N (fun k hk => ?_) (Sm.ret ?_)
  · show _ = some (Sum.inl (1, [some (vR 900003 0), some (vI (orF (fun _ => true) (pickV (hI g 408 0 0) b) k (fold (orF (fun _ => true) (pickV (hI g 408 0 0) b)) 0 k))), some (vI (nI (k + 1)))], [], g))
    rw [t_Dock_bestSet_1, e1, if_neg (nI_ge hk (by omega)), rd_Dock_dry (oob_nI (by omega) (by decide)), ix_nI (by omega), (e3 k hk).1, bit_zb, nI_1, orF_t rfl]
    rfl
  · rw [t_Dock_bestSet_1, e1, if_pos (nI_le (Nat.le_refl _) (by omega))]
theorem c_M_byBoats {g : MH} {N : Nat} {b : Nat → Nat} (hd : DockM g N b) (m : Int32) : E L scr (d + 2) 318 [vR 900012 0, vI m] g = some (some (vI (fold (orF (fun _ => true) (pickV m b)) 0 N)), g) := by
  obtain ⟨e1, e2, e3⟩ := hd
  refine r_M_byBoats _ _ _ (Sm.step (t' := 1) (lo' := [some (vR 900012 0), some (vI m), some (vI 0), some (vI 0)]) (st' := []) (h' := g) (t_M_byBoats_0 ..) ?_)
  refine Sm.for (lo := fun k => [some (vR 900012 0), some (vI m), some (vI (fold (orF (fun _ => true) (pickV m b)) 0 k)), some (vI (nI k))]) (hh := fun _ => g) N (fun k hk => ?_) (Sm.ret ?_)
  · show _ = some (Sum.inl (1, [some (vR 900012 0), some (vI m), some (vI (orF (fun _ => true) (pickV m b) k (fold (orF (fun _ => true) (pickV m b)) 0 k))), some (vI (nI (k + 1)))], [], g))
    rw [t_M_byBoats_1, e1, if_neg (nI_ge hk (by omega)), c_M_has, clI_ok, c_M_one, clI_ok, one_zb, rd_M_dry (oob_nI (by omega) (by decide)), ix_nI (by omega), (e3 k hk).1, nI_1, orF_t rfl]
    rfl
  · rw [t_M_byBoats_1, e1, if_pos (nI_le (Nat.le_refl _) (by omega))]
/-- what a choice saves: -1 where its weeks are too many -/
def svV (bud N : Nat) (wv cv : Nat → Nat) (m : Nat) : Int32 := if bud < sumN (fun k => bitB (nI m) (nI k)) wv N then -1 else nI (sumN (fun k => bitB (nI m) (nI k)) cv N)
theorem c_saving {g : MH} {N bud m : Nat} {b : Nat → Nat} {wv cv : Nat → Nat} (hd : DockC g N b) (hb : bud ≤ 90) (hw : ∀ k, k < N → hI g 400000020 0 (b k) = nI (wv k) ∧ wv k ≤ 9) (hc : ∀ k, k < N → hI g 402000020 0 (b k) * hI g 403000020 0 (b k) = nI (cv k)) : E L scr (d + 1) 40 [vR 900003 0, vI (nI m), vI (nI bud)] g = some (some (vI (svV bud N wv cv m)), g) := by
  obtain ⟨e1, e2, e3⟩ := hd
  refine r_Dock_saving _ _ _ _ (Sm.step (t' := 1) (lo' := [some (vR 900003 0), some (vI (nI m)), some (vI (nI bud)), some (vI (nI bud - nI 0)), some (vI 0), some (vI 0)]) (st' := []) (h' := g) (by rw [t_Dock_saving_0, show nI bud - nI 0 = nI bud from nI_sub (Nat.zero_le _)]) ?_)
  refine Sm.for (lo := fun k => [some (vR 900003 0), some (vI (nI m)), some (vI (nI bud)), some (vI (nI bud - nI (sumN (fun k => bitB (nI m) (nI k)) wv k))), some (vI (nI (sumN (fun k => bitB (nI m) (nI k)) cv k))), some (vI (nI k))]) (hh := fun _ => g) N (fun k hk => ?_) (Sm.ret ?_)
  · have ob : ¬ oob (nI k) 10 := oob_nI (by omega) (by decide)
    have ob2 : ¬ oob (nI (b k)) 20 := oob_nI (e3 k hk).2 (by decide)
    have hb20 := (e3 k hk).2
    rw [t_Dock_saving_1, e1, if_neg (nI_ge hk (by omega)), bit_zb, nI_1]
    cases e : bitB (nI m) (nI k) with
    | true =>
      rw [sumN_t (p := fun k => bitB (nI m) (nI k)) e, sumN_t (p := fun k => bitB (nI m) (nI k)) e, if_pos (show zb true = 1 from rfl), rd_Dock_dry ob, ix_nI (by omega), (e3 k hk).1, rd_Dock_dryWeeks ob2, ix_nI (by omega), rd_Dock_dry ob, ix_nI (by omega), (e3 k hk).1, rd_Dock_failPart ob2, ix_nI (by omega), rd_Dock_dry ob, ix_nI (by omega), (e3 k hk).1, rd_Dock_failCoin ob2, ix_nI (by omega), (hw k hk).1, hc k hk, sub_sub_nI, nI_add]
    | false =>
      rw [sumN_f (p := fun k => bitB (nI m) (nI k)) e, sumN_f (p := fun k => bitB (nI m) (nI k)) e, if_neg (show ¬ zb false = 1 by decide)]
  · have hS := sumN_le (p := fun k => bitB (nI m) (nI k)) (v := wv) (m := 9) (n := N) (fun k hk => (hw k hk).2)
    rw [t_Dock_saving_1, e1, if_pos (nI_le (Nat.le_refl _) (by omega))]
    unfold svV
    by_cases c : bud < sumN (fun k => bitB (nI m) (nI k)) wv N
    · rw [if_pos ((sub_lt0 (by omega) (by omega)).mpr c), if_pos c]
    · rw [if_neg (fun z => c ((sub_lt0 (by omega) (by omega)).mp z)), if_neg c]
/-- the best choice of the first k, and what it saves -/
def bF (sv : Nat → Int32) : Nat → Int32 × Nat
  | 0 => (-1, 0)
  | k + 1 => if sv k ≤ (bF sv k).1 then bF sv k else (sv k, k)
theorem bF_nn {sv : Nat → Int32} (h0 : sv 0 = 0) : ∀ k, bF sv (k + 1) = (0, 0) ∧ k = 0 ∨ 0 ≤ (bF sv (k + 1)).1
  | 0 => Or.inl ⟨by
      show (if sv 0 ≤ -1 then ((-1 : Int32), 0) else (sv 0, 0)) = (0, 0)
      rw [h0, if_neg (by decide)], rfl⟩
  | k + 1 => by
    have ih := bF_nn h0 k
    have p : 0 ≤ (bF sv (k + 1)).1 := by
      rcases ih with ⟨h, -⟩ | h
      · rw [h]; decide
      · exact h
    refine Or.inr ?_
    show 0 ≤ (if sv (k + 1) ≤ (bF sv (k + 1)).1 then bF sv (k + 1) else (sv (k + 1), k + 1)).1
    by_cases c : sv (k + 1) ≤ (bF sv (k + 1)).1
    · rw [if_pos c]; exact p
    · rw [if_neg c]
      have := nle_i.mp c
      rw [Int32.lt_iff_toInt_lt] at this
      rw [Int32.le_iff_toInt_le] at p ⊢
      show _ ≤ (sv (k + 1)).toInt
      omega
/-- the heap with best and choice -/
abbrev bstL (g : MH) (s : Int32 × Nat) (k : Nat) : RW := [(407, 0, up (hI g 407 0) 0 s.1), (408, 0, if k = 0 then hI g 408 0 else up (hI g 408 0) 0 (nI s.2))]
theorem bst_0 {g : MH} {v : Int32} {c : Nat} : sI g 407 0 0 v = withR g (bstL g (v, c) 0) := by
  rw [withR_sI0]
  have := withR_id1 (h := g) (s := 408) (n := 0) (r := []) rfl
  show _ = withR g [(_, 0, _), (408, 0, hI g 408 0)]
  refine congrArg (fun z => (z, g.2)) ?_
  funext a b
  show (if a = 407 ∧ b = 0 then _ else lkR g.1 [] a b) = (if a = 407 ∧ b = 0 then _ else lkR g.1 [(408, 0, hI g 408 0)] a b)
  rw [congrFun (congrFun (congrArg (fun z => z.1) this) a) b |> (fun (z : lkR g.1 [(408, 0, hI g 408 0)] a b = lkR g.1 [] a b) => z)]
theorem bst_1 {g : MH} {s : Int32 × Nat} {k : Nat} {v : Int32} {c : Nat} : sI (sI (withR g (bstL g s k)) 407 0 0 v) 408 0 0 (nI c) = withR g (bstL g (v, c) (k + 1)) := by
  rw [withR_set, withR_sI (by decide) withR_set, up_up]
  show _ = withR g [(407, 0, up (hI g 407 0) 0 v), (408, 0, if k + 1 = 0 then hI g 408 0 else up (hI g 408 0) 0 (nI c))]
  rw [if_neg (show ¬ (k + 1 = 0) from Nat.succ_ne_zero k)]
  by_cases c0 : k = 0
  · rw [if_pos c0]
  · rw [if_neg c0, up_up]
theorem bst_s {g : MH} {s : Int32 × Nat} {k : Nat} (hk : k ≠ 0) : withR g (bstL g s k) = withR g (bstL g s (k + 1)) := by
  unfold bstL
  rw [if_neg hk, if_neg (Nat.succ_ne_zero k)]
theorem bst_Scr {g : MH} {s : Int32 × Nat} {k : Nat} : Upd Scr g (withR g (bstL g s k)) := withR_Upd (fun q hq => by
  simp only [List.mem_cons, List.not_mem_nil, or_false] at hq
  rcases hq with rfl | rfl <;> (dsimp only; decide))
theorem call_renew (x y : Int32) (h : MH) (q : RDry h) (qb : RBoat h) (qf : RFail h) : Both L scr (d + 40) Scr (fun _ => True) 168 321 [vR 900011 0, vI x, vI y] [vR 900012 0, vI x, vI y] h := by
  obtain ⟨b1, nB, hnB, eb, mb, b2⟩ := qb
  obtain ⟨q1, q2, ⟨n, hn, bn, q3⟩, q4, q5⟩ := id q
  have en : n = nB := (nI_eq (by omega) (by omega)).mp (by rw [← bn, ← eb])
  subst en
  obtain ⟨f1, f2, f3⟩ := qf
  cases hx : inB x 0 90 with
  | false =>
    refine both0 (vI (-1)) (r_P_renew _ _ _ _ (Sm.ret ?_)) (r_M_renew _ _ _ _ (Sm.ret ?_)) trivial
    · rw [t_P_renew_0, c_P_within, clI_ok, hx, itF]
    · rw [t_M_renew_0, c_M_isIn, clI_ok, hx, itF]
  | true =>
    cases hy : inB y 0 1 with
    | false =>
      refine both0 (vI (-1)) (r_P_renew _ _ _ _ (Sm.ret ?_)) (r_M_renew _ _ _ _ (Sm.ret ?_)) trivial
      · rw [t_P_renew_0, c_P_within, clI_ok, hx, itT, c_P_within, clI_ok, hy, itF]
      · rw [t_M_renew_0, c_M_isIn, clI_ok, hx, itT, c_M_isIn, clI_ok, hy, itF]
    | true =>
      obtain ⟨bud, hbud, rfl⟩ := inB_t (n := 90) rfl hx
      obtain ⟨w, ew⟩ : ∃ w, w = hI h 400000020 0 := ⟨_, rfl⟩
      have eL := c_listDry (L := L) (scr := scr) (d := d + 37) (h := h) (fun k => (q4 k).1) q5
      obtain ⟨g, hg⟩ : ∃ g, g = withR h (dryC h 20) := ⟨_, rfl⟩
      rw [← hg] at eL
      have ug : Upd Scr h g := by rw [hg]; exact dryC_Scr
      have dz : dryN w 20 = dryN w n := dryN_zero hn (by rw [ew]; exact q3)
      obtain ⟨N, hN⟩ : ∃ N, N = dryN w n := ⟨_, rfl⟩
      have hN10 : N ≤ 10 := by rw [hN, ← dz, ew]; exact q5
      obtain ⟨b, hb⟩ : ∃ b, b = dryB w n := ⟨_, rfl⟩
      have dC : DockC g N b := by
        refine ⟨by rw [hg, withR_miss (by decide), withR_hit, up_s, ← ew, dz, hN], hN10, fun k hk => ?_⟩
        have e := dryL_at (w := w) (r := hI h 404000010 0) (n := n) (k := k) (by omega)
        refine ⟨?_, by rw [hb]; omega⟩
        rw [hg, withR_hit, ← ew, dry_eq hn dz, e.1, hb]
      have wN : ∀ k, w k = nI (nn (w k)) ∧ nn (w k) ≤ 9 := fun k => nn_ex (by decide) (by rw [ew]; exact (q4 k).1)
      have pN : ∀ k, hI h 402000020 0 k = nI (nn (hI h 402000020 0 k)) ∧ nn (hI h 402000020 0 k) ≤ 100 := fun k => nn_ex (by decide) (f3 k).1
      have cN : ∀ k, hI h 403000020 0 k = nI (nn (hI h 403000020 0 k)) ∧ nn (hI h 403000020 0 k) ≤ 999 := fun k => nn_ex (by decide) (f3 k).2
      obtain ⟨wv, hwv⟩ : ∃ wv : Nat → Nat, wv = fun k => nn (w (b k)) := ⟨_, rfl⟩
      obtain ⟨cv, hcv⟩ : ∃ cv : Nat → Nat, cv = fun k => nn (hI h 402000020 0 (b k)) * nn (hI h 403000020 0 (b k)) := ⟨_, rfl⟩
      have w9 : ∀ k, wv k ≤ 9 := fun k => by rw [hwv]; exact (wN _).2
      have c9 : ∀ k, cv k ≤ 99900 := fun k => by rw [hcv]; exact Nat.mul_le_mul (pN _).2 (cN _).2
      have we : ∀ k, w (b k) = nI (wv k) := fun k => by rw [hwv]; exact (wN _).1
      have ce : ∀ k, hI h 402000020 0 (b k) * hI h 403000020 0 (b k) = nI (cv k) := fun k => by
        rw [(pN (b k)).1, (cN (b k)).1, nI_mul, hcv]
      obtain ⟨sv, hsv⟩ : ∃ sv, sv = svV bud N wv cv := ⟨_, rfl⟩
      have sv0 : sv 0 = 0 := by
        rw [hsv]; unfold svV
        rw [sumN_0 (p := fun k => bitB (nI 0) (nI k)) (v := wv) (fun k hk => bit_0 (by omega)), sumN_0 (p := fun k => bitB (nI 0) (nI k)) (v := cv) (fun k hk => bit_0 (by omega)), if_neg (by omega)]; rfl
      have p2 : 0 < 2 ^ N := Nat.two_pow_pos N
      have p3 : 2 ^ N ≤ 1024 := Nat.pow_le_pow_right (n := 2) (by decide) hN10
      obtain ⟨K, hK⟩ : ∃ K, 2 ^ N = K + 1 := ⟨2 ^ N - 1, by omega⟩
      -- the class
      obtain ⟨gk, hgk⟩ : ∃ gk : Nat → MH, gk = fun k => withR g (bstL g (bF sv k) k) := ⟨_, rfl⟩
      have uk : ∀ k, Upd Scr g (gk k) := fun k => by rw [hgk]; exact bst_Scr
      have gm : ∀ k s, s ≠ 407 → s ≠ 408 → hI (gk k) s 0 = hI g s 0 := fun k s h1 h2 => by
        rw [hgk]; show hI (withR g (bstL g (bF sv k) k)) s 0 = _
        rw [withR_miss (fun z => h1 z.1), withR_miss (fun z => h2 z.1)]; rfl
      have dCk : ∀ k, DockC (gk k) N b := fun k => by
        unfold DockC; rw [gm k _ (by decide) (by decide), gm k _ (by decide) (by decide)]; exact dC
      have gb : ∀ k, hI (gk k) 407 0 0 = (bF sv k).1 := fun k => by
        rw [hgk]; show hI (withR g (bstL g (bF sv k) k)) _ 0 0 = _
        rw [withR_hit, up_s]
      have gc : hI (gk (K + 1)) 408 0 0 = nI (bF sv (K + 1)).2 := by
        rw [hgk]; show hI (withR g (bstL g (bF sv (K + 1)) (K + 1))) _ 0 0 = _
        rw [withR_miss (by decide), withR_hit, if_neg (Nat.succ_ne_zero K), up_s]
      have eS : E L scr (d + 39) 39 [vR 900003 0, vI (nI bud)] h = some (none, gk (K + 1)) := by
        have g0 : sI g 407 0 0 (-1) = gk 0 := by rw [hgk]; exact bst_0
        refine r_Dock_solveRenewal _ _ _ (Sm.step (t' := 1) (lo' := [some (vR 900003 0), some (vI (nI bud)), some (vI 0), none]) (st' := []) (h' := gk 0) (by rw [t_Dock_solveRenewal_0, eL, clV_ok, g0]) ?_)
        refine Sm.for (lo := fun k => [some (vR 900003 0), some (vI (nI bud)), some (vI (nI k)), match k with | 0 => none | j + 1 => some (vI (sv j))]) (hh := gk) (K + 1) (fun k hk => ?_) (Sm.ret ?_)
        · rw [t_Dock_solveRenewal_1, (dCk k).1, shl_nI hN10, hK, if_neg (nI_ge hk (by omega)), c_saving (wv := wv) (cv := cv) (dCk k) hbud (fun j hj => ⟨by rw [gm k _ (by decide) (by decide), ug.2 _ _ (by decide), ← ew]; exact we j, w9 j⟩) (fun j hj => by rw [gm k _ (by decide) (by decide), gm k _ (by decide) (by decide), ug.2 _ _ (by decide), ug.2 _ _ (by decide)]; exact ce j), clI_ok, ← hsv, gb, nI_1]
          by_cases c : sv k ≤ (bF sv k).1
          · have k0 : k ≠ 0 := by
              intro z
              subst z
              rw [sv0] at c
              exact absurd (show (0 : Int32) ≤ -1 from c) (by decide)
            have e1 : bF sv (k + 1) = bF sv k := if_pos c
            have e2 : gk (k + 1) = gk k := by
              rw [hgk]; show withR g (bstL g (bF sv (k + 1)) (k + 1)) = withR g (bstL g (bF sv k) k)
              rw [e1]; exact (bst_s k0).symm
            rw [if_pos c, e2]
          · have e1 : bF sv (k + 1) = (sv k, k) := if_neg c
            have e2 : gk (k + 1) = sI (sI (gk k) 407 0 0 (sv k)) 408 0 0 (nI k) := by
              rw [hgk]; show withR g (bstL g (bF sv (k + 1)) (k + 1)) = sI (sI (withR g (bstL g (bF sv k) k)) 407 0 0 (sv k)) 408 0 0 (nI k)
              rw [e1]; exact bst_1.symm
            rw [if_neg c, e2]
        · rw [t_Dock_solveRenewal_1, (dCk _).1, shl_nI hN10, hK, if_pos (nI_le (Nat.le_refl _) (by omega))]
      obtain ⟨ans, hans⟩ : ∃ ans : Int32, ans = if y = 0 then (bF sv (K + 1)).1 else fold (orF (fun _ => true) (pickV (nI (bF sv (K + 1)).2) b)) 0 N := ⟨_, rfl⟩
      have eC : E L scr (d + 40) 168 [vR 900011 0, vI (nI bud), vI y] h = some (some (vI ans), gk (K + 1)) := by
        refine r_P_renew _ _ _ _ (Sm.ret ?_)
        rw [t_P_renew_0, c_P_within, clI_ok, hx, itT, c_P_within, clI_ok, hy, itT, eS, clV_ok]
        by_cases c : y = 0
        · rw [if_pos c, gb, hans, if_pos c]
        · rw [if_neg c, c_bestSet (dCk _), clI_ok, gc, hans, if_neg c]
      -- the reference
      obtain ⟨g2, hg2⟩ : ∃ g2, g2 = gk (K + 1) := ⟨_, rfl⟩
      rw [← hg2] at eC
      have u2 : Upd Scr h g2 := by rw [hg2]; exact ug.tr (uk _)
      have mg : hI g2 1335 0 0 = nI n := by rw [u2.2 _ _ (by decide)]; exact mb
      have mw : hI g2 1374000020 0 = w := by rw [u2.2 _ _ (by decide), ew]; exact Eq.symm q1
      have eD := c_M_dries (L := L) (scr := scr) (d := d + 38) hn mg
      obtain ⟨f, hf⟩ : ∃ f, f = withR g2 (dryM g2 n) := ⟨_, rfl⟩
      rw [← hf] at eD
      have uf : Upd Scr g2 f := by rw [hf]; exact dryM_Scr
      have uf2 : Upd Scr h f := u2.tr uf
      have dM : DockM f N b := by
        refine ⟨by rw [hf, withR_miss (by decide), withR_hit, up_s, mw, hN], hN10, fun k hk => ?_⟩
        have e := dryL_at (w := w) (r := hI g2 1378000020 0) (n := n) (k := k) (by omega)
        refine ⟨?_, by rw [hb]; omega⟩
        rw [hf, withR_hit, mw, e.1, hb]
      have fw : hI f 1374000020 0 = w := by rw [uf.2 _ _ (by decide), mw]
      have fp : hI f 1376000020 0 = hI h 402000020 0 := by rw [uf2.2 _ _ (by decide)]; exact Eq.symm f1
      have fc : hI f 1377000020 0 = hI h 403000020 0 := by rw [uf2.2 _ _ (by decide)]; exact Eq.symm f2
      have eM : E L scr (d + 40) 321 [vR 900012 0, vI (nI bud), vI y] g2 = some (some (vI ans), f) := by
        refine r_M_renew _ _ _ _ (Sm.step (t' := 3) (lo' := [some (vR 900012 0), some (vI (nI bud)), some (vI y), some (vI 0), some (vI 0), some (vI 1), none, none, none]) (st' := []) (h' := f) ?_ ?_)
        · rw [t_M_renew_0, c_M_isIn, clI_ok, hx, itT, c_M_isIn, clI_ok, hy, itT, eD, clV_ok]
        obtain ⟨lo, hlo⟩ : ∃ lo : Nat → List (Option MV), lo = fun k => [some (vR 900012 0), some (vI (nI bud)), some (vI y), some (vI (nI (bF sv (k + 1)).2)), some (vI (bF sv (k + 1)).1), some (vI (nI (k + 1))), (match k with | 0 => none | j + 1 => some (vI (nI (sumN (fun i => bitB (nI (j + 1)) (nI i)) wv N)))), (match k with | 0 => none | j + 1 => some (vI (nI (sumN (fun i => bitB (nI (j + 1)) (nI i)) cv N)))), (match k with | 0 => none | j + 1 => some (vI (nI N)))] := ⟨_, rfl⟩
        have lo0 : lo 0 = [some (vR 900012 0), some (vI (nI bud)), some (vI y), some (vI 0), some (vI 0), some (vI 1), none, none, none] := by
          rw [hlo]
          rcases bF_nn sv0 0 with ⟨e, -⟩ | e
          · show [_, _, _, some (vI (nI (bF sv (0 + 1)).2)), some (vI (bF sv (0 + 1)).1), _, none, none, none] = _
            rw [e]; rfl
          · have e2 : bF sv (0 + 1) = (0, 0) := by
              show (if sv 0 ≤ -1 then ((-1 : Int32), 0) else (sv 0, 0)) = (0, 0)
              rw [sv0, if_neg (by decide)]
            show [_, _, _, some (vI (nI (bF sv (0 + 1)).2)), some (vI (bF sv (0 + 1)).1), _, none, none, none] = _
            rw [e2]; rfl
        rw [← lo0]
        refine Sm.iter (lo := lo) (hh := fun _ => f) K (fun k hk kk => ?_) (Sm.ret ?_)
        · have hl : ∃ z6 z7 z8, lo k = [some (vR 900012 0), some (vI (nI bud)), some (vI y), some (vI (nI (bF sv (k + 1)).2)), some (vI (bF sv (k + 1)).1), some (vI (nI (k + 1))), z6, z7, z8] := by
            rw [hlo]; exact ⟨_, _, _, rfl⟩
          obtain ⟨z6, z7, z8, ez⟩ := hl
          rw [ez]
          refine Sm.step (t' := 4) (lo' := [some (vR 900012 0), some (vI (nI bud)), some (vI y), some (vI (nI (bF sv (k + 1)).2)), some (vI (bF sv (k + 1)).1), some (vI (nI (k + 1))), some (vI 0), some (vI 0), some (vI 0)]) (st' := []) (h' := f) ?_ ?_
          · rw [t_M_renew_3, dM.1, shl_nI hN10, hK, if_neg (nI_ge (by omega) (by omega))]
          refine Sm.for (lo := fun i => [some (vR 900012 0), some (vI (nI bud)), some (vI y), some (vI (nI (bF sv (k + 1)).2)), some (vI (bF sv (k + 1)).1), some (vI (nI (k + 1))), some (vI (nI (sumN (fun i => bitB (nI (k + 1)) (nI i)) wv i))), some (vI (nI (sumN (fun i => bitB (nI (k + 1)) (nI i)) cv i))), some (vI (nI i))]) (hh := fun _ => f) N (fun i hi => ?_) (Sm.step (t' := 3) (lo' := lo (k + 1)) (st' := []) (h' := f) ?_ kk)
          · have ob : ¬ oob (nI i) 20 := oob_nI (by omega) (by decide)
            have hb20 := (dM.2.2 i hi).2
            have ob2 : ¬ oob (nI (b i)) 20 := oob_nI hb20 (by decide)
            rw [t_M_renew_4, dM.1, if_neg (nI_ge hi (by omega)), c_M_has, clI_ok, nI_1]
            cases e : bitB (nI (k + 1)) (nI i) with
            | false => rw [itF, sumN_f (p := fun i => bitB (nI (k + 1)) (nI i)) e, sumN_f (p := fun i => bitB (nI (k + 1)) (nI i)) e]
            | true =>
              rw [itT, sumN_t (p := fun i => bitB (nI (k + 1)) (nI i)) e, sumN_t (p := fun i => bitB (nI (k + 1)) (nI i)) e, rd_M_dry ob, ix_nI (by omega), (dM.2.2 i hi).1, rd_M_weeks ob2, ix_nI (by omega), rd_M_dry ob, ix_nI (by omega), (dM.2.2 i hi).1, rd_M_failPart ob2, ix_nI (by omega), rd_M_dry ob, ix_nI (by omega), (dM.2.2 i hi).1, rd_M_failCoin ob2, ix_nI (by omega), fw, fp, fc, we i, ce i, nI_add, nI_add]
          · have hS := sumN_le (p := fun i => bitB (nI (k + 1)) (nI i)) (v := wv) (m := 9) (n := N) (fun j hj => w9 j)
            have hV := sumN_le (p := fun i => bitB (nI (k + 1)) (nI i)) (v := cv) (m := 99900) (n := N) (fun j hj => c9 j)
            have e0 : 0 ≤ (bF sv (k + 1)).1 := by
              rcases bF_nn sv0 k with ⟨e, -⟩ | e
              · rw [e]; decide
              · exact e
            have es : sv (k + 1) = if bud < sumN (fun i => bitB (nI (k + 1)) (nI i)) wv N then -1 else nI (sumN (fun i => bitB (nI (k + 1)) (nI i)) cv N) := by rw [hsv]; rfl
            rw [t_M_renew_4, dM.1, if_pos (nI_le (Nat.le_refl _) (by omega)), hlo, nI_1]
            by_cases c1 : bud < sumN (fun i => bitB (nI (k + 1)) (nI i)) wv N
            · rw [if_pos c1] at es
              have e1 : bF sv (k + 1 + 1) = bF sv (k + 1) := if_pos (by
                rw [es]
                rw [Int32.le_iff_toInt_le] at e0 ⊢
                have : (-1 : Int32).toInt = -1 := rfl
                have : (0 : Int32).toInt = 0 := rfl
                omega)
              rw [if_pos (nI_lt c1 (by omega))]
              show _ = some (Sum.inl (3, [_, _, _, some (vI (nI (bF sv (k + 1 + 1)).2)), some (vI (bF sv (k + 1 + 1)).1), _, _, _, _], [], f))
              rw [e1]
            · rw [if_neg c1] at es
              rw [if_neg (nI_nlt (by omega) (by omega))]
              by_cases c2 : (bF sv (k + 1)).1 < nI (sumN (fun i => bitB (nI (k + 1)) (nI i)) cv N)
              · have e1 : bF sv (k + 1 + 1) = (sv (k + 1), k + 1) := if_neg (by rw [es]; exact nle_i.mpr c2)
                rw [if_pos c2]
                show _ = some (Sum.inl (3, [_, _, _, some (vI (nI (bF sv (k + 1 + 1)).2)), some (vI (bF sv (k + 1 + 1)).1), _, _, _, _], [], f))
                rw [e1, es]
              · have e1 : bF sv (k + 1 + 1) = bF sv (k + 1) := if_pos (by rw [es]; exact nlt_i.mp c2)
                rw [if_neg c2]
                show _ = some (Sum.inl (3, [_, _, _, some (vI (nI (bF sv (k + 1 + 1)).2)), some (vI (bF sv (k + 1 + 1)).1), _, _, _, _], [], f))
                rw [e1]
        · have hl : ∃ z6 z7 z8, lo K = [some (vR 900012 0), some (vI (nI bud)), some (vI y), some (vI (nI (bF sv (K + 1)).2)), some (vI (bF sv (K + 1)).1), some (vI (nI (K + 1))), z6, z7, z8] := by
            rw [hlo]; exact ⟨_, _, _, rfl⟩
          obtain ⟨z6, z7, z8, ez⟩ := hl
          rw [ez, t_M_renew_3, dM.1, shl_nI hN10, hK, if_pos (nI_le (Nat.le_refl _) (by omega))]
          by_cases c : y = 0
          · rw [if_pos c, hans, if_pos c]
          · rw [if_neg c, c_M_byBoats dM, clI_ok, hans, if_neg c]
      exact ⟨_, g2, f, eC, eM, uf2, trivial⟩
end Renew

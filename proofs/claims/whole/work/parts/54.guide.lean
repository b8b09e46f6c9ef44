/-! CALLS: guided, pay: the guides chosen -/
/-- the guide chosen among the first ones -/
def chG (ok eq : Nat → Bool) (pu : Nat → Int32) : Nat → Option Nat
  | 0 => none
  | g + 1 => if (ok g && eq g) = true then (match chG ok eq pu g with
      | none => some g
      | some x => if pu x ≤ pu g then some x else some g) else chG ok eq pu g
def oI : Option Nat → Int32
  | none => -1
  | some g => nI g
theorem chG_f {ok eq : Nat → Bool} {pu : Nat → Int32} {g : Nat} (h : (ok g && eq g) = false) : chG ok eq pu (g + 1) = chG ok eq pu g := if_neg (by rw [h]; decide)
theorem chG_t {ok eq : Nat → Bool} {pu : Nat → Int32} {g : Nat} (h : (ok g && eq g) = true) : chG ok eq pu (g + 1) = (match chG ok eq pu g with
      | none => some g
      | some x => if pu x ≤ pu g then some x else some g) := if_pos h
theorem chG_some {ok eq : Nat → Bool} {pu : Nat → Int32} : ∀ {n x : Nat}, chG ok eq pu n = some x → x < n ∧ ok x = true ∧ eq x = true
  | 0, _, h => by cases h
  | n + 1, x, h => by
    cases e : ok n && eq n with
    | false =>
      rw [chG_f e] at h
      have := chG_some h
      exact ⟨by omega, this.2⟩
    | true =>
      rw [chG_t e] at h
      have e2 := (Bool.and_eq_true _ _ ▸ e : ok n = true ∧ eq n = true)
      cases c : chG ok eq pu n with
      | none =>
        rw [c] at h
        cases h
        exact ⟨Nat.lt_succ_self _, e2⟩
      | some y =>
        rw [c] at h
        replace h : (if pu y ≤ pu n then some y else some n) = some x := h
        by_cases q : pu y ≤ pu n
        · rw [if_pos q] at h
          cases h
          have := chG_some c
          exact ⟨by omega, this.2⟩
        · rw [if_neg q] at h
          cases h
          exact ⟨Nat.lt_succ_self _, e2⟩
theorem chG_none {ok eq : Nat → Bool} {pu : Nat → Int32} : ∀ {n : Nat}, chG ok eq pu n = none → ∀ g, g < n → (ok g && eq g) = false
  | 0, _, g, hg => absurd hg (Nat.not_lt_zero _)
  | n + 1, h, g, hg => by
    cases e : ok n && eq n with
    | false =>
      rw [chG_f e] at h
      rcases Nat.lt_succ_iff_lt_or_eq.mp hg with q | q
      · exact chG_none h g q
      · rw [q]; exact e
    | true =>
      rw [chG_t e] at h
      cases c : chG ok eq pu n with
      | none => rw [c] at h; cases h
      | some y =>
        rw [c] at h
        replace h : (if pu y ≤ pu n then some y else some n) = none := h
        by_cases q : pu y ≤ pu n
        · rw [if_pos q] at h; cases h
        · rw [if_neg q] at h; cases h
section Path
variable (n P : Nat) (pay : Nat → Nat) (W K pu : Nat → Int32)
def chP (p m : Nat) : Option Nat := chG (fun g => okG W K g p m) (fun g => decide (100000 + pay p + wF n P pay (okG W K) (P - (p + 1)) (m ||| 2 ^ g) = wF n P pay (okG W K) (P - p) m)) pu n
/-- guides away before the p-th party -/
def mkP : Nat → Nat
  | 0 => 0
  | p + 1 => match chP n P pay W K pu p (mkP p) with
    | none => mkP p
    | some g => mkP p ||| 2 ^ g
def svP : Nat → Nat
  | 0 => 0
  | p + 1 => match chP n P pay W K pu p (mkP n P pay W K pu p) with
    | none => svP p
    | some _ => svP p + 1
def cnP : Nat → Nat
  | 0 => 0
  | p + 1 => match chP n P pay W K pu p (mkP n P pay W K pu p) with
    | none => cnP p
    | some _ => cnP p + pay p
end Path
section Path2
variable {n P : Nat} {pay : Nat → Nat} {W K pu : Nat → Int32}
theorem mkP_lt : ∀ p, mkP n P pay W K pu p < 2 ^ n
  | 0 => Nat.two_pow_pos n
  | p + 1 => by
    show (match chP n P pay W K pu p (mkP n P pay W K pu p) with
      | none => mkP n P pay W K pu p
      | some g => mkP n P pay W K pu p ||| 2 ^ g) < 2 ^ n
    cases e : chP n P pay W K pu p (mkP n P pay W K pu p) with
    | none => exact mkP_lt p
    | some g => exact or_lt (mkP_lt p) (chG_some e).1
theorem path_sum : ∀ p, p ≤ P → wF n P pay (okG W K) (P - p) (mkP n P pay W K pu p) + 100000 * svP n P pay W K pu p + cnP n P pay W K pu p = wF n P pay (okG W K) P 0
  | 0, _ => by show wF n P pay (okG W K) (P - 0) 0 + 100000 * 0 + 0 = _; rw [Nat.sub_zero]; rfl
  | p + 1, hp => by
    have ih := path_sum p (by omega)
    show wF n P pay (okG W K) (P - (p + 1)) (match chP n P pay W K pu p (mkP n P pay W K pu p) with
      | none => mkP n P pay W K pu p
      | some g => mkP n P pay W K pu p ||| 2 ^ g) + 100000 * (match chP n P pay W K pu p (mkP n P pay W K pu p) with
      | none => svP n P pay W K pu p
      | some _ => svP n P pay W K pu p + 1) + (match chP n P pay W K pu p (mkP n P pay W K pu p) with
      | none => cnP n P pay W K pu p
      | some _ => cnP n P pay W K pu p + pay p) = _
    obtain ⟨j, hj⟩ : ∃ j, P - p = j + 1 := ⟨P - p - 1, by omega⟩
    have hj2 : P - (p + 1) = j := by omega
    have hj3 : P - (j + 1) = p := by omega
    cases e : chP n P pay W K pu p (mkP n P pay W K pu p) with
    | none =>
      show wF n P pay (okG W K) (P - (p + 1)) (mkP n P pay W K pu p) + 100000 * svP n P pay W K pu p + cnP n P pay W K pu p = _
      have no := chG_none e
      rw [hj] at ih no
      have e2 : wF n P pay (okG W K) (j + 1) (mkP n P pay W K pu p) = wF n P pay (okG W K) j (mkP n P pay W K pu p) := by
        rcases mxC_hit (ok := fun g => okG W K g (P - (j + 1)) (mkP n P pay W K pu p)) (cand := fun g => 100000 + pay (P - (j + 1)) + wF n P pay (okG W K) j (mkP n P pay W K pu p ||| 2 ^ g)) (a := wF n P pay (okG W K) j (mkP n P pay W K pu p)) n with h | ⟨g, h1, h2, h3⟩
        · exact h
        · have := no g h1
          rw [hj3] at h2
          replace h3 : wF n P pay (okG W K) (j + 1) (mkP n P pay W K pu p) = 100000 + pay (P - (j + 1)) + wF n P pay (okG W K) j (mkP n P pay W K pu p ||| 2 ^ g) := h3
          rw [hj3] at h3
          rw [h2, Bool.true_and, hj2] at this
          exact absurd h3.symm (of_decide_eq_false this)
      rw [hj2, ← e2]; exact ih
    | some g =>
      show wF n P pay (okG W K) (P - (p + 1)) (mkP n P pay W K pu p ||| 2 ^ g) + 100000 * (svP n P pay W K pu p + 1) + (cnP n P pay W K pu p + pay p) = _
      have := of_decide_eq_true (chG_some e).2.2
      omega
theorem cnP_le (hp : ∀ k, pay k ≤ 999) : ∀ p, cnP n P pay W K pu p ≤ 999 * p
  | 0 => Nat.le_refl _
  | p + 1 => by
    have ih := cnP_le hp p
    show (match chP n P pay W K pu p (mkP n P pay W K pu p) with
      | none => cnP n P pay W K pu p
      | some _ => cnP n P pay W K pu p + pay p) ≤ _
    have := hp p
    cases chP n P pay W K pu p (mkP n P pay W K pu p) with
    | none => show cnP n P pay W K pu p ≤ _; omega
    | some g => show cnP n P pay W K pu p + pay p ≤ _; omega
theorem path_end (hP : P ≤ 8) (hp : ∀ k, pay k ≤ 999) : svP n P pay W K pu P = wF n P pay (okG W K) P 0 / 100000 ∧ cnP n P pay W K pu P = wF n P pay (okG W K) P 0 % 100000 := by
  have h1 := path_sum (n := n) (P := P) (pay := pay) (W := W) (K := K) (pu := pu) P (Nat.le_refl _)
  have h2 := cnP_le (n := n) (P := P) (W := W) (K := K) (pu := pu) hp P
  rw [Nat.sub_self] at h1
  have h3 : 0 + 100000 * svP n P pay W K pu P + cnP n P pay W K pu P = wF n P pay (okG W K) P 0 := h1
  omega
end Path2
theorem aln_work {X : Type} {k : Int32 → Option X} : aln 0 1213002304 k = k (Int32.ofNat (lenOf 1213002304)) := if_pos rfl
section Guide
variable {L : Nat} {scr : Nat → Int32} {d : Nat}
theorem oI_m1 {o : Option Nat} (h : ∀ x, o = some x → x < 8) : oI o = -1 ↔ o = none := by
  cases o with
  | none => exact ⟨fun _ => rfl, fun _ => rfl⟩
  | some x => exact ⟨fun z => absurd z (nI_ne1 (by have := h x rfl; omega)), fun z => by cases z⟩
theorem c_choose {h : MH} {n P p m : Nat} {pay : Nat → Nat} {W K pu : Nat → Int32} (hn : n ≤ 8) (hP : P ≤ 8) (hp : p < P) (hm : m < 2 ^ n) (en : hI h 500 0 0 = nI n) (ep : hI h 505000008 0 p = nI (pay p)) (hpay : ∀ k, pay k ≤ 999) (ew : hI h 504000008 0 = W) (ek : hI h 501000008 0 = K) (eu : hI h 502000008 0 = pu) (hr : ∀ q m, q ≤ P → m < 2 ^ n → hI h 1213002304 0 (256 * q + m) = nI (conv (wF n P pay (okG W K) (P - q) m))) : E L scr (d + 2) 49 [vR 900004 0, vR 1213002304 0, vI (nI p), vI (nI m)] h = some (some (vI (oI (chP n P pay W K pu p m))), h) := by
  have p256 : 2 ^ n ≤ 256 := Nat.pow_le_pow_right (n := 2) (by decide) hn
  obtain ⟨C, hC⟩ : ∃ C, C = chG (fun g => okG W K g p m) (fun g => decide (100000 + pay p + wF n P pay (okG W K) (P - (p + 1)) (m ||| 2 ^ g) = wF n P pay (okG W K) (P - p) m)) pu := ⟨_, rfl⟩
  have eC : chP n P pay W K pu p m = C n := by rw [hC]; rfl
  have g0 := wF_good (n := n) (P := P) (ok := okG W K) hpay (P - p) m
  have l0 := (conv_le8 g0 (by omega)).1
  have b3 := hpay p
  rw [eC]
  refine r_Guides_choose _ _ _ _ _ _ (Sm.step (t' := 1) (lo' := [some (vR 900004 0), some (vR 1213002304 0), some (vI (nI p)), some (vI (nI m)), some (vI (nI (conv (wF n P pay (okG W K) (P - p) m)) - nI (10000 + pay p))), some (vI (oI (C 0))), some (vI 0)]) (st' := []) (h' := h) ?_ ?_)
  · rw [t_Guides_choose_0, show (256 : Int32) = nI 256 from rfl, nI_mul, nI_add, rd_P_work (oob_nI (by omega) (by decide)), ix_nI (by omega), Nat.mul_comm p 256, hr p m (by omega) hm, rd_Guides_pays (oob_nI (by omega) (by decide)), ix_nI (by omega), ep, show (10000 : Int32) = nI 10000 from rfl, sub_sub_nI, hC]; rfl
  refine Sm.for (lo := fun g => [some (vR 900004 0), some (vR 1213002304 0), some (vI (nI p)), some (vI (nI m)), some (vI (nI (conv (wF n P pay (okG W K) (P - p) m)) - nI (10000 + pay p))), some (vI (oI (C g))), some (vI (nI g))]) (hh := fun _ => h) n (fun g hg => ?_) (Sm.ret ?_)
  · have hx : ∀ x, C g = some x → x < g := fun x hx => by rw [hC] at hx; exact (chG_some hx).1
    rw [t_Guides_choose_1, en, if_neg (nI_ge hg (by omega)), c_canGuide (by omega) (by omega), clI_ok, ew, ek, nI_1]
    cases e : okG W K g p m with
    | false =>
      have e2 : C (g + 1) = C g := by rw [hC]; exact chG_f (by show (okG W K g p m && _) = false; rw [e]; rfl)
      rw [itF, e2]
    | true =>
      have ho := or_lt hm hg
      have g1 := wF_good (n := n) (P := P) (ok := okG W K) hpay (P - (p + 1)) (m ||| 2 ^ g)
      have l1 := (conv_le8 g1 (by omega)).1
      have ho256 : m ||| 2 ^ g < 256 := by omega
      have key : nI (conv (wF n P pay (okG W K) (P - (p + 1)) (m ||| 2 ^ g))) = nI (conv (wF n P pay (okG W K) (P - p) m)) - nI (10000 + pay p) ↔ 100000 + pay p + wF n P pay (okG W K) (P - (p + 1)) (m ||| 2 ^ g) = wF n P pay (okG W K) (P - p) m := by
        have gc : goodW (P - (p + 1) + 1) (100000 + pay p + wF n P pay (okG W K) (P - (p + 1)) (m ||| 2 ^ g)) := by
          obtain ⟨c, r, h1, h2, h3⟩ := g1
          exact ⟨c + 1, r + pay p, by rw [h1]; omega, by omega, by omega⟩
        rw [← conv_inj gc (by omega) g0 (by omega), conv_add g1 (by omega) b3, ← Int32.toInt_inj, nI_sub_toInt (by omega) (by omega), nI_toInt (by omega)]
        omega
      rw [itT, or_nI (by omega) (by omega), nI_1, show (256 : Int32) = nI 256 from rfl, nI_mul, nI_add, rd_P_work (oob_nI (by omega) (by decide)), ix_nI (by omega), Nat.mul_comm (p + 1) 256, hr (p + 1) _ (by omega) ho]
      by_cases c : 100000 + pay p + wF n P pay (okG W K) (P - (p + 1)) (m ||| 2 ^ g) = wF n P pay (okG W K) (P - p) m
      · have e2 : C (g + 1) = (match C g with
            | none => some g
            | some x => if pu x ≤ pu g then some x else some g) := by rw [hC]; exact chG_t (by show (okG W K g p m && decide _) = true; rw [e, decide_eq_true c]; rfl)
        rw [if_pos (key.mpr c), e2]
        cases ec : C g with
        | none => rw [if_pos (show oI none = -1 from rfl)]; rfl
        | some x =>
          have hxg := hx x ec
          rw [if_neg (show ¬ oI (some x) = -1 from nI_ne1 (by omega)), rd_Guides_purse (oob_nI (by omega) (by decide)), rd_Guides_purse (show ¬ oob (oI (some x)) 8 from oob_nI (by omega) (by decide)), ix_nI (by omega), show ix (oI (some x)) = x from ix_nI (by omega), eu]
          by_cases q : pu x ≤ pu g
          · rw [if_pos q]
            show _ = some (Sum.inl (1, [_, _, _, _, _, some (vI (oI (if pu x ≤ pu g then some x else some g))), _], [], h))
            rw [if_pos q]
          · rw [if_neg q]
            show _ = some (Sum.inl (1, [_, _, _, _, _, some (vI (oI (if pu x ≤ pu g then some x else some g))), _], [], h))
            rw [if_neg q]; rfl
      · have e2 : C (g + 1) = C g := by rw [hC]; exact chG_f (by show (okG W K g p m && decide _) = false; rw [e, decide_eq_false c]; rfl)
        rw [if_neg (fun z => c (key.mp z)), e2]
  · rw [t_Guides_choose_1, en, if_pos (nI_le (Nat.le_refl _) (by omega))]
theorem up_id {f : Nat → Int32} {i : Nat} {v : Int32} (h : f i = v) : up f i v = f := by
  funext c
  unfold up
  by_cases e : c = i
  · rw [if_pos e, e, h]
  · rw [if_neg e]
/-- what both sides know of guides and parties -/
theorem c_solve {h : MH} {n P : Nat} {pay : Nat → Nat} {W K pu : Nat → Int32} (hn : n ≤ 8) (hP : P ≤ 8) (en : hI h 500 0 0 = nI n) (eP : hI h 503 0 0 = nI P) (ep : ∀ k, k < P → hI h 505000008 0 k = nI (pay k)) (hpay : ∀ k, pay k ≤ 999) (ew : hI h 504000008 0 = W) (ek : hI h 501000008 0 = K) (eu : hI h 502000008 0 = pu) : ∃ f, E L scr (d + 4) 47 [vR 900004 0, vR 1213002304 0] h = some (none, f) ∧ Upd Scr h f ∧ (∀ k, k < P → hI f 506000008 0 k = oI (chP n P pay W K pu k (mkP n P pay W K pu k))) ∧ hI f 507 0 0 = nI (svP n P pay W K pu P) ∧ hI f 508 0 0 = nI (cnP n P pay W K pu P) := by
  have p256 : 2 ^ n ≤ 256 := Nat.pow_le_pow_right (n := 2) (by decide) hn
  obtain ⟨h1, hh1⟩ : ∃ h1, h1 = sI (sI h 507 0 0 0) 508 0 0 0 := ⟨_, rfl⟩
  obtain ⟨g, hg⟩ : ∃ g, g = withR h1 [(1213002304, 0, filF (hI h1 1213002304 0) 0 2304)] := ⟨_, rfl⟩
  have ef : E L scr (d + 3) 339 [vR 1213002304 0, vI 0] h1 = some (none, g) := by rw [hg]; exact c_fill rfl rfl (by decide) 0 h1
  have ug : Upd Scr h g := by
    refine ((((Upd.rf Scr h).sI (by decide)).sI (by decide) : Upd Scr h (sI (sI h 507 0 0 0) 508 0 0 0))).tr ?_
    rw [← hh1, hg]
    exact withR_Upd (fun q hq => by
      rw [List.mem_singleton] at hq
      subst hq
      dsimp only
      decide)
  have gs : hI g 507 0 0 = 0 := by rw [hg, withR_miss (by decide), show hI (withR h1 []) = hI h1 from rfl, hh1, hI_rn (by decide), hI_rs, up_s]
  have gc : hI g 508 0 0 = 0 := by rw [hg, withR_miss (by decide), show hI (withR h1 []) = hI h1 from rfl, hh1, hI_rs, up_s]
  have gn : hI g 500 0 0 = nI n := by rw [ug.2 _ _ (by decide)]; exact en
  have gP : hI g 503 0 0 = nI P := by rw [ug.2 _ _ (by decide)]; exact eP
  obtain ⟨ro, k1, k2⟩ := solve1 (L := L) (scr := scr) (d := d + 1) (g := g) (n := n) (P := P) (pay := pay) (W := W) (K := K) hn hP gn (fun k hk => by rw [ug.2 _ _ (by decide)]; exact ep k hk) hpay (by rw [ug.2 _ _ (by decide)]; exact ew) (by rw [ug.2 _ _ (by decide)]; exact ek) (fun m hm => by
    rw [hg, withR_hit]
    exact if_pos (by omega))
  obtain ⟨a, ha⟩ : ∃ a, a = withR g [(1213002304, 0, ro)] := ⟨_, rfl⟩
  have ua : Upd Scr g a := by
    rw [ha]
    exact withR_Upd (fun q hq => by
      rw [List.mem_singleton] at hq
      subst hq
      dsimp only
      decide)
  have am : ∀ s, s ≠ 1213002304 → hI a s 0 = hI g s 0 := fun s hs => by rw [ha, withR_miss (fun z => hs z.1)]; rfl
  obtain ⟨V, hV⟩ : ∃ V : Nat → Int32, V = fun k => oI (chP n P pay W K pu k (mkP n P pay W K pu k)) := ⟨_, rfl⟩
  obtain ⟨b, hb⟩ : ∃ b : Nat → MH, b = fun k => withR a [(506000008, 0, setF (hI a 506000008 0) V k), (507, 0, up (hI a 507 0) 0 (nI (svP n P pay W K pu k))), (508, 0, up (hI a 508 0) 0 (nI (cnP n P pay W K pu k)))] := ⟨_, rfl⟩
  have b0 : b 0 = a := by
    rw [hb]
    refine withR_id (fun q hq => ?_)
    simp only [List.mem_cons, List.not_mem_nil, or_false] at hq
    rcases hq with rfl | rfl | rfl
    · exact setF_0 _ V
    · exact up_id (by rw [am _ (by decide), gs]; rfl)
    · exact up_id (by rw [am _ (by decide), gc]; rfl)
  have ub : ∀ k, Upd Scr a (b k) := fun k => by
    rw [hb]
    exact withR_Upd (fun q hq => by
      simp only [List.mem_cons, List.not_mem_nil, or_false] at hq
      rcases hq with rfl | rfl | rfl <;> (dsimp only; decide))
  have uh : ∀ k, Upd Scr h (b k) := fun k => (ug.tr ua).tr (ub k)
  have bw : ∀ k, hI (b k) 1213002304 0 = ro := fun k => by
    rw [hb]
    show hI (withR a [(_, 0, _), (_, 0, _), (_, 0, _)]) 1213002304 0 = ro
    rw [withR_miss (by decide), withR_miss (by decide), withR_miss (by decide)]
    show hI a 1213002304 0 = ro
    rw [ha, withR_hit]
  have bS : ∀ k, hI (b k) 507 0 0 = nI (svP n P pay W K pu k) := fun k => by
    rw [hb]
    show hI (withR a [(_, 0, _), (_, 0, _), (_, 0, _)]) 507 0 0 = _
    rw [withR_miss (by decide), withR_hit, up_s]
  have bC : ∀ k, hI (b k) 508 0 0 = nI (cnP n P pay W K pu k) := fun k => by
    rw [hb]
    show hI (withR a [(_, 0, _), (_, 0, _), (_, 0, _)]) 508 0 0 = _
    rw [withR_miss (by decide), withR_miss (by decide), withR_hit, up_s]
  have bG : ∀ k, hI (b k) 506000008 0 = setF (hI a 506000008 0) V k := fun k => by
    rw [hb]; exact withR_hit
  refine ⟨b P, r_Guides_solve _ _ _ _ (Sm.step (t' := 2) (lo' := [some (vR 900004 0), some (vR 1213002304 0), some (vI (nI (2 ^ n))), some (vI (nI P - 1)), none]) (st' := []) (h' := g) ?_ (k1 _ ?_)), uh P, fun k hk => by rw [bG, setF_t hk, hV], bS P, bC P⟩
  · rw [t_Guides_solve_0, ← hh1, aln_work, if_pos (show (2304 : Int32) ≤ Int32.ofNat (lenOf 1213002304) from by decide), ef, clV_ok, gn, gP, shl_8 hn]
  rw [← ha, ← b0]
  refine Sm.for (lo := fun k => [some (vR 900004 0), some (vR 1213002304 0), some (vI (nI (2 ^ n))), some (vI (nI (mkP n P pay W K pu k))), some (vI (nI k))]) (hh := b) P (fun k hk => ?_) (Sm.ret ?_)
  · have hm := mkP_lt (n := n) (P := P) (pay := pay) (W := W) (K := K) (pu := pu) k
    have ec := c_choose (L := L) (scr := scr) (d := d + 1) (h := b k) (n := n) (P := P) (p := k) (m := mkP n P pay W K pu k) (pay := pay) (W := W) (K := K) (pu := pu) hn hP hk hm (by rw [(uh k).2 _ _ (by decide)]; exact en) (by rw [(uh k).2 _ _ (by decide)]; exact ep k hk) hpay (by rw [(uh k).2 _ _ (by decide)]; exact ew) (by rw [(uh k).2 _ _ (by decide)]; exact ek) (by rw [(uh k).2 _ _ (by decide)]; exact eu) (fun q m h1 h2 => by rw [bw]; exact k2 q m h1 h2)
    have ok : ¬ oob (nI k) 8 := oob_nI (by omega) (by decide)
    rw [t_Guides_solve_6, (uh k).2 503 0 (by decide), eP, if_neg (nI_ge hk (by omega)), ec, clI_ok, wr_Guides_guideOf ok, ix_nI (by omega), rd_Guides_guideOf ok, ix_nI (by omega), hI_rs, up_s, nI_1]
    have eV : V k = oI (chP n P pay W K pu k (mkP n P pay W K pu k)) := by rw [hV]
    have e506 : ∀ (S C : Nat → Int32), sI (withR a [(506000008, 0, setF (hI a 506000008 0) V k), (507, 0, S), (508, 0, C)]) 506000008 0 k (V k) = withR a [(506000008, 0, setF (hI a 506000008 0) V (k + 1)), (507, 0, S), (508, 0, C)] := fun S C => by rw [withR_set, setF_s]
    have ebk : sI (b k) 506000008 0 k (V k) = withR a [(506000008, 0, setF (hI a 506000008 0) V (k + 1)), (507, 0, up (hI a 507 0) 0 (nI (svP n P pay W K pu k))), (508, 0, up (hI a 508 0) 0 (nI (cnP n P pay W K pu k)))] := by rw [hb]; exact e506 _ _
    have es : b (k + 1) = withR a [(506000008, 0, setF (hI a 506000008 0) V (k + 1)), (507, 0, up (hI a 507 0) 0 (nI (svP n P pay W K pu (k + 1)))), (508, 0, up (hI a 508 0) 0 (nI (cnP n P pay W K pu (k + 1))))] := by rw [hb]
    rw [← eV, ebk]
    cases e : chP n P pay W K pu k (mkP n P pay W K pu k) with
    | none =>
      have m1 : mkP n P pay W K pu (k + 1) = mkP n P pay W K pu k := by show (match chP n P pay W K pu k (mkP n P pay W K pu k) with | none => _ | some g => _) = _; rw [e]
      have s1 : svP n P pay W K pu (k + 1) = svP n P pay W K pu k := by show (match chP n P pay W K pu k (mkP n P pay W K pu k) with | none => _ | some g => _) = _; rw [e]
      have c1 : cnP n P pay W K pu (k + 1) = cnP n P pay W K pu k := by show (match chP n P pay W K pu k (mkP n P pay W K pu k) with | none => _ | some g => _) = _; rw [e]
      rw [if_pos (show V k = -1 by rw [eV, e]; rfl), es, m1, s1, c1]
    | some x =>
      have hx : x < n := (chG_some e).1
      have m1 : mkP n P pay W K pu (k + 1) = mkP n P pay W K pu k ||| 2 ^ x := by show (match chP n P pay W K pu k (mkP n P pay W K pu k) with | none => _ | some g => _) = _; rw [e]
      have s1 : svP n P pay W K pu (k + 1) = svP n P pay W K pu k + 1 := by show (match chP n P pay W K pu k (mkP n P pay W K pu k) with | none => _ | some g => _) = _; rw [e]
      have c1 : cnP n P pay W K pu (k + 1) = cnP n P pay W K pu k + pay k := by show (match chP n P pay W K pu k (mkP n P pay W K pu k) with | none => _ | some g => _) = _; rw [e]
      have vx : V k = nI x := by rw [eV, e]; rfl
      rw [if_neg (show ¬ V k = -1 by rw [vx]; exact nI_ne1 (by omega)), rd_Guides_guideOf ok, ix_nI (by omega), withR_hit, setF_t (Nat.lt_succ_self k), vx, withR_miss (by decide), withR_hit, up_s, nI_1, withR_sI (by decide) withR_set, up_up, rd_Guides_pays ok, ix_nI (by omega), withR_miss (by decide), withR_miss (by decide), withR_hit, up_s, withR_miss (by decide), withR_miss (by decide), withR_miss (by decide), show hI (withR a []) 505000008 0 k = nI (pay k) by show hI a 505000008 0 k = _; rw [am _ (by decide), ug.2 _ _ (by decide)]; exact ep k hk, nI_add, withR_sI (by decide) (withR_sI (by decide) withR_set), up_up, or_nI (by omega) (by omega), es, m1, s1, c1]
  · rw [t_Guides_solve_6, (uh P).2 503 0 (by decide), eP, if_pos (nI_le (Nat.le_refl _) (by omega))]
end Guide

/-! CALL: rolled -/
section Ord
variable {a t : Nat → Nat} {n : Nat}
/-- the first d boats of the o-th order -/
def poT (a t : Nat → Nat) (n o d : Nat) : RP := prT a t n d (o / fac (n - d))
def boT (a t : Nat → Nat) (n o d : Nat) : Nat := nthL (poT a t n o d).1 (o / fac (n - (d + 1)) % (n - d))
theorem po_s {o d : Nat} (hd : d < n) : poT a t n o (d + 1) = exT a t d (poT a t n o d) (boT a t n o d) := by
  have e : o / fac (n - (d + 1)) / (n - d) = o / fac (n - d) := by
    rw [Nat.div_div_eq_div_mul, show n - d = (n - (d + 1)) + 1 by omega]
    show _ = o / ((n - (d + 1) + 1) * fac (n - (d + 1)))
    rw [Nat.mul_comm]
  show exT a t d (prT a t n d (o / fac (n - (d + 1)) / (n - d))) (nthL (prT a t n d (o / fac (n - (d + 1)) / (n - d))).1 (o / fac (n - (d + 1)) % (n - d))) = _
  rw [e]; rfl
theorem po_n {o : Nat} : poT a t n o n = prT a t n n o := by
  unfold poT
  rw [Nat.sub_self]
  show prT a t n n (o / 1) = _
  rw [Nat.div_one]
theorem po_ok (hn : n ≤ 7) {o d : Nat} (hd : d < n) : boT a t n o d < n ∧ (poT a t n o d).1 (boT a t n o d) = true ∧ lfN (poT a t n o d).1 (boT a t n o d) = o / fac (n - (d + 1)) % (n - d) := by
  obtain ⟨h1, -⟩ := pr_ok (a := a) (t := t) hn (show d ≤ n by omega) (o / fac (n - d))
  exact nth_ok hn (show _ < lfN (prT a t n d (o / fac (n - d))).1 n by rw [h1]; exact Nat.mod_lt _ (by omega))
theorem po_row {o i : Nat} : ∀ {d}, d ≤ n → i < d → (poT a t n o d).2.2.2 i = boT a t n o i
  | 0, _, h => absurd h (Nat.not_lt_zero _)
  | d + 1, hd, h => by
    rw [po_s (by omega)]
    show (if i = d then boT a t n o d else (poT a t n o d).2.2.2 i) = _
    by_cases c : i = d
    · rw [if_pos c, c]
    · rw [if_neg c, po_row (by omega) (by omega)]
theorem fac_dm {o r : Nat} : o % fac (r + 1) / fac r = o / fac r % (r + 1) ∧ o % fac (r + 1) % fac r = o % fac r := by
  have e : fac (r + 1) = fac r * (r + 1) := Nat.mul_comm _ _
  rw [e]
  exact ⟨Nat.mod_mul_right_div_self .., Nat.mod_mul_right_mod ..⟩
end Ord
theorem fac_le {n : Nat} (h : n ≤ 7) : fac n ≤ 5040 := by
  have k : ∀ n : Fin 8, fac n.val ≤ 5040 := by decide
  exact k ⟨n, by omega⟩
theorem or_bit {U b c : Nat} (hU : U < 128) (hb : b < 7) (hc : c < 7) : bitB (nI (U ||| 2 ^ b)) (nI c) = (bitB (nI U) (nI c) || Nat.beq c b) := by
  have k : ∀ U : Fin 128, ∀ b c : Fin 7, bitB (nI (U.val ||| 2 ^ b.val)) (nI c.val) = (bitB (nI U.val) (nI c.val) || Nat.beq c.val b.val) := by decide +kernel
  exact k ⟨U, hU⟩ ⟨b, hb⟩ ⟨c, hc⟩
theorem an_bit {U b : Nat} (hU : U < 128) (hb : b < 7) : ∃ V, V < 128 ∧ nI U &&& (((1 : Int32) <<< (nI b &&& 31)) ^^^ (-1)) = nI V ∧ ∀ c, c < 7 → bitB (nI V) (nI c) = (bitB (nI U) (nI c) && !Nat.beq c b) := by
  have k : ∀ U : Fin 128, ∀ b : Fin 7, nI U.val &&& (((1 : Int32) <<< (nI b.val &&& 31)) ^^^ (-1)) = nI (U.val &&& (127 ^^^ 2 ^ b.val)) := by decide +kernel
  have k2 : ∀ U : Fin 128, ∀ b c : Fin 7, bitB (nI (U.val &&& (127 ^^^ 2 ^ b.val))) (nI c.val) = (bitB (nI U.val) (nI c.val) && !Nat.beq c.val b.val) := by decide +kernel
  refine ⟨U &&& (127 ^^^ 2 ^ b), ?_, k ⟨U, hU⟩ ⟨b, hb⟩, fun c hc => k2 ⟨U, hU⟩ ⟨b, hb⟩ ⟨c, hc⟩⟩
  exact Nat.lt_of_le_of_lt Nat.and_le_left hU
theorem all_bit {n c : Nat} (hn : n ≤ 7) (hc : c < 7) : (1 : Int32) <<< (nI n &&& 31) - 1 = nI (2 ^ n - 1) ∧ 2 ^ n - 1 < 128 ∧ bitB (nI (2 ^ n - 1)) (nI c) = decide (c < n) := by
  have k : ∀ n : Fin 8, ∀ c : Fin 7, (1 : Int32) <<< (nI n.val &&& 31) - 1 = nI (2 ^ n.val - 1) ∧ 2 ^ n.val - 1 < 128 ∧ bitB (nI (2 ^ n.val - 1)) (nI c.val) = decide (c.val < n.val) := by decide +kernel
  exact k ⟨n, by omega⟩ ⟨c, hc⟩
section Rolled
variable {L : Nat} {scr : Nat → Int32} {d : Nat}
theorem cpI_row {h : MH} {s n t m len : Nat} (a b : Nat) : hI (cpI h s n 0 t m 0 len) a b = if a = t ∧ b = m then (fun c => if c < len then hI h s n c else hI h t m c) else hI h a b := by
  funext c
  show (if a = t ∧ b = m ∧ 0 ≤ c ∧ c < 0 + len then h.1 s n (0 + (c - 0)) else h.1 a b c) = _
  by_cases q : a = t ∧ b = m
  · obtain ⟨rfl, rfl⟩ := q
    rw [if_pos (show a = a ∧ b = b from ⟨rfl, rfl⟩)]
    by_cases e : c < len
    · rw [if_pos ⟨rfl, rfl, by omega, by omega⟩, Nat.zero_add, Nat.sub_zero]
      show _ = if c < len then _ else _
      rw [if_pos e]; rfl
    · rw [if_neg (fun z => e (by omega))]
      show _ = if c < len then _ else _
      rw [if_neg e]; rfl
  · rw [if_neg (fun z => q ⟨z.1, z.2.1⟩), if_neg q]; rfl
theorem cpI_Upd {W : List (Nat × Nat)} {h g : MH} {s n t m len : Nat} (u : Upd W h g) (hm : (t, m) ∈ W) : Upd W h (cpI g s n 0 t m 0 len) := ⟨u.1, fun a b hab => by rw [cpI_row, if_neg (fun z => hab (by rw [z.1, z.2]; exact hm)), u.2 a b hab]⟩
theorem cpyI_ok {X : Type} {h : MH} {s n t m N len : Nat} (hs : isRow s 0 = true) (ht : isRow t 0 = true) (ls : lenOf s = N) (lt : lenOf t = N) (hl : len ≤ N) (hN : N < 2 ^ 31) {k : MH → Option X} : cpyI h s n 0 t m 0 (nI len) k = k (cpI h s n 0 t m 0 len) := by
  have e : cpyI h s n 0 t m 0 (nI len) k = k (cpI h s n (ix 0) t m (ix 0) (ix (nI len))) := if_pos ⟨hs, ht, by
    rw [ls, lt, ix_nI (by omega)]
    have h0 : ix (0 : Int32) = 0 := by decide
    rw [h0]
    rintro (c | c | c | c | c)
    · exact absurd c (by decide)
    · exact absurd c (by decide)
    · exact nI_pos (by omega) c
    · omega
    · omega⟩
  rw [e, ix_nI (by omega), show ix (0 : Int32) = 0 by decide]
/-- the boats at the roller -/
def RoF (a t : Nat → Nat) (n : Nat) (h : MH) : Prop := hI h 900 0 0 = nI n ∧ (∀ k, hI h 901000007 0 k = nI (a k)) ∧ (∀ k, hI h 902000007 0 k = nI (t k))
abbrev WRo : List (Nat × Nat) := [(903, 0), (904000007, 0), (905000007, 0)]
/-- what the class found among the first k orders -/
def StR (a t : Nat → Nat) (n : Nat) (h0 h : MH) (k : Nat) : Prop := Upd WRo h0 h ∧ match bsO a t n k with
  | none => hI h 903 0 0 = 1000000
  | some p => hI h 903 0 0 = nI (wvT a t n p) ∧ ∀ i, i < n → hI h 904000007 0 i = nI ((prT a t n n p).2.2.2 i)
theorem RoF.up {a t : Nat → Nat} {n : Nat} {h0 h : MH} (f : RoF a t n h0) (u : Upd WRo h0 h) : RoF a t n h := by
  obtain ⟨f1, f2, f3⟩ := f
  exact ⟨by rw [u.2 _ _ (by decide)]; exact f1, by rw [u.2 _ _ (by decide)]; exact f2, by rw [u.2 _ _ (by decide)]; exact f3⟩
theorem c_place {a t : Nat → Nat} {n : Nat} (hn : n ≤ 7) (ha : ∀ b, a b ≤ 719) (ht : ∀ b, t b ≤ 99) {h0 : MH} (f0 : RoF a t n h0) : ∀ r, r ≤ n → ∀ q U h, U < 128 → (∀ b, b < n → bitB (nI U) (nI b) = !(prT a t n (n - r) q).1 b) → StR a t n h0 h (q * fac r) → (∀ i, i < n - r → hI h 905000007 0 i = nI ((prT a t n (n - r) q).2.2.2 i)) → ∃ h', E L scr (d + r + 2) 104 [vR 900008 0, vI (nI (n - r)), vI (nI U), vI (nI (prT a t n (n - r) q).2.1), vI (nI (prT a t n (n - r) q).2.2.1)] h = some (none, h') ∧ StR a t n h0 h' (q * fac r + fac r) ∧ ∀ i, i < n - r → hI h' 905000007 0 i = nI ((prT a t n (n - r) q).2.2.2 i) := by
  intro r
  induction r with
  | zero =>
    intro _ q U h hU hb hS hT
    have F := f0.up hS.1
    obtain ⟨bd1, bd2⟩ := wv_bd (n := n) ha ht hn (q := q) (Nat.le_refl n)
    rw [Nat.sub_zero] at hb hT ⊢
    have ef : q * fac 0 = q := Nat.mul_one q
    have ef2 : q * fac 0 + fac 0 = q + 1 := by rw [ef]; rfl
    rw [ef2]
    rw [ef] at hS
    obtain ⟨hU1, hS2⟩ := hS
    have ew : (prT a t n n q).2.2.1 = wvT a t n q := rfl
    rw [ew] at bd2 ⊢
    by_cases c : hI h 903 0 0 ≤ nI (wvT a t n q)
    · refine ⟨h, r_Roller_place _ _ _ _ _ _ (Sm.ret ?_), ⟨hU1, ?_⟩, hT⟩
      · rw [t_Roller_place_0, if_pos c]
      · cases eb : bsO a t n q with
        | none =>
          rw [eb] at hS2
          have hS2 : hI h 903 0 0 = 1000000 := hS2
          rw [hS2, Int32.le_iff_toInt_le, nI_toInt (by omega)] at c
          have : (1000000 : Int32).toInt = 1000000 := rfl
          omega
        | some p =>
          have bp := (wv_bd (n := n) ha ht hn (q := p) (Nat.le_refl n)).2
          have bp : wvT a t n p ≤ 9884 := bp
          rw [eb] at hS2
          have hS2 : hI h 903 0 0 = nI (wvT a t n p) ∧ _ := hS2
          rw [hS2.1] at c
          have c : wvT a t n p ≤ wvT a t n q := by
            rw [Int32.le_iff_toInt_le, nI_toInt (by omega), nI_toInt (by omega)] at c; omega
          rw [bs_stay eb 1 (fun x hx => by rw [show x = 0 by omega]; exact c)]
          exact hS2
    · refine ⟨cpI (sI h 903 0 0 (nI (wvT a t n q))) 905000007 0 0 904000007 0 0 n, r_Roller_place _ _ _ _ _ _ (Sm.ret ?_), ⟨cpI_Upd (hU1.sI (by decide)) (by decide), ?_⟩, fun i hi => ?_⟩
      · rw [t_Roller_place_0, if_neg c, F.1, if_pos (nI_le (Nat.le_refl n) (by omega)), if_pos rfl, cpyI_ok rfl rfl (N := 7) rfl rfl hn (by decide)]
      · have ebs : bsO a t n (q + 1) = some q := by
          show (match bsO a t n q with
            | none => some q
            | some p => if wvT a t n q < wvT a t n p then some q else some p) = some q
          cases eb : bsO a t n q with
          | none => rfl
          | some p =>
            have bp : wvT a t n p ≤ 9884 := (wv_bd (n := n) ha ht hn (q := p) (Nat.le_refl n)).2
            rw [eb] at hS2
            have hS2 : hI h 903 0 0 = nI (wvT a t n p) ∧ _ := hS2
            rw [hS2.1] at c
            have c : ¬ wvT a t n p ≤ wvT a t n q := fun z => c (nI_le z (by omega))
            exact if_pos (by omega)
        rw [ebs]
        refine ⟨?_, fun i hi => ?_⟩
        · rw [cpI_row, if_neg (by decide), hI_rs, up_s]
        · rw [cpI_row, if_pos ⟨rfl, rfl⟩]
          show (if i < n then hI (sI h 903 0 0 _) 905000007 0 i else _) = _
          rw [if_pos hi, hI_rn (by decide), hT i hi]
      · rw [cpI_row, if_neg (by decide), hI_rn (by decide), hT i hi]
  | succ r ih =>
    intro hr q U h hU hb hS hT
    have F := f0.up hS.1
    obtain ⟨D, hD⟩ : ∃ D, D = n - (r + 1) := ⟨_, rfl⟩
    have hD1 : n - r = D + 1 := by omega
    have hD2 : n - D = r + 1 := by omega
    rw [← hD] at hb hT ⊢
    obtain ⟨bd1, bd2⟩ := wv_bd (n := n) ha ht hn (q := q) (d := D) (by omega)
    obtain ⟨P, hP⟩ : ∃ P, P = prT a t n D q := ⟨_, rfl⟩
    rw [← hP] at hb hT bd1 bd2 ⊢
    obtain ⟨lf, lb⟩ := pr_ok (a := a) (t := t) hn (show D ≤ n by omega) q
    rw [← hP] at lf lb
    have efr : fac (r + 1) = (r + 1) * fac r := rfl
    by_cases c : hI h 903 0 0 ≤ nI P.2.2.1
    · refine ⟨h, r_Roller_place _ _ _ _ _ _ (Sm.ret ?_), ⟨hS.1, ?_⟩, hT⟩
      · rw [t_Roller_place_0, if_pos c]
      · have hS2 := hS.2
        cases eb : bsO a t n (q * fac (r + 1)) with
        | none =>
          rw [eb] at hS2
          have hS2 : hI h 903 0 0 = 1000000 := hS2
          rw [hS2, Int32.le_iff_toInt_le, nI_toInt (by omega)] at c
          have : (1000000 : Int32).toInt = 1000000 := rfl
          omega
        | some p =>
          have bp : wvT a t n p ≤ 9884 := (wv_bd (n := n) ha ht hn (q := p) (Nat.le_refl n)).2
          rw [eb] at hS2
          have hS2 : hI h 903 0 0 = nI (wvT a t n p) ∧ _ := hS2
          rw [hS2.1] at c
          have c : wvT a t n p ≤ P.2.2.1 := by
            rw [Int32.le_iff_toInt_le, nI_toInt (by omega), nI_toInt (by omega)] at c; omega
          rw [bs_stay eb (fac (r + 1)) (fun x hx => Nat.le_trans c (by
            have := pr_le (a := a) (t := t) (n := n) (r + 1) hr q x hx
            rw [← hD, ← hP] at this
            exact this))]
          exact hS2
    · have key : Sx L scr (d + r + 2) B_Roller_place C_Roller_place 0 [some (vR 900008 0), some (vI (nI D)), some (vI (nI U)), some (vI (nI P.2.1)), some (vI (nI P.2.2.1)), none, none] h (fun rr => ∃ h', rr = (none, h') ∧ StR a t n h0 h' (q * fac (r + 1) + fac (r + 1)) ∧ ∀ i, i < D → hI h' 905000007 0 i = nI (P.2.2.2 i)) := by
        refine Sx.step (t' := 4) (lo' := [some (vR 900008 0), some (vI (nI D)), some (vI (nI U)), some (vI (nI P.2.1)), some (vI (nI P.2.2.1)), some (vI (nI 0)), none]) (h' := h) ?_ (Sx.inv0 (P := fun b lo h' => ∃ z6, lo = [some (vR 900008 0), some (vI (nI D)), some (vI (nI U)), some (vI (nI P.2.1)), some (vI (nI P.2.2.1)), some (vI (nI b)), z6] ∧ StR a t n h0 h' (q * fac (r + 1) + lfN P.1 b * fac r) ∧ ∀ i, i < D → hI h' 905000007 0 i = nI (P.2.2.2 i)) n ⟨_, rfl, by rw [show lfN P.1 0 = 0 from rfl, Nat.zero_mul]; exact hS, hT⟩ ?_ ?_)
        · rw [t_Roller_place_0, if_neg c, F.1, if_pos (nI_le (show D ≤ n by omega) (by omega)), if_neg (fun z => (show D ≠ n by omega) ((nI_eq (by omega) (by omega)).mp z))]; rfl
        · rintro b hbn _ h2 ⟨z6, rfl, hS2, hT2⟩ kk
          have F2 := f0.up hS2.1
          have eb := hb b hbn
          cases eu : P.1 b with
          | false =>
            rw [eu] at eb
            refine Sx.step (t' := 4) (lo' := [some (vR 900008 0), some (vI (nI D)), some (vI (nI U)), some (vI (nI P.2.1)), some (vI (nI P.2.2.1)), some (vI (nI (b + 1))), z6]) (h' := h2) ?_ (kk _ _ ⟨_, rfl, by rw [lfN_f eu]; exact hS2, hT2⟩)
            rw [t_Roller_place_4, F2.1, if_neg (nI_ge hbn (by omega)), bit_zb, eb, if_neg (by decide), nI_1]
          | true =>
            rw [eu] at eb
            obtain ⟨lt, ch⟩ := pr_ch (a := a) (t := t) hn (show D < n by omega) q (b := b) (by rw [← hP]; exact eu)
            rw [← hP, hD2] at lt ch
            obtain ⟨q', hq'⟩ : ∃ q', q' = q * (r + 1) + lfN P.1 b := ⟨_, rfl⟩
            rw [← hq'] at ch
            have eq' : q' * fac r = q * fac (r + 1) + lfN P.1 b * fac r := by rw [hq', Nat.add_mul, Nat.mul_assoc]; rfl
            have vb := ha b
            have vt := ht b
            have i1 := ih (by omega) q' (U ||| 2 ^ b) (sI h2 905000007 0 D (nI b)) (Nat.or_lt_two_pow (n := 7) hU (Nat.pow_lt_pow_right (by decide) (by omega))) (fun x hx => by
              rw [hD1, ch, or_bit hU (by omega) (by omega), hb x hx]
              show _ = !(if x = b then false else P.1 x)
              by_cases e : x = b
              · rw [if_pos e, e, show Nat.beq b b = true from Nat.beq_refl b, Bool.or_true]; rfl
              · rw [if_neg e, show Nat.beq x b = false from by
                  cases z : Nat.beq x b with
                  | false => rfl
                  | true => exact absurd (Nat.eq_of_beq_eq_true z) e, Bool.or_false]) (by
              rw [eq']
              refine ⟨hS2.1.sI (by decide), ?_⟩
              have hh := hS2.2
              revert hh
              cases bsO a t n (q * fac (r + 1) + lfN P.1 b * fac r) with
              | none => intro hh; show hI _ _ _ _ = _; rw [hI_rn (by decide)]; exact hh
              | some p =>
                intro hh
                refine ⟨?_, fun i hi => ?_⟩
                · rw [hI_rn (by decide)]; exact hh.1
                · rw [hI_rn (by decide)]; exact hh.2 i hi) (fun i hi => by
              rw [hD1] at hi
              rw [hI_rs, hD1, ch]
              show up _ D (nI b) i = nI (if i = D then b else P.2.2.2 i)
              by_cases e : i = D
              · rw [if_pos e, e, up_s]
              · rw [if_neg e, up_n e, hT2 i (by omega)])
            rw [hD1, ch, eq'] at i1
            obtain ⟨h3, e3, S3, T3⟩ := i1
            have e3 : E L scr (d + r + 2) 104 [vR 900008 0, vI (nI (D + 1)), vI (nI (U ||| 2 ^ b)), vI (nI (max P.2.1 (a b) + t b)), vI (nI (P.2.2.1 + (max P.2.1 (a b) - a b)))] (sI h2 905000007 0 D (nI b)) = some (none, h3) := e3
            refine Sx.step (t' := 4) (lo' := [some (vR 900008 0), some (vI (nI D)), some (vI (nI U)), some (vI (nI P.2.1)), some (vI (nI P.2.2.1)), some (vI (nI (b + 1))), some (vI (nI (max P.2.1 (a b))))]) (h' := h3) ?_ (kk _ _ ⟨_, rfl, by rw [lfN_t eu, Nat.add_mul, Nat.one_mul, ← Nat.add_assoc]; exact S3, fun i hi => ?_⟩)
            · rw [t_Roller_place_4, F2.1, if_neg (nI_ge hbn (by omega)), bit_zb, eb, if_pos (by decide), rd_Roller_comes (oob_nI (by omega) (by decide)), ix_nI (by omega), F2.2.1, c_max, clI_ok, max_nI (by omega) (by omega), wr_Roller_turn (oob_nI (by omega) (by decide)), ix_nI (by omega), rd_Roller_takes (oob_nI (by omega) (by decide)), ix_nI (by omega), hI_rn (by decide), F2.2.2, rd_Roller_comes (oob_nI (by omega) (by decide)), ix_nI (by omega), hI_rn (by decide), F2.2.1, or_nI (by omega) (by omega), nI_add, nI_add, nI_sub (by omega), nI_1, show P.2.2.1 + max P.2.1 (a b) - a b = P.2.2.1 + (max P.2.1 (a b) - a b) by omega, e3, clV_ok, nI_1]
            · have := T3 i (by omega)
              rw [this]
              show nI (if i = D then b else P.2.2.2 i) = _
              rw [if_neg (by omega)]
        · rintro _ h2 ⟨z6, rfl, hS2, hT2⟩
          refine Sx.ret (r := (none, h2)) ?_ ⟨_, rfl, ?_, hT2⟩
          · rw [t_Roller_place_4, (f0.up hS2.1).1, if_pos (nI_le (Nat.le_refl n) (by omega))]
          · rw [lf, hD2, ← efr] at hS2
            exact hS2
      obtain ⟨_, k1, h', rfl, k2, k3⟩ := key
      exact ⟨h', r_Roller_place _ _ _ _ _ _ k1, k2, k3⟩
end Rolled

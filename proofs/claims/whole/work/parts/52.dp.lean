/-! CALLS: guided, pay: what can still be had from the later parties -/
/-- the greatest of a and of the candidates that may -/
def mxC (ok : Nat → Bool) (cand : Nat → Nat) (a : Nat) : Nat → Nat
  | 0 => a
  | g + 1 => if ok g = true then max (mxC ok cand a g) (cand g) else mxC ok cand a g
theorem mxC_t {ok : Nat → Bool} {cand : Nat → Nat} {a g : Nat} (h : ok g = true) : mxC ok cand a (g + 1) = max (mxC ok cand a g) (cand g) := if_pos h
theorem mxC_f {ok : Nat → Bool} {cand : Nat → Nat} {a g : Nat} (h : ok g = false) : mxC ok cand a (g + 1) = mxC ok cand a g := if_neg (by rw [h]; decide)
theorem mxC_ind {ok : Nat → Bool} {cand : Nat → Nat} {a : Nat} {Q : Nat → Prop} (ha : Q a) : ∀ {n : Nat}, (∀ g, g < n → ok g = true → Q (cand g)) → Q (mxC ok cand a n)
  | 0, _ => ha
  | g + 1, h => by
    have ih := mxC_ind (ok := ok) (cand := cand) ha (n := g) (fun k hk => h k (by omega))
    cases e : ok g with
    | false => rw [mxC_f e]; exact ih
    | true =>
      rw [mxC_t e]
      rcases Nat.le_total (mxC ok cand a g) (cand g) with c | c
      · rw [Nat.max_eq_right c]; exact h g (by omega) e
      · rw [Nat.max_eq_left c]; exact ih
/-- it is a or one of the candidates -/
theorem mxC_hit {ok : Nat → Bool} {cand : Nat → Nat} {a : Nat} : ∀ n, mxC ok cand a n = a ∨ ∃ g, g < n ∧ ok g = true ∧ mxC ok cand a n = cand g
  | 0 => Or.inl rfl
  | n + 1 => by
    have ih := mxC_hit (ok := ok) (cand := cand) (a := a) n
    cases e : ok n with
    | false =>
      rw [mxC_f e]
      rcases ih with h | ⟨g, h1, h2, h3⟩
      · exact Or.inl h
      · exact Or.inr ⟨g, by omega, h2, h3⟩
    | true =>
      rw [mxC_t e]
      rcases Nat.le_total (mxC ok cand a n) (cand n) with c | c
      · rw [Nat.max_eq_right c]; exact Or.inr ⟨n, Nat.lt_succ_self n, e, rfl⟩
      · rw [Nat.max_eq_left c]
        rcases ih with h | ⟨g, h1, h2, h3⟩
        · exact Or.inl h
        · exact Or.inr ⟨g, by omega, h2, h3⟩
/-- the most parties, then the most coin, of the last j parties with the guides of m away -/
def wF (n P : Nat) (pay : Nat → Nat) (ok : Nat → Nat → Nat → Bool) : Nat → Nat → Nat
  | 0, _ => 0
  | j + 1, m => mxC (fun g => ok g (P - (j + 1)) m) (fun g => 100000 + pay (P - (j + 1)) + wF n P pay ok j (m ||| 2 ^ g)) (wF n P pay ok j m) n
def goodW (j x : Nat) : Prop := ∃ c r, x = 100000 * c + r ∧ c ≤ j ∧ r ≤ 999 * j
theorem wF_good {n P : Nat} {pay : Nat → Nat} {ok : Nat → Nat → Nat → Bool} (hp : ∀ k, pay k ≤ 999) : ∀ j m, goodW j (wF n P pay ok j m)
  | 0, _ => ⟨0, 0, rfl, Nat.le_refl _, Nat.zero_le _⟩
  | j + 1, m => by
    show goodW (j + 1) (mxC _ _ _ n)
    refine mxC_ind (Q := goodW (j + 1)) ?_ (fun g hg hok => ?_)
    · obtain ⟨c, r, h1, h2, h3⟩ := wF_good hp j m
      exact ⟨c, r, h1, by omega, by omega⟩
    · obtain ⟨c, r, h1, h2, h3⟩ := wF_good (ok := ok) hp j (m ||| 2 ^ g)
      have := hp (P - (j + 1))
      exact ⟨c + 1, r + pay (P - (j + 1)), by rw [h1]; omega, by omega, by omega⟩
def conv (x : Nat) : Nat := 10000 * (x / 100000) + x % 100000
theorem conv_at {c r : Nat} (hr : r < 100000) : conv (100000 * c + r) = 10000 * c + r := by
  unfold conv
  rw [Nat.mul_add_div (by decide), Nat.mul_add_mod, Nat.div_eq_of_lt hr, Nat.mod_eq_of_lt hr]; omega
theorem conv_max {x y i j : Nat} (hx : goodW i x) (hi : i ≤ 8) (hy : goodW j y) (hj : j ≤ 8) : conv (max x y) = max (conv x) (conv y) := by
  obtain ⟨c, r, rfl, h2, h3⟩ := hx
  obtain ⟨c2, r2, rfl, g2, g3⟩ := hy
  rw [conv_at (by omega), conv_at (by omega)]
  rcases Nat.le_total (100000 * c + r) (100000 * c2 + r2) with q | q
  · rw [Nat.max_eq_right q, conv_at (by omega), Nat.max_eq_right (by omega)]
  · rw [Nat.max_eq_left q, conv_at (by omega), Nat.max_eq_left (by omega)]
theorem conv_add {x j p : Nat} (hx : goodW j x) (hj : j ≤ 7) (hp : p ≤ 999) : conv (100000 + p + x) = 10000 + p + conv x := by
  obtain ⟨c, r, rfl, h2, h3⟩ := hx
  have e : 100000 + p + (100000 * c + r) = 100000 * (c + 1) + (r + p) := by omega
  rw [e, conv_at (by omega), conv_at (by omega)]; omega
theorem conv_inj {x y i j : Nat} (hx : goodW i x) (hi : i ≤ 8) (hy : goodW j y) (hj : j ≤ 8) : conv x = conv y ↔ x = y := by
  obtain ⟨c, r, rfl, h2, h3⟩ := hx
  obtain ⟨c2, r2, rfl, g2, g3⟩ := hy
  rw [conv_at (by omega), conv_at (by omega)]; omega
theorem conv_le8 {x j : Nat} (hx : goodW j x) (hj : j ≤ 8) : conv x ≤ 87992 ∧ x ≤ 807992 := by
  obtain ⟨c, r, rfl, h2, h3⟩ := hx
  rw [conv_at (by omega)]; omega
theorem max_nI {x y : Nat} (hx : x < 2 ^ 31) (hy : y < 2 ^ 31) : (if nI x < nI y then nI y else nI x) = nI (max x y) := by
  by_cases c : x < y
  · rw [if_pos (nI_lt c hy), Nat.max_eq_right (by omega)]
  · rw [if_neg (nI_nlt (by omega) (by omega)), Nat.max_eq_left (by omega)]
theorem or_nI {m g : Nat} (hm : m < 256) (hg : g < 8) : nI m ||| ((1 : Int32) <<< (nI g &&& 31)) = nI (m ||| 2 ^ g) := by
  have k : ∀ m : Fin 256, ∀ g : Fin 8, nI m.val ||| ((1 : Int32) <<< (nI g.val &&& 31)) = nI (m.val ||| 2 ^ g.val) := by decide +kernel
  exact k ⟨m, hm⟩ ⟨g, hg⟩
theorem or_lt {m g n : Nat} (hm : m < 2 ^ n) (hg : g < n) : m ||| 2 ^ g < 2 ^ n := Nat.or_lt_two_pow hm (Nat.pow_lt_pow_right (by decide) hg)
/-- a piece of a row from s on -/
def stO (f : Nat → Int32) (s : Nat) (V : Nat → Int32) (n : Nat) : Nat → Int32 := fun c => if s ≤ c ∧ c < s + n then V (c - s) else f c
theorem stO_0 (f : Nat → Int32) (s : Nat) (V : Nat → Int32) : stO f s V 0 = f := by funext c; exact if_neg (by omega)
theorem stO_s (f : Nat → Int32) (s : Nat) (V : Nat → Int32) (n : Nat) : up (stO f s V n) (s + n) (V n) = stO f s V (n + 1) := by
  funext c
  unfold up stO
  by_cases h1 : c = s + n
  · rw [if_pos h1, if_pos (by omega), h1, Nat.add_sub_cancel_left]
  · rw [if_neg h1]
    by_cases h2 : s ≤ c ∧ c < s + n
    · rw [if_pos h2, if_pos (by omega)]
    · rw [if_neg h2, if_neg (by omega)]
theorem stO_in {f : Nat → Int32} {s : Nat} {V : Nat → Int32} {n k : Nat} (h : k < n) : stO f s V n (s + k) = V k := by
  unfold stO
  rw [if_pos (by omega), Nat.add_sub_cancel_left]
theorem stO_out {f : Nat → Int32} {s : Nat} {V : Nat → Int32} {n c : Nat} (h : c < s ∨ s + n ≤ c) : stO f s V n c = f c := if_neg (by omega)
section Dp
variable {L : Nat} {scr : Nat → Int32} {d : Nat}
/-- whether the guide g may take the party p with the guides of m away -/
def okG (wants knows : Nat → Int32) (g p m : Nat) : Bool := !bitB (nI m) (nI g) && decide ((wants p &&& (knows g ^^^ (-1))) = 0)
theorem c_canGuide {h : MH} {g p m : Nat} (hg : g < 8) (hp : p < 8) : E L scr (d + 1) 46 [vR 900004 0, vI (nI g), vI (nI p), vI (nI m)] h = some (some (vI (zb (okG (hI h 504000008 0) (hI h 501000008 0) g p m))), h) := by
  refine r_Guides_canGuide _ _ _ _ _ (Sm.ret ?_)
  rw [t_Guides_canGuide_0, bit_zb]
  unfold okG
  cases e : bitB (nI m) (nI g) with
  | true => rw [itT, rtZ0]; rfl
  | false =>
    rw [itF, rd_Guides_wants (oob_nI hp (by decide)), rd_Guides_knows (oob_nI hg (by decide)), ix_nI (by omega), ix_nI (by omega)]
    by_cases c : (hI h 504000008 0 p &&& (hI h 501000008 0 g ^^^ (-1))) = 0
    · rw [if_pos c, decide_eq_true c, rtZ1]; rfl
    · rw [if_neg c, decide_eq_false c, rtZ0]; rfl
theorem c_M_maySing {h : MH} {g p : Nat} (hg : g < 8) (hp : p < 8) : E L scr (d + 1) 305 [vR 900012 0, vI (nI g), vI (nI p)] h = some (some (vI (zb (decide ((hI h 1370000008 0 p &&& (hI h 1368000008 0 g ^^^ (-1))) = 0)))), h) := by
  refine r_M_maySing _ _ _ _ (Sm.ret ?_)
  rw [t_M_maySing_0, rd_M_partySongs (oob_nI hp (by decide)), rd_M_guideSongs (oob_nI hg (by decide)), ix_nI (by omega), ix_nI (by omega)]
  by_cases c : (hI h 1370000008 0 p &&& (hI h 1368000008 0 g ^^^ (-1))) = 0
  · rw [if_pos c, decide_eq_true c, rtZ1]; rfl
  · rw [if_neg c, decide_eq_false c, rtZ0]; rfl
theorem c_worth {h : MH} {n P p j m : Nat} {pay : Nat → Nat} {W K : Nat → Int32} (hn : n ≤ 8) (hP : P ≤ 8) (hj : p + (j + 1) = P) (hm : m < 2 ^ n) (en : hI h 500 0 0 = nI n) (ep : hI h 505000008 0 p = nI (pay p)) (hpay : ∀ k, pay k ≤ 999) (ew : hI h 504000008 0 = W) (ek : hI h 501000008 0 = K) (hr : ∀ m, m < 2 ^ n → hI h 1213002304 0 (256 * (p + 1) + m) = nI (conv (wF n P pay (okG W K) j m))) : E L scr (d + 2) 48 [vR 900004 0, vR 1213002304 0, vI (nI p), vI (nI m)] h = some (some (vI (nI (conv (wF n P pay (okG W K) (j + 1) m)))), h) := by
  have p256 : 2 ^ n ≤ 256 := Nat.pow_le_pow_right (n := 2) (by decide) hn
  have hpj : P - (j + 1) = p := by omega
  have idx : ∀ m, m < 2 ^ n → (p + 1) * 256 + m < 2304 := fun m hm => by omega
  obtain ⟨X, hX⟩ : ∃ X, X = mxC (fun g => okG W K g p m) (fun g => 100000 + pay p + wF n P pay (okG W K) j (m ||| 2 ^ g)) (wF n P pay (okG W K) j m) := ⟨_, rfl⟩
  have eX : wF n P pay (okG W K) (j + 1) m = X n := by
    rw [hX]
    show mxC (fun g => okG W K g (P - (j + 1)) m) _ _ n = _
    rw [hpj]
  have gX : ∀ g, g ≤ n → goodW (j + 1) (X g) := fun g hg => by
    rw [hX]
    refine mxC_ind (Q := goodW (j + 1)) ?_ (fun g hg hok => ?_)
    · obtain ⟨c, r, h1, h2, h3⟩ := wF_good (n := n) (P := P) (ok := okG W K) hpay j m
      exact ⟨c, r, h1, by omega, by omega⟩
    · obtain ⟨c, r, h1, h2, h3⟩ := wF_good (n := n) (P := P) (ok := okG W K) hpay j (m ||| 2 ^ g)
      have := hpay p
      exact ⟨c + 1, r + pay p, by rw [h1]; omega, by omega, by omega⟩
  rw [eX]
  refine r_Guides_worth _ _ _ _ _ _ (Sm.step (t' := 1) (lo' := [some (vR 900004 0), some (vR 1213002304 0), some (vI (nI p)), some (vI (nI m)), some (vI (nI ((p + 1) * 256))), some (vI (nI (conv (X 0)))), some (vI 0)]) (st' := []) (h' := h) ?_ ?_)
  · rw [t_Guides_worth_0, nI_1, show (256 : Int32) = nI 256 from rfl, nI_mul, nI_add, rd_P_work (oob_nI (idx m hm) (by decide)), ix_nI (by have := idx m hm; omega), Nat.mul_comm, hr m hm, hX]; rfl
  refine Sm.for (lo := fun g => [some (vR 900004 0), some (vR 1213002304 0), some (vI (nI p)), some (vI (nI m)), some (vI (nI ((p + 1) * 256))), some (vI (nI (conv (X g)))), some (vI (nI g))]) (hh := fun _ => h) n (fun g hg => ?_) (Sm.ret ?_)
  · rw [t_Guides_worth_1, en, if_neg (nI_ge hg (by omega)), c_canGuide (by omega) (by omega), clI_ok, ew, ek, nI_1]
    cases e : okG W K g p m with
    | false =>
      have e2 : X (g + 1) = X g := by rw [hX]; exact mxC_f (ok := fun g => okG W K g p m) e
      rw [itF, e2]
    | true =>
      have ho := or_lt hm hg
      have hio := idx _ ho
      have hl := wF_good (n := n) (P := P) (ok := okG W K) hpay j (m ||| 2 ^ g)
      have b1 := (conv_le8 (gX g (by omega)) (by omega)).1
      have b2 := (conv_le8 hl (by omega)).1
      have b3 := hpay p
      have e2 : X (g + 1) = max (X g) (100000 + pay p + wF n P pay (okG W K) j (m ||| 2 ^ g)) := by rw [hX]; exact mxC_t (ok := fun g => okG W K g p m) e
      have gc : goodW (j + 1) (100000 + pay p + wF n P pay (okG W K) j (m ||| 2 ^ g)) := by
        obtain ⟨c, r, h1, h2, h3⟩ := hl
        exact ⟨c + 1, r + pay p, by rw [h1]; omega, by omega, by omega⟩
      rw [itT, or_nI (by omega) (by omega), nI_add, rd_P_work (oob_nI hio (by decide)), ix_nI (by omega), Nat.mul_comm, hr _ ho, rd_Guides_pays (oob_nI (by omega) (by decide)), ix_nI (by omega), ep, show (10000 : Int32) = nI 10000 from rfl, nI_add, nI_add, c_max, clI_ok, max_nI (by omega) (by omega), e2, conv_max (gX g (by omega)) (by omega) gc (by omega), conv_add hl (by omega) b3, show conv (wF n P pay (okG W K) j (m ||| 2 ^ g)) + 10000 + pay p = 10000 + pay p + conv (wF n P pay (okG W K) j (m ||| 2 ^ g)) by omega]
  · rw [t_Guides_worth_1, en, if_pos (nI_le (Nat.le_refl _) (by omega))]
end Dp

/-! For keep and least: what is served, as a sum over what may come -/
/-- a loop with whatever stands in its stale locals -/
theorem Sm.inv {L : Nat} {scr : Nat → Int32} {d : Nat} {bs : List Blk} {cs : List Nat} {t : Nat} {r : RT} (P : Nat → List (Option MV) → MH → Prop) (n : Nat) (st : ∀ k, k < n → ∀ lo h, P k lo h → (∀ lo' h', P (k + 1) lo' h' → Sm L scr d bs cs t lo' [] h' r) → Sm L scr d bs cs t lo [] h r) (fin : ∀ lo h, P n lo h → Sm L scr d bs cs t lo [] h r) : ∀ j, j ≤ n → ∀ lo h, P (n - j) lo h → Sm L scr d bs cs t lo [] h r
  | 0, _, lo, h, p => fin lo h p
  | j + 1, hj, lo, h, p => st (n - (j + 1)) (by omega) lo h p (fun lo' h' p' => Sm.inv P n st fin j (by omega) lo' h' (by rw [show n - j = n - (j + 1) + 1 by omega]; exact p'))
theorem Sm.inv0 {L : Nat} {scr : Nat → Int32} {d : Nat} {bs : List Blk} {cs : List Nat} {t : Nat} {r : RT} (P : Nat → List (Option MV) → MH → Prop) (n : Nat) {lo : List (Option MV)} {h : MH} (p : P 0 lo h) (st : ∀ k, k < n → ∀ lo h, P k lo h → (∀ lo' h', P (k + 1) lo' h' → Sm L scr d bs cs t lo' [] h' r) → Sm L scr d bs cs t lo [] h r) (fin : ∀ lo h, P n lo h → Sm L scr d bs cs t lo [] h r) : Sm L scr d bs cs t lo [] h r := Sm.inv P n st fin n (Nat.le_refl n) lo h (by rw [Nat.sub_self]; exact p)
theorem ffst_is {p : Nat → Bool} {n k : Nat} (hk : k < n) (hp : p k = true) (h : ∀ j, j < k → p j = false) : ffst p n = some k := by
  cases e : ffst p n with
  | none => have := ffst_none e k hk; rw [hp] at this; cases this
  | some j =>
    obtain ⟨h1, h2, h3⟩ := ffst_some e
    rcases Nat.lt_trichotomy j k with c | c | c
    · have := h j c; rw [h2] at this; cases this
    · rw [c]
    · have := h3 k c; rw [hp] at this; cases this
theorem ffst_no {p : Nat → Bool} {n : Nat} (h : ∀ j, j < n → p j = false) : ffst p n = none := by
  cases e : ffst p n with
  | none => rfl
  | some j =>
    obtain ⟨h1, h2, -⟩ := ffst_some e
    have := h j h1; rw [h2] at this; cases this
/-- a row with something added at one place -/
def adT (f : Nat → Nat) (i v : Nat) : Nat → Nat := fun c => if c = i then f c + v else f c
/-- the sum of the first n of f weighed by u -/
def phi (u f : Nat → Nat) : Nat → Nat
  | 0 => 0
  | n + 1 => phi u f n + f n * u n
theorem phi_ad {u f : Nat → Nat} {i v : Nat} : ∀ n, phi u (adT f i v) n = phi u f n + if i < n then v * u i else 0
  | 0 => by rw [if_neg (Nat.not_lt_zero _)]; rfl
  | n + 1 => by
    show phi u (adT f i v) n + adT f i v n * u n = phi u f n + f n * u n + _
    rw [phi_ad n]
    unfold adT
    by_cases c : n = i
    · subst c
      rw [if_neg (Nat.lt_irrefl _), if_pos rfl, if_pos (Nat.lt_succ_self _), Nat.add_mul, Nat.add_zero, Nat.add_assoc]
    · rw [if_neg c]
      by_cases c2 : i < n
      · rw [if_pos c2, if_pos (by omega), Nat.add_right_comm]
      · rw [if_neg c2, if_neg (by omega), Nat.add_zero, Nat.add_zero]
theorem phi_c {u w f : Nat → Nat} : ∀ {n}, (∀ k, k < n → u k = w k) → phi u f n = phi w f n
  | 0, _ => rfl
  | n + 1, h => by
    show phi u f n + _ = phi w f n + _
    rw [phi_c (fun k hk => h k (by omega)), h n (by omega)]
theorem phi_add {u w f : Nat → Nat} {m : Nat} : ∀ n, phi (fun s => u s * m + w s) f n = m * phi u f n + phi w f n
  | 0 => by rw [show phi u f 0 = 0 from rfl, Nat.mul_zero]; rfl
  | n + 1 => by
    show phi _ f n + f n * (u n * m + w n) = m * (phi u f n + f n * u n) + (phi w f n + f n * w n)
    rw [phi_add n, Nat.mul_add, Nat.mul_add, show f n * (u n * m) = m * (f n * u n) by rw [← Nat.mul_assoc, Nat.mul_comm]]
    omega
theorem phi_m {f : Nat → Nat} {m : Nat} : ∀ n, phi (fun _ => m) f n = m * phi (fun _ => 1) f n
  | 0 => (Nat.mul_zero m).symm
  | n + 1 => by
    show phi _ f n + f n * m = m * (phi _ f n + f n * 1)
    rw [phi_m n, Nat.mul_add, Nat.mul_one, Nat.mul_comm (f n) m]
theorem phi_one {f : Nat → Nat} {t : Nat} : ∀ {n}, t < n → f t ≤ phi (fun _ => 1) f n
  | 0, h => absurd h (Nat.not_lt_zero t)
  | n + 1, h => by
    show _ ≤ phi _ f n + f n * 1
    rcases Nat.lt_or_ge t n with c | c
    · have := phi_one (f := f) c; omega
    · have : t = n := by omega
      subst this; omega
/-- one hour's parts, weighed by g -/
def roS (c : Nat → Nat) (b : Nat) (g : Nat → Nat) : Nat → Nat
  | 0 => 0
  | p + 1 => roS c b g p + c (b + p) * g p
theorem roS_c {c : Nat → Nat} {b : Nat} {g g2 : Nat → Nat} : ∀ {n}, (∀ p, p < n → g p = g2 p) → roS c b g n = roS c b g2 n
  | 0, _ => rfl
  | n + 1, h => by
    show roS c b g n + _ = roS c b g2 n + _
    rw [roS_c (fun k hk => h k (by omega)), h n (by omega)]
theorem roS_m {c : Nat → Nat} {b m : Nat} : ∀ n, roS c b (fun _ => m) n = roS c b (fun _ => 1) n * m
  | 0 => (Nat.zero_mul m).symm
  | n + 1 => by
    show roS c b (fun _ => m) n + c (b + n) * m = (roS c b (fun _ => 1) n + c (b + n) * 1) * m
    rw [roS_m n, Nat.add_mul, Nat.mul_one]
theorem roS_le {c : Nat → Nat} {b m : Nat} {g : Nat → Nat} : ∀ {n}, (∀ p, p < n → g p ≤ m) → roS c b g n ≤ roS c b (fun _ => 1) n * m
  | 0, _ => Nat.zero_le _
  | n + 1, h => by
    show roS c b g n + c (b + n) * g n ≤ (roS c b (fun _ => 1) n + c (b + n) * 1) * m
    have h1 := roS_le (c := c) (b := b) (m := m) (g := g) (n := n) (fun p hp => h p (by omega))
    have h2 := Nat.mul_le_mul_left (c (b + n)) (h n (by omega))
    rw [Nat.add_mul, Nat.mul_one]
    omega
theorem roS_hr {c : Nat → Nat} {i : Nat} : ∀ n, roS c (6 * i) (fun _ => 1) n = hrS c i n
  | 0 => rfl
  | n + 1 => by
    show roS c (6 * i) (fun _ => 1) n + c (6 * i + n) * 1 = _
    rw [roS_hr n, hrS_s, Nat.mul_one]
/-- one state's hour: where its weight goes -/
def roP (c : Nat → Nat) (b : Nat) (nx : Nat → Nat) (w : Nat) (f : Nat → Nat) : Nat → (Nat → Nat)
  | 0 => f
  | p + 1 => adT (roP c b nx w f p) (nx p) (w * c (b + p))
theorem roP_0 {c : Nat → Nat} {b : Nat} {nx : Nat → Nat} {f : Nat → Nat} : ∀ n, roP c b nx 0 f n = f
  | 0 => rfl
  | n + 1 => by
    show adT (roP c b nx 0 f n) (nx n) (0 * c (b + n)) = f
    rw [roP_0 n, Nat.zero_mul]
    funext k
    unfold adT
    split <;> rfl
theorem phi_ro {c : Nat → Nat} {b w : Nat} {nx u f : Nat → Nat} : ∀ {n}, (∀ p, p < n → nx p < 36) → phi u (roP c b nx w f n) 36 = phi u f 36 + w * roS c b (fun p => u (nx p)) n
  | 0, _ => rfl
  | n + 1, h => by
    show phi u (adT (roP c b nx w f n) (nx n) (w * c (b + n))) 36 = phi u f 36 + w * (roS c b (fun p => u (nx p)) n + c (b + n) * u (nx n))
    rw [phi_ad, if_pos (h n (by omega)), phi_ro (fun p hp => h p (by omega)), Nat.mul_add, Nat.mul_assoc, Nat.add_assoc]
/-- the states of an hour, one after another -/
def stP (c : Nat → Nat) (b : Nat) (nx : Nat → Nat → Nat) (V : Nat → Nat) : Nat → (Nat → Nat)
  | 0 => fun _ => 0
  | s + 1 => roP c b (nx s) (V s) (stP c b nx V s) 6
theorem phi_0 {u : Nat → Nat} : ∀ n, phi u (fun _ => 0) n = 0
  | 0 => rfl
  | n + 1 => by
    show phi u (fun _ => 0) n + 0 * u n = 0
    rw [phi_0 n, Nat.zero_mul]
def NxOk (nx : Nat → Nat → Nat) : Prop := ∀ s, s < 36 → ∀ p, p < 6 → nx s p < 36
theorem phi_st {c : Nat → Nat} {b : Nat} {nx : Nat → Nat → Nat} (hn : NxOk nx) {V u : Nat → Nat} : ∀ {j}, j ≤ 36 → phi u (stP c b nx V j) 36 = phi (fun s => roS c b (fun p => u (nx s p)) 6) V j
  | 0, _ => phi_0 36
  | j + 1, hj => by
    show phi u (roP c b (nx j) (V j) (stP c b nx V j) 6) 36 = phi _ V j + V j * _
    rw [phi_ro (hn j (by omega)), phi_st hn (by omega)]
/-- the weights ahead of hour h -/
def wtP (c : Nat → Nat) (nx : Nat → Nat → Nat) : Nat → (Nat → Nat)
  | 0 => fun t => if t = 0 then 1 else 0
  | h + 1 => stP c (6 * h) nx (wtP c nx h) 36
def Wh (c : Nat → Nat) : Prop := ∀ i, i < 12 → roS c (6 * i) (fun _ => 1) 6 = 10
theorem wt_mass {c : Nat → Nat} (hw : Wh c) {nx : Nat → Nat → Nat} (hn : NxOk nx) : ∀ {h}, h ≤ 12 → phi (fun _ => 1) (wtP c nx h) 36 = 10 ^ h
  | 0, _ => rfl
  | h + 1, hh => by
    show phi (fun _ => 1) (stP c (6 * h) nx (wtP c nx h) 36) 36 = _
    rw [phi_st hn (Nat.le_refl _), phi_c (w := fun _ => 10) (fun s _ => hw h (by omega)), phi_m, wt_mass hw hn (by omega), Nat.pow_succ, Nat.mul_comm]
theorem wt_le {c : Nat → Nat} (hw : Wh c) {nx : Nat → Nat → Nat} (hn : NxOk nx) {h t : Nat} (hh : h ≤ 12) (ht : t < 36) : wtP c nx h t < 2 ^ 63 := by
  have h1 := phi_one (f := wtP c nx h) ht
  rw [wt_mass hw hn hh] at h1
  have h2 : 10 ^ h ≤ 10 ^ 12 := Nat.pow_le_pow_right (by decide) hh
  have h3 : (10 : Nat) ^ 12 < 2 ^ 63 := by decide
  omega
/-- what an hour serves in a state -/
def goS (c : Nat → Nat) (b t : Nat) : Nat → Nat := roS c b (fun p => min p t)
/-- what the last r hours serve from a state on -/
def vaP (c : Nat → Nat) (nx : Nat → Nat → Nat) (th : Nat → Nat) : Nat → Nat → Nat
  | 0, _ => 0
  | r + 1, s => goS c (6 * (11 - r)) (th s) 6 * 10 ^ r + roS c (6 * (11 - r)) (fun p => vaP c nx th r (nx s p)) 6
def hoP (c : Nat → Nat) (nx : Nat → Nat → Nat) (th : Nat → Nat) (h : Nat) : Nat → Nat := phi (fun s => goS c (6 * h) (th s) 6) (wtP c nx h)
/-- served in the first h hours, in parts of the whole -/
def toP (c : Nat → Nat) (nx : Nat → Nat → Nat) (th : Nat → Nat) : Nat → Nat
  | 0 => 0
  | h + 1 => toP c nx th h + 10 ^ (11 - h) * hoP c nx th h 36
/-- the same, in tenths of tenths .. -/
def seP (c : Nat → Nat) (nx : Nat → Nat → Nat) (th : Nat → Nat) : Nat → Nat
  | 0 => 0
  | h + 1 => seP c nx th h * 10 + hoP c nx th h 36
theorem to_va {c : Nat → Nat} {nx : Nat → Nat → Nat} (hn : NxOk nx) {th : Nat → Nat} : ∀ {h}, h ≤ 12 → toP c nx th h + phi (vaP c nx th (12 - h)) (wtP c nx h) 36 = phi (vaP c nx th 12) (wtP c nx 0) 36
  | 0, _ => Nat.zero_add _
  | h + 1, hh => by
    have ih := to_va (c := c) hn (th := th) (h := h) (by omega)
    have e : 12 - h = (11 - h) + 1 := by omega
    have e2 : 11 - (11 - h) = h := by omega
    rw [← ih, e]
    show toP c nx th h + 10 ^ (11 - h) * hoP c nx th h 36 + phi (vaP c nx th (12 - (h + 1))) (stP c (6 * h) nx (wtP c nx h) 36) 36 = _
    rw [phi_st hn (Nat.le_refl _), Nat.add_assoc]
    refine congrArg (toP c nx th h + ·) ?_
    show _ = phi (fun s => goS c (6 * (11 - (11 - h))) (th s) 6 * 10 ^ (11 - h) + roS c (6 * (11 - (11 - h))) (fun p => vaP c nx th (11 - h) (nx s p)) 6) (wtP c nx h) 36
    rw [e2, phi_add, show 12 - (h + 1) = 11 - h by omega]
    rfl
theorem to_12 {c : Nat → Nat} {nx : Nat → Nat → Nat} (hn : NxOk nx) {th : Nat → Nat} : toP c nx th 12 = vaP c nx th 12 0 := by
  have h := to_va (c := c) hn (th := th) (h := 12) (Nat.le_refl _)
  rw [show 12 - 12 = 0 from rfl, show vaP c nx th 0 = fun _ => 0 from rfl, phi_m, Nat.zero_mul, Nat.add_zero] at h
  rw [h]
  generalize vaP c nx th 12 = U
  have z : ∀ n, phi U (wtP c nx 0) (n + 1) = U 0 := by
    intro n
    induction n with
    | zero =>
      show 0 + (if 0 = 0 then 1 else 0) * U 0 = _
      rw [if_pos rfl, Nat.zero_add, Nat.one_mul]
    | succ n ih =>
      show phi U (wtP c nx 0) (n + 1) + (if n + 1 = 0 then 1 else 0) * U (n + 1) = _
      rw [ih, if_neg (Nat.succ_ne_zero n), Nat.zero_mul, Nat.add_zero]
  exact z 35
theorem se_to {c : Nat → Nat} {nx : Nat → Nat → Nat} {th : Nat → Nat} : ∀ {h}, h ≤ 12 → seP c nx th h * 10 ^ (12 - h) = toP c nx th h
  | 0, _ => Nat.zero_mul _
  | h + 1, hh => by
    have ih := se_to (c := c) (nx := nx) (th := th) (h := h) (by omega)
    show (seP c nx th h * 10 + hoP c nx th h 36) * 10 ^ (12 - (h + 1)) = toP c nx th h + 10 ^ (11 - h) * hoP c nx th h 36
    rw [← ih, show 12 - (h + 1) = 11 - h by omega, show 12 - h = (11 - h) + 1 by omega, Nat.pow_succ, Nat.add_mul, Nat.mul_assoc, Nat.mul_comm 10 (10 ^ (11 - h)), Nat.mul_comm (hoP c nx th h 36)]
theorem se_12 {c : Nat → Nat} {nx : Nat → Nat → Nat} (hn : NxOk nx) {th : Nat → Nat} : seP c nx th 12 = vaP c nx th 12 0 := by
  rw [← to_12 hn, ← se_to (Nat.le_refl 12), Nat.sub_self, Nat.pow_zero, Nat.mul_one]
theorem va_le {c : Nat → Nat} (hw : Wh c) {nx : Nat → Nat → Nat} {th : Nat → Nat} : ∀ {r}, r ≤ 12 → ∀ s, vaP c nx th r s ≤ 5 * r * 10 ^ r
  | 0, _, _ => Nat.zero_le _
  | r + 1, hr, s => by
    show goS c (6 * (11 - r)) (th s) 6 * 10 ^ r + roS c (6 * (11 - r)) (fun p => vaP c nx th r (nx s p)) 6 ≤ 5 * (r + 1) * 10 ^ (r + 1)
    have h1 : goS c (6 * (11 - r)) (th s) 6 ≤ 10 * 5 := by
      have := roS_le (c := c) (b := 6 * (11 - r)) (g := fun p => min p (th s)) (m := 5) (n := 6) (fun p hp => by show min p (th s) ≤ 5; omega)
      rw [hw (11 - r) (by omega)] at this
      exact this
    have h2 := roS_le (c := c) (b := 6 * (11 - r)) (g := fun p => vaP c nx th r (nx s p)) (m := 5 * r * 10 ^ r) (n := 6) (fun p hp => va_le hw (by omega) _)
    rw [hw (11 - r) (by omega)] at h2
    have h3 := Nat.mul_le_mul_right (10 ^ r) h1
    have e : 5 * (r + 1) * 10 ^ (r + 1) = 10 * 5 * 10 ^ r + 10 * (5 * r * 10 ^ r) := by
      rw [Nat.pow_succ, Nat.mul_add, Nat.add_mul]
      generalize 10 ^ r = x
      rw [Nat.mul_comm x 10, ← Nat.mul_assoc, ← Nat.mul_assoc (5 * 1), ← Nat.mul_assoc 10 (5 * r), Nat.mul_comm (5 * r) 10]
      omega
    omega
theorem va_lt {c : Nat → Nat} (hw : Wh c) {nx : Nat → Nat → Nat} {th : Nat → Nat} : vaP c nx th 12 0 ≤ 60000000000000 := Nat.le_trans (va_le hw (Nat.le_refl _) 0) (by decide)
/-- the class's states are the reference's but for what no longer matters -/
theorem va_pi {c : Nat → Nat} {nx nx2 : Nat → Nat → Nat} {th th2 : Nat → Nat} {g : Nat → Nat} (hn : NxOk nx) (ht : ∀ s, s < 36 → th2 (g s) = th s) (hx : ∀ s, s < 36 → ∀ p, p < 6 → nx2 (g s) p = g (nx s p)) : ∀ r s, s < 36 → vaP c nx2 th2 r (g s) = vaP c nx th r s
  | 0, _, _ => rfl
  | r + 1, s, hs => by
    show goS c (6 * (11 - r)) (th2 (g s)) 6 * 10 ^ r + roS c (6 * (11 - r)) (fun p => vaP c nx2 th2 r (nx2 (g s) p)) 6 = goS c (6 * (11 - r)) (th s) 6 * 10 ^ r + roS c (6 * (11 - r)) (fun p => vaP c nx th r (nx s p)) 6
    rw [ht s hs, roS_c (g2 := fun p => vaP c nx th r (nx s p)) (fun p hp => by
      show vaP c nx2 th2 r (nx2 (g s) p) = _
      rw [hx s hs p hp]
      exact va_pi hn ht hx r _ (hn s hs p hp))]
/-- the class's states -/
def thC (k s : Nat) : Nat := k - (s / 6 + s % 6)
def nxC (n k s p : Nat) : Nat := (if 2 ≤ n then min p (thC k s) * 6 else 0) + (if 3 ≤ n then s / 6 else 0)
/-- the reference's -/
def thM (n k s : Nat) : Nat := k - ((if 2 ≤ n then s / 6 else 0) + (if 3 ≤ n then s % 6 else 0))
def nxM (n k s p : Nat) : Nat := 6 * min p (thM n k s) + s / 6
theorem nxC_ok (n k : Nat) : NxOk (nxC n k) := by
  intro s hs p hp
  unfold nxC
  split <;> split <;> omega
theorem nxM_ok (n k : Nat) : NxOk (nxM n k) := by
  intro s hs p hp
  unfold nxM
  omega
def piS (n s : Nat) : Nat := (if 2 ≤ n then 6 * (s / 6) else 0) + (if 3 ≤ n then s % 6 else 0)
theorem va_CM {c : Nat → Nat} {n k : Nat} (hn : 1 ≤ n) (hn3 : n ≤ 3) : vaP c (nxC n k) (thC k) 12 0 = vaP c (nxM n k) (thM n k) 12 0 := by
  have hpi : ∀ s, s < 36 → piS n s / 6 = (if 2 ≤ n then s / 6 else 0) ∧ piS n s % 6 = (if 3 ≤ n then s % 6 else 0) := by
    intro s hs
    unfold piS
    rcases (show n = 1 ∨ n = 2 ∨ n = 3 by omega) with rfl | rfl | rfl <;> simp <;> omega
  have ht : ∀ s, s < 36 → thC k (piS n s) = thM n k s := by
    intro s hs
    unfold thC thM
    rw [(hpi s hs).1, (hpi s hs).2]
  have hx : ∀ s, s < 36 → ∀ p, p < 6 → nxC n k (piS n s) p = piS n (nxM n k s p) := by
    intro s hs p hp
    unfold nxC
    rw [ht s hs, (hpi s hs).1]
    unfold piS nxM
    obtain ⟨m, hm⟩ : ∃ m, m = min p (thM n k s) := ⟨_, rfl⟩
    rw [← hm]
    rcases (show n = 1 ∨ n = 2 ∨ n = 3 by omega) with rfl | rfl | rfl <;> simp <;> omega
  have := va_pi (c := c) (nxM_ok n k) ht hx 12 0 (by decide)
  rw [← this]
  rw [show piS n 0 = 0 by unfold piS; split <;> split <;> rfl]

/-! BITS counted: the word's halves added, and one after another -/
theorem and_cat (h m : Nat) {l n : Nat} (hl : l < 2 ^ 8) (hn : n < 2 ^ 8) : (2 ^ 8 * h + l) &&& (2 ^ 8 * m + n) = 2 ^ 8 * (h &&& m) + (l &&& n) := by
  apply Nat.eq_of_testBit_eq
  intro j
  rw [Nat.testBit_and, Nat.testBit_two_pow_mul_add h hl, Nat.testBit_two_pow_mul_add m hn, Nat.testBit_two_pow_mul_add (h &&& m) (Nat.lt_of_le_of_lt Nat.and_le_left hl)]
  by_cases c : j < 8
  · rw [if_pos c, if_pos c, if_pos c, Nat.testBit_and]
  · rw [if_neg c, if_neg c, if_neg c, Nat.testBit_and]
/-- bits one after another -/
def pcN : Nat → Nat → Nat
  | 0, _ => 0
  | k + 1, x => x % 2 + pcN k (x / 2)
theorem pc_cat {h : Nat} {m : Nat} : ∀ {k l}, l < 2 ^ k → pcN (k + m) (2 ^ k * h + l) = pcN k l + pcN m h
  | 0, l, hl => by
    have : l = 0 := by omega
    subst this
    rw [Nat.zero_add, Nat.pow_zero, Nat.one_mul]; show _ = 0 + _; rw [Nat.zero_add, Nat.add_zero]
  | k + 1, l, hl => by
    rw [show k + 1 + m = (k + m) + 1 by omega]
    show (2 ^ (k + 1) * h + l) % 2 + pcN (k + m) ((2 ^ (k + 1) * h + l) / 2) = l % 2 + pcN k (l / 2) + pcN m h
    have e : 2 ^ (k + 1) * h + l = 2 * (2 ^ k * h) + l := by rw [Nat.pow_succ, Nat.mul_comm (2 ^ k) 2, Nat.mul_assoc]
    have hl2 : l / 2 < 2 ^ k := by rw [Nat.pow_succ] at hl; omega
    rw [e, Nat.mul_add_mod, Nat.mul_add_div (by decide), pc_cat hl2, Nat.add_assoc]
def bT1 (M x : Nat) : Nat := x - ((x / 2) &&& M)
def bT2 (M x : Nat) : Nat := (x &&& M) + ((x / 4) &&& M)
def bT3 (M x : Nat) : Nat := (x + x / 16) &&& M
theorem T1_cat (M h : Nat) {l : Nat} (hl : l < 256) : bT1 (2 ^ 8 * M + 85) (2 ^ 8 * h + l) = 2 ^ 8 * bT1 M h + bT1 85 l := by
  unfold bT1
  have e : (2 ^ 8 * h + l) / 2 = 2 ^ 8 * (h / 2) + (128 * (h % 2) + l / 2) := by omega
  have k : ∀ b : Fin 2, ∀ l : Fin 256, (128 * b.val + l.val / 2) &&& 85 = (l.val / 2) &&& 85 := by decide +kernel
  have k1 : (128 * (h % 2) + l / 2) &&& 85 = (l / 2) &&& 85 := k ⟨h % 2, by omega⟩ ⟨l, hl⟩
  rw [e, and_cat _ _ (show 128 * (h % 2) + l / 2 < 2 ^ 8 by omega) (by decide), k1]
  have a1 : (l / 2) &&& 85 ≤ l / 2 := Nat.and_le_left
  have a2 : (h / 2) &&& M ≤ h / 2 := Nat.and_le_left
  omega
theorem T2_cat (M h : Nat) {l : Nat} (hl : l < 256) : bT2 (2 ^ 8 * M + 51) (2 ^ 8 * h + l) = 2 ^ 8 * bT2 M h + bT2 51 l := by
  unfold bT2
  have e : (2 ^ 8 * h + l) / 4 = 2 ^ 8 * (h / 4) + (64 * (h % 4) + l / 4) := by omega
  have k : ∀ b : Fin 4, ∀ l : Fin 256, (64 * b.val + l.val / 4) &&& 51 = (l.val / 4) &&& 51 := by decide +kernel
  have k1 : (64 * (h % 4) + l / 4) &&& 51 = (l / 4) &&& 51 := k ⟨h % 4, by omega⟩ ⟨l, hl⟩
  rw [e, and_cat _ _ (show 64 * (h % 4) + l / 4 < 2 ^ 8 by omega) (by decide), k1, and_cat _ _ (show l < 2 ^ 8 from hl) (by decide)]
  omega
theorem T3_cat (M h : Nat) {l : Nat} (hl : l ≤ 68) (hh : h % 16 ≤ 4) : bT3 (2 ^ 8 * M + 15) (2 ^ 8 * h + l) = 2 ^ 8 * bT3 M h + bT3 15 l := by
  unfold bT3
  have e : 2 ^ 8 * h + l + (2 ^ 8 * h + l) / 16 = 2 ^ 8 * (h + h / 16) + (l + l / 16 + 16 * (h % 16)) := by omega
  have k : ∀ b : Fin 5, ∀ l : Fin 69, (l.val + l.val / 16 + 16 * b.val) &&& 15 = (l.val + l.val / 16) &&& 15 := by decide +kernel
  have k1 : (l + l / 16 + 16 * (h % 16)) &&& 15 = (l + l / 16) &&& 15 := k ⟨h % 16, by omega⟩ ⟨l, by omega⟩
  rw [e, and_cat _ _ (show l + l / 16 + 16 * (h % 16) < 2 ^ 8 by omega) (by decide), k1]
def bT4 (x : Nat) : Nat := (x + x / 256 + (x + x / 256) / 65536) &&& 63
theorem swarN {x : Nat} (hx : x < 2 ^ 20) : bT4 (bT3 252645135 (bT2 858993459 (bT1 1431655765 x))) = pcN 20 x := by
  obtain ⟨a, ha⟩ : ∃ a, a = x % 256 := ⟨_, rfl⟩
  obtain ⟨b, hb⟩ : ∃ b, b = x / 256 % 256 := ⟨_, rfl⟩
  obtain ⟨c, hc⟩ : ∃ c, c = x / 65536 := ⟨_, rfl⟩
  have ex : x = 2 ^ 8 * (2 ^ 8 * c + b) + a := by omega
  have ha2 : a < 256 := by omega
  have hb2 : b < 256 := by omega
  have hc2 : c < 16 := by omega
  have kb : ∀ l : Fin 256, bT2 51 (bT1 85 l.val) ≤ 68 ∧ bT2 51 (bT1 85 l.val) % 16 ≤ 4 ∧ bT3 15 (bT2 51 (bT1 85 l.val)) = pcN 8 l.val ∧ bT1 85 l.val < 256 ∧ pcN 8 l.val ≤ 8 := by decide +kernel
  have kc : ∀ c : Fin 16, bT2 13107 (bT1 21845 c.val) % 16 ≤ 4 ∧ bT3 3855 (bT2 13107 (bT1 21845 c.val)) = pcN 4 c.val ∧ pcN 4 c.val ≤ 4 := by decide +kernel
  obtain ⟨a1, a2, a3, a4, a5⟩ := kb ⟨a, ha2⟩
  obtain ⟨b1, b2, b3, b4, b5⟩ := kb ⟨b, hb2⟩
  obtain ⟨c1, c2, c3⟩ := kc ⟨c, hc2⟩
  replace a1 : bT2 51 (bT1 85 a) ≤ 68 := a1
  replace a3 : bT3 15 (bT2 51 (bT1 85 a)) = pcN 8 a := a3
  replace a4 : bT1 85 a < 256 := a4
  replace a5 : pcN 8 a ≤ 8 := a5
  replace b1 : bT2 51 (bT1 85 b) ≤ 68 := b1
  replace b2 : bT2 51 (bT1 85 b) % 16 ≤ 4 := b2
  replace b3 : bT3 15 (bT2 51 (bT1 85 b)) = pcN 8 b := b3
  replace b4 : bT1 85 b < 256 := b4
  replace b5 : pcN 8 b ≤ 8 := b5
  replace c1 : bT2 13107 (bT1 21845 c) % 16 ≤ 4 := c1
  replace c2 : bT3 3855 (bT2 13107 (bT1 21845 c)) = pcN 4 c := c2
  replace c3 : pcN 4 c ≤ 4 := c3
  have ep : pcN 20 x = pcN 8 a + (pcN 8 b + pcN 4 c) := by
    rw [ex, show 20 = 8 + 12 from rfl, pc_cat (show a < 2 ^ 8 from ha2), show 12 = 8 + 4 from rfl, pc_cat (show b < 2 ^ 8 from hb2)]
  have e1 : bT1 1431655765 x = 2 ^ 8 * (2 ^ 8 * bT1 21845 c + bT1 85 b) + bT1 85 a := by
    rw [ex, show 1431655765 = 2 ^ 8 * 5592405 + 85 from rfl, T1_cat _ _ ha2, show 5592405 = 2 ^ 8 * 21845 + 85 from rfl, T1_cat _ _ hb2]
  have e2 : bT2 858993459 (bT1 1431655765 x) = 2 ^ 8 * (2 ^ 8 * bT2 13107 (bT1 21845 c) + bT2 51 (bT1 85 b)) + bT2 51 (bT1 85 a) := by
    rw [e1, show 858993459 = 2 ^ 8 * 3355443 + 51 from rfl, T2_cat _ _ a4, show 3355443 = 2 ^ 8 * 13107 + 51 from rfl, T2_cat _ _ b4]
  have e3 : bT3 252645135 (bT2 858993459 (bT1 1431655765 x)) = 2 ^ 8 * (2 ^ 8 * pcN 4 c + pcN 8 b) + pcN 8 a := by
    rw [e2, show 252645135 = 2 ^ 8 * 986895 + 15 from rfl, T3_cat _ _ a1 (by omega), show 986895 = 2 ^ 8 * 3855 + 15 from rfl, T3_cat _ _ b1 c1, a3, b3, c2]
  rw [e3, ep]
  have k : ∀ p q : Fin 9, ∀ r : Fin 5, bT4 (2 ^ 8 * (2 ^ 8 * r.val + q.val) + p.val) = p.val + (q.val + r.val) := by decide +kernel
  exact k ⟨pcN 8 a, by omega⟩ ⟨pcN 8 b, by omega⟩ ⟨pcN 4 c, by omega⟩
theorem nI_and (a b : Nat) : nI a &&& nI b = nI (a &&& b) := by
  apply Int32.toBitVec_inj.mp
  show BitVec.ofNat 32 a &&& BitVec.ofNat 32 b = BitVec.ofNat 32 (a &&& b)
  rw [BitVec.ofNat_and]
theorem ushr_nI {a : Nat} (ha : a < 2 ^ 31) (k : Fin 32) : (Int32.toUInt32 (nI a) >>> (Int32.toUInt32 (nI k.val) &&& Int32.toUInt32 31)).toInt32 = nI (a / 2 ^ k.val) := by
  apply Int32.toBitVec_inj.mp
  show (Int32.toUInt32 (nI a) >>> (Int32.toUInt32 (nI k.val) &&& Int32.toUInt32 31)).toBitVec = BitVec.ofNat 32 (a / 2 ^ k.val)
  have e : (Int32.toUInt32 (nI k.val) &&& Int32.toUInt32 31) = UInt32.ofNat k.val := by
    have h : ∀ k : Fin 32, (Int32.toUInt32 (nI k.val) &&& Int32.toUInt32 31) = UInt32.ofNat k.val := by decide
    exact h k
  rw [e, UInt32.toBitVec_shiftRight]
  have e2 : (UInt32.ofNat k.val).toBitVec % 32#32 = BitVec.ofNat 32 k.val := by
    have h : ∀ k : Fin 32, (UInt32.ofNat k.val).toBitVec % 32#32 = BitVec.ofNat 32 k.val := by decide
    exact h k
  show BitVec.ofNat 32 a >>> ((UInt32.ofNat k.val).toBitVec % 32#32) = _
  rw [e2]
  apply BitVec.eq_of_toNat_eq
  have hk := k.isLt
  simp [Nat.shiftRight_eq_div_pow]
  rw [Nat.mod_eq_of_lt (show k.val < 4294967296 by omega), Nat.mod_eq_of_lt (show a < 4294967296 by omega), Nat.mod_eq_of_lt]
  exact Nat.lt_of_le_of_lt (Nat.div_le_self _ _) (by omega)
theorem sshr_nI {a : Nat} (ha : a < 2 ^ 31) : nI a >>> ((1 : Int32) &&& 31) = nI (a / 2) := by
  rw [show ((1 : Int32) &&& 31) = 1 by decide]
  apply Int32.toBitVec_inj.mp
  rw [Int32.toBitVec_shiftRight]
  rw [show (Int32.toBitVec 1).smod 32 = 1#32 by decide]
  show (BitVec.ofNat 32 a).sshiftRight' (1#32) = BitVec.ofNat 32 (a / 2)
  rw [BitVec.sshiftRight', BitVec.sshiftRight_eq_of_msb_false]
  · apply BitVec.eq_of_toNat_eq
    simp [Nat.shiftRight_eq_div_pow]
    omega
  · rw [BitVec.msb_eq_decide]
    simp
    omega
theorem nI_or (a b : Nat) : nI a ||| nI b = nI (a ||| b) := by
  apply Int32.toBitVec_inj.mp
  show BitVec.ofNat 32 a ||| BitVec.ofNat 32 b = BitVec.ofNat 32 (a ||| b)
  rw [BitVec.ofNat_or]
theorem shl_20 {b : Nat} (hb : b < 20) : (1 : Int32) <<< (nI b &&& 31) = nI (2 ^ b) := by
  have k : ∀ b : Fin 20, (1 : Int32) <<< (nI b.val &&& 31) = nI (2 ^ b.val) := by decide
  exact k ⟨b, hb⟩
theorem pc_le : ∀ k x, pcN k x ≤ k
  | 0, _ => Nat.le_refl 0
  | k + 1, x => by
    have := pc_le k (x / 2)
    show x % 2 + pcN k (x / 2) ≤ k + 1
    omega
theorem pc_0 : ∀ k, pcN k 0 = 0
  | 0 => rfl
  | k + 1 => by show 0 + pcN k 0 = 0; rw [pc_0 k]
section Bits
variable {L : Nat} {scr : Nat → Int32} {d : Nat}
theorem c_bitCount {x : Nat} (hx : x < 2 ^ 20) (h : MH) : E L scr (d + 1) 334 [vI (nI x)] h = some (some (vI (nI (pcN 20 x))), h) := by
  refine r_Integer_bitCount _ _ (Sm.ret ?_)
  have l1 : bT1 1431655765 x ≤ x := Nat.sub_le _ _
  obtain ⟨y, hy⟩ : ∃ y, y = bT1 1431655765 x := ⟨_, rfl⟩
  have l2 : bT2 858993459 y ≤ y + y / 4 := Nat.add_le_add Nat.and_le_left Nat.and_le_left
  obtain ⟨z, hz⟩ : ∃ z, z = bT2 858993459 y := ⟨_, rfl⟩
  have l3 : bT3 252645135 z ≤ 252645135 := Nat.and_le_right
  obtain ⟨w, hw⟩ : ∃ w, w = bT3 252645135 z := ⟨_, rfl⟩
  rw [← hy] at l1
  rw [← hz] at l2
  rw [← hw] at l3
  have a1 : ((x / 2) &&& 1431655765) ≤ x := Nat.le_trans Nat.and_le_left (by omega)
  have u1 : nI x - ((Int32.toUInt32 (nI x) >>> (Int32.toUInt32 1 &&& Int32.toUInt32 31)).toInt32 &&& 1431655765) = nI y := by
    rw [show (Int32.toUInt32 (nI x) >>> (Int32.toUInt32 1 &&& Int32.toUInt32 31)).toInt32 = nI (x / 2) from ushr_nI (by omega) 1, show (1431655765 : Int32) = nI 1431655765 from rfl, nI_and, nI_sub a1, hy]; rfl
  have u2 : (nI y &&& 858993459) + ((Int32.toUInt32 (nI y) >>> (Int32.toUInt32 2 &&& Int32.toUInt32 31)).toInt32 &&& 858993459) = nI z := by
    rw [show (Int32.toUInt32 (nI y) >>> (Int32.toUInt32 2 &&& Int32.toUInt32 31)).toInt32 = nI (y / 4) from ushr_nI (by omega) 2, show (858993459 : Int32) = nI 858993459 from rfl, nI_and, nI_and, nI_add, hz]; rfl
  have u3 : (nI z + (Int32.toUInt32 (nI z) >>> (Int32.toUInt32 4 &&& Int32.toUInt32 31)).toInt32) &&& 252645135 = nI w := by
    rw [show (Int32.toUInt32 (nI z) >>> (Int32.toUInt32 4 &&& Int32.toUInt32 31)).toInt32 = nI (z / 16) from ushr_nI (by omega) 4, show (252645135 : Int32) = nI 252645135 from rfl, nI_add, nI_and, hw]; rfl
  have u4 : nI w + (Int32.toUInt32 (nI w) >>> (Int32.toUInt32 8 &&& Int32.toUInt32 31)).toInt32 = nI (w + w / 256) := by
    rw [show (Int32.toUInt32 (nI w) >>> (Int32.toUInt32 8 &&& Int32.toUInt32 31)).toInt32 = nI (w / 256) from ushr_nI (by omega) 8, nI_add]
  have u5 : nI (w + w / 256) + (Int32.toUInt32 (nI (w + w / 256)) >>> (Int32.toUInt32 16 &&& Int32.toUInt32 31)).toInt32 = nI (w + w / 256 + (w + w / 256) / 65536) := by
    rw [show (Int32.toUInt32 (nI (w + w / 256)) >>> (Int32.toUInt32 16 &&& Int32.toUInt32 31)).toInt32 = nI ((w + w / 256) / 65536) from ushr_nI (by omega) 16, nI_add]
  rw [t_Integer_bitCount_0, u1, u2, u3, u4, u5, show (63 : Int32) = nI 63 from rfl, nI_and, ← swarN hx, ← hy, ← hz, ← hw]; rfl
theorem bits_run (x0 : Int32) (h : MH) : ∀ f y acc, y < 2 ^ f → f ≤ 30 → Sm L scr d B_M_bits C_M_bits 1 [some (vI x0), some (vI (nI acc)), some (vI (nI y))] [] h (some (vI (nI (acc + pcN f y))), h)
  | 0, y, acc, hy, _ => by
    have : y = 0 := by omega
    subst this
    exact Sm.ret (by rw [t_M_bits_1, if_pos (by decide)]; rfl)
  | f + 1, y, acc, hy, hf => by
    have hy2 : y < 2 ^ 30 := Nat.lt_of_lt_of_le hy (Nat.pow_le_pow_right (by decide) hf)
    by_cases c : y = 0
    · subst c
      exact Sm.ret (by rw [t_M_bits_1, if_pos (by decide), pc_0]; rfl)
    · refine Sm.step (t' := 1) (lo' := [some (vI x0), some (vI (nI (acc + y % 2))), some (vI (nI (y / 2)))]) (st' := []) (h' := h) ?_ ?_
      · rw [t_M_bits_1, if_neg (show ¬ nI y ≤ 0 from nI_ge (a := 0) (b := y) (by omega) (by omega)), sshr_nI (by omega), show (1 : Int32) = nI 1 from rfl, nI_and, nI_add, show y &&& 1 = y % 2 from Nat.and_one_is_mod y]
      · have := bits_run x0 h f (y / 2) (acc + y % 2) (by rw [Nat.pow_succ] at hy; omega) (by omega)
        rw [show acc + y % 2 + pcN f (y / 2) = acc + pcN (f + 1) y from Nat.add_assoc ..] at this
        exact this
theorem c_M_bits {x : Nat} (hx : x < 2 ^ 20) (h : MH) : E L scr (d + 1) 201 [vI (nI x)] h = some (some (vI (nI (pcN 20 x))), h) := by
  refine r_M_bits _ _ (Sm.step (t' := 1) (lo' := [some (vI (nI x)), some (vI (nI 0)), some (vI (nI x))]) (st' := []) (h' := h) (t_M_bits_0 ..) ?_)
  have := bits_run (L := L) (scr := scr) (d := d) (nI x) h 20 x 0 hx (by decide)
  rw [Nat.zero_add] at this
  exact this
end Bits

/-! CONDITIONS, on the reference's side: a test -/
abbrev WCq : List (Nat × Nat) := WLx ++ WSt ++ [(1306, 0)]
def dcS (h : MH) (v : Nat → Int32) : Nat → Nat × Bool := fun j => dcM v (hI h 1317002700 0 j) (hI h 1318002700 0 j) (hI h 1319002700 0 j)
/-- steps ahead of b stand -/
def KpS (h h2 : MH) (b : Nat) : Prop := ∀ j, j < b → hI h2 1317002700 0 j = hI h 1317002700 0 j ∧ hI h2 1318002700 0 j = hI h 1318002700 0 j ∧ hI h2 1319002700 0 j = hI h 1319002700 0 j
theorem KpS.rf (h : MH) (b : Nat) : KpS h h b := fun _ _ => ⟨rfl, rfl, rfl⟩
theorem KpS.tr {a b c : MH} {k m : Nat} (x : KpS a b k) (y : KpS b c m) (h : k ≤ m) : KpS a c k := fun j hj => by
  obtain ⟨x1, x2, x3⟩ := x j hj
  obtain ⟨y1, y2, y3⟩ := y j (by omega)
  exact ⟨y1.trans x1, y2.trans x2, y3.trans x3⟩
theorem KpS.of {h h2 : MH} {W : List (Nat × Nat)} (b : Nat) (u : Upd W h h2) (hd : ∀ q ∈ [(1317002700, 0), (1318002700, 0), (1319002700, 0)], q ∉ W) : KpS h h2 b := fun j _ => by
  rw [u.2 _ _ (hd (1317002700, 0) (by decide)), u.2 _ _ (hd (1318002700, 0) (by decide)), u.2 _ _ (hd (1319002700, 0) (by decide))]
  exact ⟨rfl, rfl, rfl⟩
/-- what reading a condition leaves -/
def MO (h h2 : MH) (v : Nat → Nat) (n D b N : Nat) : PC → Prop
  | .inr g => ∃ q, AtM h2 v n q ∧ hdP (lex v n q) = g ∧ KpS h h2 b
  | .inl (r, φ) => ∃ q b2, AtM h2 v n q ∧ lex v n q = r ∧ hI h2 1302 0 0 = nI b2 ∧ b < b2 ∧ N + 3 * (b2 - b) + 2 ≤ hdP r ∧ hI h2 1306 0 0 = hI h 1306 0 0 ∧ (∀ j, j < b → hI h2 1317002700 0 j = hI h 1317002700 0 j ∧ hI h2 1318002700 0 j = hI h 1318002700 0 j ∧ hI h2 1319002700 0 j = hI h 1319002700 0 j) ∧ (∀ j, b ≤ j → j < b2 → ¬ 2 < hI h2 1317002700 0 j → ∃ q, q < 8 ∧ hI h2 1318002700 0 j = nI q) ∧ ∀ w, SegL (dcS h2 w) D b b2 (φ w)
theorem gap_t {t g : Nat} {r : List (Nat × Nat)} (gp : GapL ((t, g) :: r)) (ok : OkL r) : g + tkW t ≤ hdP r ∧ hdP r ≤ 900 ∧ GapL r := by
  cases r with
  | nil => exact ok.elim
  | cons y r2 => exact ⟨gp.1, ok.1, gp.2⟩
theorem tkW_1 (t : Nat) : 1 ≤ tkW t := by
  unfold tkW
  split
  · split <;> omega
  · exact Nat.le_refl _
theorem tkW_3 {t : Nat} (h : t < 8) : tkW t = 3 := by
  unfold tkW
  rw [if_pos (by omega), if_neg (by omega)]
def isOkC : PC → Bool
  | .inl _ => true
  | .inr _ => false
theorem wcq1 : ∀ q ∈ WLx, q ∈ WCq := by decide
theorem wcq2 : ∀ q ∈ WSt, q ∈ WCq := by decide
theorem wcq3 : ∀ q ∈ [(1306, 0)], q ∈ WCq := by decide
section MTest
variable {L : Nat} {scr : Nat → Int32} {d : Nat}
/-- the number, and the step -/
theorem m_12 {h : MH} {v : Nat → Nat} {n p b N w s k g3 D : Nat} {r : List (Nat × Nat)} (a : AtM h v n p) (e : lex v n p = (k, g3) :: r) (hw : w < 8) (hs : 60 ≤ s ∧ s ≤ 62) (ew : hI h 1302 0 0 = nI b) (hb : b + 1 < 2700) (hN : 1000 ≤ k ∧ k < 2000 → N + 5 ≤ hdP r) (hD : 1 ≤ D) (z2 : Option MV) : ∃ h2, Sm L scr (d + 2) B_M_single C_M_single 12 [some (vR 900012 0), some (vI (nI w)), z2] [vI (if s = 60 then 0 else if s = 62 then 1 else 2)] h (some (vI (zb (isOkC (if 1000 ≤ k ∧ k < 2000 then .inl (r, tstF w s (k - 1000)) else .inr g3)))), h2) ∧ Upd WCq h h2 ∧ MO h h2 v n D b N (if 1000 ≤ k ∧ k < 2000 then .inl (r, tstF w s (k - 1000)) else .inr g3) := by
  obtain ⟨o, ho⟩ : ∃ o : Int32, o = if s = 60 then 0 else if s = 62 then 1 else 2 := ⟨_, rfl⟩
  have o3 : o = 0 ∨ o = 1 ∨ o = 2 := by
    rw [ho]
    by_cases a1 : s = 60
    · rw [if_pos a1]; exact Or.inl rfl
    · rw [if_neg a1]
      by_cases a2 : s = 62
      · rw [if_pos a2]; exact Or.inr (Or.inl rfl)
      · rw [if_neg a2]; exact Or.inr (Or.inr rfl)
  have om : ¬ o = -1 := by rcases o3 with z | z | z <;> (rw [z]; decide)
  have o2 : ¬ 2 < o := by rcases o3 with z | z | z <;> (rw [z]; decide)
  rw [← ho]
  obtain ⟨h1, q, e1, u1, a1, l1, rd⟩ := c_M_takesNumber (L := L) (scr := scr) (d := d) (lo := 0) (hi := 999) (by decide) (by decide) a e
  have iff : isNm 0 999 k = decide (1000 ≤ k ∧ k < 2000) := decide_eq_decide.mpr ⟨fun z => ⟨z.1, z.2.1⟩, fun z => ⟨z.1, z.2, by omega, by omega⟩⟩
  have e1' : E L scr (d + 2) 212 [vR 900012 0, vI 0, vI 999] h = some (some (vI (zb (isNm 0 999 k))), h1) := e1
  by_cases kk : 1000 ≤ k ∧ k < 2000
  · have nm : isNm 0 999 k = true := by rw [iff]; exact decide_eq_true kk
    rw [nm] at e1'
    rw [if_pos nm] at l1
    have es : hI h1 1302 0 0 = nI b := by rw [u1.2 1302 0 (by decide)]; exact ew
    obtain ⟨h2, e2, u2, s2, k1, k2, k3⟩ := c_M_puts (L := L) (scr := scr) (d := d + 1) o (nI w) (nI (k - 1000)) (by omega) es
    have f1 : hI h1 1317002700 0 = hI h 1317002700 0 := u1.2 _ _ (by decide)
    have f2 : hI h1 1318002700 0 = hI h 1318002700 0 := u1.2 _ _ (by decide)
    have f3 : hI h1 1319002700 0 = hI h 1319002700 0 := u1.2 _ _ (by decide)
    refine ⟨h2, Sm.ret ?_, (u1.mono wcq1).tr (u2.mono wcq2), ?_⟩
    · rw [t_M_single_12, if_neg om, e1', clI_ok, itT, rd nm, e2, clV_ok, if_pos kk]; rfl
    · have hN := hN kk
      rw [if_pos kk]
      refine ⟨q, b + 1, ⟨TxV.fr u2 (by decide) a1.1, a1.2.1, by rw [u2.2 1305 0 (by decide)]; exact a1.2.2⟩, l1, s2, by omega, by omega, by rw [u2.2 1306 0 (by decide), u1.2 1306 0 (by decide)], fun j hj => ?_, fun j j1 j2 _ => ?_, fun x => SegL.mono (SegL.lay ?_) hD⟩
      · rw [k1, k2, k3, up_n (by omega), up_n (by omega), up_n (by omega), f1, f2, f3]
        exact ⟨rfl, rfl, rfl⟩
      · have : j = b := by omega
        subst this
        exact ⟨w, hw, by rw [k2, up_s]⟩
      · show dcM x (hI h2 1317002700 0 b) (hI h2 1318002700 0 b) (hI h2 1319002700 0 b) = _
        rw [k1, k2, k3, up_s, up_s, up_s]
        unfold dcM tstF
        rw [if_neg o2, ix_nI (by omega)]
        by_cases x1 : s = 60
        · rw [ho, if_pos x1, if_pos rfl, if_pos x1]
        · by_cases x2 : s = 62
          · rw [ho, if_neg x1, if_pos x2, if_neg (by decide), if_pos rfl, if_neg x1, if_pos x2]
          · rw [ho, if_neg x1, if_neg x2, if_neg (by decide), if_neg (by decide), if_neg x1, if_neg x2]
  · have nm : isNm 0 999 k = false := by rw [iff]; exact decide_eq_false kk
    rw [nm] at e1'
    rw [if_neg (by rw [nm]; decide)] at l1
    refine ⟨h1, Sm.ret ?_, u1.mono wcq1, ?_⟩
    · rw [t_M_single_12, if_neg om, e1', clI_ok, itF, if_neg kk]; rfl
    · rw [if_neg kk]
      exact ⟨q, a1, by rw [l1]; rfl, KpS.of b u1 (by decide)⟩
end MTest

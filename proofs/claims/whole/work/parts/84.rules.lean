/-! RULES of laws on both sides: busy hours, harm, shut -/
section MAsk
variable {L : Nat} {scr : Nat → Int32} {d : Nat}
theorem c_M_asks {h : MH} {x n : Nat} (kd o : Int32) (hx : x < 72000) (hn : n ≤ 40) (en : hI h 1326 0 0 = nI n) : ∃ h', E L scr (d + 4) 250 [vR 900012 0, vI (nI x), vI kd, vI o] h = some (none, h') ∧ Upd [(1320000008, 0)] h h' ∧ AskV (hI h' 1320000008 0) (askF (hI h 1330000100 0 (x / 720)) (zb (anyB (rainP (hI h 1332000040 0) (hI h 1333000040 0) (hI h 1334000040 0) (nI (x / 720)) (nI (x % 720))) n)) (nI (x / 720)) (nI (x / 720 % 7)) (nI (x % 720)) o kd (weedF (hI h 1327 0 0) (wkF (hI h 1331000100 0) (x / 720)))) := by
  obtain ⟨rn, hrn⟩ : ∃ rn, rn = anyB (rainP (hI h 1332000040 0) (hI h 1333000040 0) (hI h 1334000040 0) (nI (x / 720)) (nI (x % 720))) n := ⟨_, rfl⟩
  obtain ⟨dy, hdy⟩ : ∃ dy, dy = x / 720 := ⟨_, rfl⟩
  obtain ⟨mi, hmi⟩ : ∃ mi, mi = x % 720 := ⟨_, rfl⟩
  rw [← hdy, ← hmi] at hrn
  rw [← hdy, ← hmi, ← hrn]
  have hd2 : dy < 100 := by omega
  have e1 : nI x / 720 = nI dy := by rw [show (720 : Int32) = nI 720 from rfl, nI_div (by omega) (by decide), hdy]
  have e2 : nI x % 720 = nI mi := by rw [show (720 : Int32) = nI 720 from rfl, nI_mod (by omega) (by decide), hmi]
  have e7 : nI dy % 7 = nI (dy % 7) := nI_mod (b := 7) (by omega) (by decide)
  have w1 : ∀ (g : MH) (i : Nat) (v : Int32) (k : MH → Option Exit), i < 8 → wrI 0 g 1320000008 0 (nI i) v k = k (sI g 1320000008 0 i v) := fun g i v k hi => by rw [wr_M_here (oob_nI hi (by decide)), ix_nI (by omega)]
  have us : ∀ {g : MH} {i : Nat} {v : Int32}, Upd [(1320000008, 0)] h g → Upd [(1320000008, 0)] h (sI g 1320000008 0 i v) := fun u => u.sI (by decide)
  obtain ⟨g1, hg1⟩ : ∃ g1, g1 = sI h 1320000008 0 0 (hI h 1330000100 0 dy) := ⟨_, rfl⟩
  have u1 : Upd [(1320000008, 0)] h g1 := by rw [hg1]; exact us (Upd.rf _ h)
  obtain ⟨g3, hg3⟩ : ∃ g3, g3 = sI (sI (sI (sI (sI (sI g1 1320000008 0 1 (zb rn)) 1320000008 0 2 (nI dy)) 1320000008 0 3 (nI (dy % 7))) 1320000008 0 4 (nI mi)) 1320000008 0 5 o) 1320000008 0 6 kd := ⟨_, rfl⟩
  have u3 : Upd [(1320000008, 0)] h g3 := by rw [hg3]; exact us (us (us (us (us (us u1)))))
  have up : ∀ {g : MH} {a b : Nat}, Upd [(1320000008, 0)] h g → (a, b) ∉ [(1320000008, 0)] → hI g a b = hI h a b := fun u q => u.2 _ _ q
  have cr : E L scr (d + 3) 237 [vR 900012 0, vI (nI dy), vI (nI mi)] g1 = some (some (vI (zb rn)), g1) := by
    rw [c_M_rains (d := d + 1) _ _ hn (by rw [up u1 (by decide)]; exact en), up u1 (by decide), up u1 (by decide), up u1 (by decide), ← hrn]
  have cw : E L scr (d + 3) 240 [vR 900012 0, vI (nI dy)] g3 = some (some (vI (weedF (hI h 1327 0 0) (wkF (hI h 1331000100 0) dy))), g3) := by
    rw [c_M_weedOn hd2, up u3 (by decide), up u3 (by decide)]
  have one : (if zb rn = 0 then (0 : Int32) else 1) = zb rn := by cases rn <;> rfl
  obtain ⟨W, hW⟩ : ∃ W, W = weedF (hI h 1327 0 0) (wkF (hI h 1331000100 0) dy) := ⟨_, rfl⟩
  rw [← hW] at cw ⊢
  refine ⟨sI g3 1320000008 0 7 W, r_M_asks _ _ _ _ _ (Sm.ret ?_), us u3, ?_⟩
  · rw [t_M_asks_0, dvI_ok (by decide), e1, e2, rd_M_water (oob_nI hd2 (by decide)), ix_nI (by omega), show (0 : Int32) = nI 0 from rfl, w1 _ 0 _ _ (by decide), ← hg1, dvI_ok (by decide), cr, clI_ok, c_M_one, clI_ok, one, show (1 : Int32) = nI 1 from rfl, w1 _ 1 _ _ (by decide), show (2 : Int32) = nI 2 from rfl, w1 _ 2 _ _ (by decide), dvI_ok (by decide), e7, show (3 : Int32) = nI 3 from rfl, w1 _ 3 _ _ (by decide), dvI_ok (by decide), show (4 : Int32) = nI 4 from rfl, w1 _ 4 _ _ (by decide), show (5 : Int32) = nI 5 from rfl, w1 _ 5 _ _ (by decide), show (6 : Int32) = nI 6 from rfl, w1 _ 6 _ _ (by decide), ← hg3, cw, clI_ok, show (7 : Int32) = nI 7 from rfl, w1 _ 7 _ _ (by decide)]
  · refine ask_of ?_ ?_ ?_ ?_ ?_ ?_ ?_ ?_
    · rw [hg3, hg1]; simp only [hI_rs, up_s, Jvm.Pilot.@@N@@.up, Nat.reduceEqDiff, if_false, if_true, reduceIte]
    · rw [hg3]; simp only [hI_rs, up_s, Jvm.Pilot.@@N@@.up, Nat.reduceEqDiff, if_false, if_true, reduceIte]
    · rw [hg3]; simp only [hI_rs, up_s, Jvm.Pilot.@@N@@.up, Nat.reduceEqDiff, if_false, if_true, reduceIte]
    · rw [hg3]; simp only [hI_rs, up_s, Jvm.Pilot.@@N@@.up, Nat.reduceEqDiff, if_false, if_true, reduceIte]
    · rw [hg3]; simp only [hI_rs, up_s, Jvm.Pilot.@@N@@.up, Nat.reduceEqDiff, if_false, if_true, reduceIte]
    · rw [hg3]; simp only [hI_rs, up_s, Jvm.Pilot.@@N@@.up, Nat.reduceEqDiff, if_false, if_true, reduceIte]
    · rw [hg3]; simp only [hI_rs, up_s, Jvm.Pilot.@@N@@.up, Nat.reduceEqDiff, if_false, if_true, reduceIte]
    · rw [hI_rs, up_s]
end MAsk
/-- the condition of the i-th rule of law l (the class's instance m) -/
def CondEq (h : MH) (m l i : Nat) (φ : (Nat → Int32) → Bool) : Prop := ∃ a b c e C, hI h 613000040 m i = nI a ∧ hI h 614000040 m i = nI b ∧ hI h 1315000240 0 (40 * l + i) = nI c ∧ hI h 1316000240 0 (40 * l + i) = nI e ∧ hI h 615 m 0 = nI C ∧ b ≤ C ∧ C ≤ 300 ∧ e ≤ 2700 ∧ ((a = b ∧ c = e ∧ ∀ v, φ v = true) ∨ (a < b ∧ c < e ∧ (∀ v, ruL (fun j => dcC v (hI h 616000300 m j)) 60 a (b - a) [] = some [φ v] ∧ ruL (fun j => dcM v (hI h 1317002700 0 j) (hI h 1318002700 0 j) (hI h 1319002700 0 j)) 60 c (e - c) [] = some [φ v]) ∧ ∀ j, c ≤ j → j < e → ¬ 2 < hI h 1317002700 0 j → ∃ q, q < 8 ∧ hI h 1318002700 0 j = nI q))
/-- the i-th rule of law l -/
def ClEq (h : MH) (m l i s p : Nat) (φ : (Nat → Int32) → Bool) : Prop := s ≤ 2 ∧ p ≤ 100 ∧ hI h 611000040 m i = nI s ∧ hI h 1311000240 0 (40 * l + i) = nI s ∧ hI h 612000040 m i = nI p ∧ hI h 1314000240 0 (40 * l + i) = nI p ∧ (s = 0 → hI h 613000040 m i = hI h 1312000240 0 (40 * l + i) ∧ hI h 614000040 m i = hI h 1313000240 0 (40 * l + i)) ∧ (s ≠ 0 → CondEq h m l i φ)
/-- the rules of law l -/
def RsEq (h : MH) (m l R : Nat) (s p : Nat → Nat) (φ : Nat → (Nat → Int32) → Bool) : Prop := R ≤ 40 ∧ hI h 610 m 0 = nI R ∧ hI h 1310000006 0 l = nI R ∧ ∀ i, i < R → ClEq h m l i (s i) (p i) (φ i)
def RLaw (h : MH) : Prop := (∃ n, n ≤ 5 ∧ hI h 1300 0 0 = nI n ∧ ∀ l, l < n → ∃ R s p φ, RsEq h (l + 1) l R s p φ) ∧ hI h 610 0 0 = 0
/-- the first rule of sort q that holds -/
def fitB (s : Nat → Nat) (φ : Nat → (Nat → Int32) → Bool) (q : Nat) (v : Nat → Int32) (i : Nat) : Bool := Nat.beq (s i) q && φ i v
section Rules
variable {L : Nat} {scr : Nat → Int32} {d : Nat}
theorem fit_t {s : Nat → Nat} {φ : Nat → (Nat → Int32) → Bool} {q : Nat} {v : Nat → Int32} {i : Nat} : fitB s φ q v i = true ↔ s i = q ∧ φ i v = true := by unfold fitB; rw [Bool.and_eq_true, Nat.beq_eq]
theorem fit_ff {s : Nat → Nat} {φ : Nat → (Nat → Int32) → Bool} {q : Nat} {v : Nat → Int32} {i : Nat} (c : s i ≠ q) : fitB s φ q v i = false := by
  cases e : fitB s φ q v i with
  | false => rfl
  | true => exact absurd (fit_t.mp e).1 c
theorem fit_e {s : Nat → Nat} {φ : Nat → (Nat → Int32) → Bool} {q : Nat} {v : Nat → Int32} {i : Nat} (c : s i = q) : fitB s φ q v i = φ i v := by
  unfold fitB
  rw [c, show Nat.beq q q = true from Nat.beq_refl q, Bool.true_and]
/-- the class asks a condition -/
theorem c_cond {h : MH} {m l i : Nat} {φ : (Nat → Int32) → Bool} {v : Nat → Int32} (hv : AskV (hI h 1211000008 0) v) (q : CondEq h m l i φ) : E L scr (d + 2) 61 [vR 900005 m, vI (hI h 613000040 m i), vI (hI h 614000040 m i), vR 1211000008 0] h = some (some (vI (zb (φ v))), h) := by
  obtain ⟨a, b, c, e, C, e1, e2, -, -, eC, hb, hC, -, k⟩ := q
  rw [e1, e2]
  rcases k with ⟨k1, -, k3⟩ | ⟨k1, -, k3, -⟩
  · rw [c_holds0 _ _ (by rw [k1]; exact fun z => Int32.lt_irrefl z), k3 v]
  · exact c_holds hv k1 hb hC eC (k3 v).1
/-- the reference asks a condition -/
theorem c_condM {h : MH} {m l i : Nat} {φ : (Nat → Int32) → Bool} {v : Nat → Int32} (hl : l < 6) (hi : i < 40) (hv : AskV (hI h 1320000008 0) v) (q : CondEq h m l i φ) : ∃ h', E L scr (d + 1) 251 [vR 900012 0, vI (nI (40 * l + i))] h = some (some (vI (zb (φ v))), h') ∧ Upd [(1321200064, 0)] h h' := by
  obtain ⟨a, b, c, e, C, -, -, e1, e2, -, -, -, he, k⟩ := q
  rcases k with ⟨-, k2, k3⟩ | ⟨-, k2, k3, k4⟩
  · refine ⟨h, ?_, Upd.rf _ h⟩
    rw [c_M_isTrue0 (e := e) (by omega) e1 (by rw [e2, k2]), k3 v]
  · exact c_M_isTrue (by omega) e1 e2 k2 he hv k4 (k3 v).2
theorem c_isShut {h : MH} {m l R : Nat} {s p : Nat → Nat} {φ : Nat → (Nat → Int32) → Bool} {v : Nat → Int32} (hv : AskV (hI h 1211000008 0) v) (q : RsEq h m l R s p φ) : E L scr (d + 3) 60 [vR 900005 m, vR 1211000008 0] h = some (some (vI (zb (anyB (fitB s φ 2 v) R))), h) := by
  obtain ⟨hR, eR, -, hk⟩ := q
  refine r_Law_isShut _ _ _ _ (Sm.step (t' := 1) (lo' := [some (vR 900005 m), some (vR 1211000008 0), some (vI (nI 0))]) (st' := []) (h' := h) (t_Law_isShut_0 ..) ?_)
  rw [← ffst_any]
  have st : ∀ i, i < R → ∀ z, (z = fitB s φ 2 v i) → dn L scr (E L scr (d + 2)) B_Law_isShut C_Law_isShut 1 [some (vR 900005 m), some (vR 1211000008 0), some (vI (nI i))] [] h = (if z = true then rtZ 1 h else some (.inl (1, [some (vR 900005 m), some (vR 1211000008 0), some (vI (nI (i + 1)))], [], h))) := fun i hi z hz => by
    obtain ⟨s2, p2, e1, -, -, -, -, k2⟩ := hk i hi
    rw [t_Law_isShut_1, eR, if_neg (nI_ge hi (by omega)), rd_Law_sort (oob_nI (by omega) (by decide)), ix_nI (by omega), e1, nI_1]
    by_cases c : s i = 2
    · rw [if_pos (show nI (s i) = 2 by rw [c]; rfl), rd_Law_from (oob_nI (by omega) (by decide)), ix_nI (by omega), rd_Law_to (oob_nI (by omega) (by decide)), ix_nI (by omega), c_cond hv (k2 (by omega)), clI_ok, hz, fit_e c]
      cases φ i v with
      | false => rw [if_pos (show zb false = 0 from rfl), if_neg (by decide)]
      | true => rw [if_neg (show ¬ zb true = 0 by decide), if_pos rfl]
    · rw [if_neg (show ¬ nI (s i) = 2 from fun z => c ((nI_eq (b := 2) (by omega) (by decide)).mp z)), hz, fit_ff c, if_neg (by decide)]
  refine Sm.find (lo := fun k => [some (vR 900005 m), some (vR 1211000008 0), some (vI (nI k))]) (hh := fun _ => h) (r := fun q => (some (vI (zb q.isSome)), h)) _ R (fun i hi hp => ?_) (fun i hi hp _ => Sm.ret ?_) (fun _ => Sm.ret ?_)
  · rw [st i hi false hp.symm, if_neg (by decide)]
  · rw [st i hi true hp.symm, if_pos rfl]; rfl
  · rw [t_Law_isShut_1, eR, if_pos (nI_le (Nat.le_refl _) (by omega)), rtZ0]; rfl
theorem c_isShut0 {h : MH} (e : hI h 610 0 0 = 0) : E L scr (d + 1) 60 [vR 900005 0, vR 1211000008 0] h = some (some (vI (zb false)), h) := by
  refine r_Law_isShut _ _ _ _ (Sm.step (t' := 1) (lo' := [some (vR 900005 0), some (vR 1211000008 0), some (vI (nI 0))]) (st' := []) (h' := h) (t_Law_isShut_0 ..) (Sm.ret ?_))
  rw [t_Law_isShut_1, e, if_pos (by decide), rtZ0]; rfl
theorem c_harmPart {h : MH} {m l R : Nat} {s p : Nat → Nat} {φ : Nat → (Nat → Int32) → Bool} {v : Nat → Int32} (hv : AskV (hI h 1211000008 0) v) (q : RsEq h m l R s p φ) : E L scr (d + 3) 59 [vR 900005 m, vR 1211000008 0] h = some (some (vI (nI (match ffst (fitB s φ 1 v) R with | some i => p i | none => 100))), h) := by
  obtain ⟨hR, eR, -, hk⟩ := q
  refine r_Law_harmPart _ _ _ _ (Sm.step (t' := 1) (lo' := [some (vR 900005 m), some (vR 1211000008 0), some (vI (nI 0))]) (st' := []) (h' := h) (t_Law_harmPart_0 ..) ?_)
  have st : ∀ i, i < R → ∀ z, (z = fitB s φ 1 v i) → dn L scr (E L scr (d + 2)) B_Law_harmPart C_Law_harmPart 1 [some (vR 900005 m), some (vR 1211000008 0), some (vI (nI i))] [] h = (if z = true then some (.inr (some (vI (nI (p i))), h)) else some (.inl (1, [some (vR 900005 m), some (vR 1211000008 0), some (vI (nI (i + 1)))], [], h))) := fun i hi z hz => by
    obtain ⟨s2, p2, e1, -, e3, -, -, k2⟩ := hk i hi
    rw [t_Law_harmPart_1, eR, if_neg (nI_ge hi (by omega)), rd_Law_sort (oob_nI (by omega) (by decide)), ix_nI (by omega), e1, nI_1]
    by_cases c : s i = 1
    · rw [if_pos (show nI (s i) = 1 by rw [c]; rfl), rd_Law_from (oob_nI (by omega) (by decide)), ix_nI (by omega), rd_Law_to (oob_nI (by omega) (by decide)), ix_nI (by omega), c_cond hv (k2 (by omega)), clI_ok, hz, fit_e c]
      cases φ i v with
      | false => rw [if_pos (show zb false = 0 from rfl), if_neg (by decide)]
      | true => rw [if_neg (show ¬ zb true = 0 by decide), if_pos rfl, rd_Law_part (oob_nI (by omega) (by decide)), ix_nI (by omega), e3]
    · rw [if_neg (show ¬ nI (s i) = 1 from fun z => c ((nI_eq (b := 1) (by omega) (by decide)).mp z)), hz, fit_ff c, if_neg (by decide)]
  refine Sm.find (lo := fun k => [some (vR 900005 m), some (vR 1211000008 0), some (vI (nI k))]) (hh := fun _ => h) (r := fun q => (some (vI (nI (match q with | some i => p i | none => 100))), h)) _ R (fun i hi hp => ?_) (fun i hi hp _ => Sm.ret ?_) (fun _ => Sm.ret ?_)
  · rw [st i hi false hp.symm, if_neg (by decide)]
  · rw [st i hi true hp.symm, if_pos rfl]
  · rw [t_Law_harmPart_1, eR, if_pos (nI_le (Nat.le_refl _) (by omega))]; rfl
theorem c_harmPart0 {h : MH} (e : hI h 610 0 0 = 0) : E L scr (d + 1) 59 [vR 900005 0, vR 1211000008 0] h = some (some (vI (nI 100)), h) := by
  refine r_Law_harmPart _ _ _ _ (Sm.step (t' := 1) (lo' := [some (vR 900005 0), some (vR 1211000008 0), some (vI (nI 0))]) (st' := []) (h' := h) (t_Law_harmPart_0 ..) (Sm.ret ?_))
  rw [t_Law_harmPart_1, e, if_pos (by decide)]; rfl
end Rules

/-! For out: a hire more -/
theorem cntW_cg {d1 d2 : Nat → Int32} : ∀ {k : Nat}, (∀ j, j < k → d1 j = d2 j) → cntW d1 k = cntW d2 k
  | 0, _ => rfl
  | k + 1, h => by
    show (if d1 k = 0 then cntW d1 k + 1 else cntW d1 k) = (if d2 k = 0 then cntW d2 k + 1 else cntW d2 k)
    rw [h k (by omega), cntW_cg (fun j hj => h j (by omega))]
theorem cntW_n {dd : Nat → Int32} {T k : Nat} {v : Int32} (hk : k ≤ T) : cntW (up dd T v) k = cntW dd k := cntW_cg (fun j hj => up_n (by omega))
theorem tell_new {dd sj vl md ms m1 m2 oa : Nat → Int32} {T n : Nat} {v a x y : Int32} (hn : n < 120) (h : TellOk dd sj vl md ms m1 m2 oa T n) : TellOk (up dd T 0) (up sj T (nI n)) (up vl T v) (up md (T + 1) 0) (up ms (T + 1) (nI n)) (up m1 (T + 1) x) (up m2 (T + 1) y) (up oa n a) (T + 1) (n + 1) := by
  obtain ⟨h1, h2⟩ := h
  refine ⟨fun k hk => ?_, ?_⟩
  · rcases Nat.lt_succ_iff_lt_or_eq.mp hk with c | c
    · obtain ⟨k1, k2, i, k3, k4, k5⟩ := h1 k c
      have hm : cntW dd k ≤ n := by rw [← h2]; exact cntW_mono _ (by omega)
      rw [up_n (show k + 1 ≠ T + 1 by omega), up_n (show k + 1 ≠ T + 1 by omega), up_n (show k + 1 ≠ T + 1 by omega), up_n (show k + 1 ≠ T + 1 by omega), up_n (show k ≠ T by omega), up_n (show k ≠ T by omega), up_n (show k ≠ T by omega), cntW_n (by omega)]
      refine ⟨k1, k2, i, k3, k4, ?_⟩
      rcases k5 with k5 | ⟨k5, k6⟩
      · exact Or.inl k5
      · rw [up_n (show i ≠ n by omega)]; exact Or.inr ⟨k5, k6⟩
    · subst c
      rw [up_s, up_s, up_s, up_s, cntW_n (Nat.le_refl _)]
      exact ⟨rfl, rfl, n, rfl, hn, Or.inl ⟨rfl, h2.symm⟩⟩
  · show (if up dd T 0 T = 0 then cntW (up dd T 0) T + 1 else cntW (up dd T 0) T) = n + 1
    rw [up_s, if_pos rfl, cntW_n (Nat.le_refl _), h2]
theorem last_new {dd sj vl : Nat → Int32} {T i : Nat} {s v : Int32} : lastF 1 (-1) (up dd T 0) (up sj T s) (up vl T v) (T + 1) i = lastF 1 (-1) dd sj vl T i := by
  rw [lastF_up, if_neg (fun z => absurd z.1 (by decide))]
theorem hires_new {bo wo oa bk tb dd : Nat → Int32} {n T nb b w m q : Nat} (hb : b < nb) (hw : w < 10) (hm : m < 72000) (hq : 1 ≤ q) (hmq : m % 720 + q ≤ 720) (hc : cntW dd T = n) (ho : ∀ i, i < n → bo i = nI b → oa i ≤ nI m) (h : HiresOk bo wo oa bk tb dd n T nb) : HiresOk (up bo n (nI b)) (up wo n (nI w)) (up oa n (nI m)) (up bk n (nI q)) (up tb n (nI (T + 1))) (up dd T 0) (n + 1) (T + 1) nb := by
  intro i hi
  rcases Nat.lt_succ_iff_lt_or_eq.mp hi with c | c
  · obtain ⟨h1, ⟨k, k1, k2, k3, k4⟩, h3⟩ := h i c
    rw [up_n (show i ≠ n by omega), up_n (show i ≠ n by omega), up_n (show i ≠ n by omega), up_n (show i ≠ n by omega), up_n (show i ≠ n by omega)]
    refine ⟨h1, ⟨k, by omega, k2, by rw [up_n (show k ≠ T by omega)]; exact k3, by rw [cntW_n (by omega)]; exact k4⟩, fun j hj hij e => ?_⟩
    by_cases cj : j = n
    · rw [cj, up_s] at e ⊢
      exact ho i c e
    · rw [up_n cj] at e ⊢
      exact h3 j (by omega) hij e
  · subst c
    rw [up_s, up_s, up_s, up_s, up_s]
    exact ⟨⟨b, w, m, q, rfl, hb, rfl, hw, rfl, hm, rfl, hq, hmq⟩, ⟨T, by omega, rfl, up_s _ _ _, by rw [cntW_n (Nat.le_refl _)]; exact hc⟩, fun j hj hij => by omega⟩
theorem sep_new {bo oa dd sj vl : Nat → Int32} {n T m b : Nat} {s v : Int32} (hm : m < 72000) (hback : ∀ i, i < n → bo i = nI b → ∃ c, lastF 1 (-1) dd sj vl T i = nI c ∧ c ≤ m) (h : SepOk bo oa dd sj vl n T) : SepOk (up bo n (nI b)) (up oa n (nI m)) (up dd T 0) (up sj T s) (up vl T v) (n + 1) (T + 1) := by
  intro i j hij hj e
  rw [last_new]
  by_cases cj : j = n
  · rw [cj, up_s, up_n (show i ≠ n by omega)] at e
    obtain ⟨c, h1, h2⟩ := hback i (by omega) e
    exact ⟨m, c, h1, by rw [cj, up_s], h2, hm⟩
  · rw [up_n cj, up_n (show i ≠ n by omega)] at e
    rw [up_n cj]
    exact h i j hij (by omega) e

/-! SOUNDNESS: each instruction goes on to the next (printed by wip/whole/emitex1.py) -/
theorem whole_fset {h : MH} {ci n cj m k : Nat} (hn : n + 1 = hC h (900000 + ci)) (hd : n = hD h (900000 + ci)) (hz : cj = ci → hZ h (900000 + ci) k = true) (hm : m < hC h (900000 + cj)) : fset (whole h (900000 + ci) n) cj m k ↔ fset h cj m k := by
  show (m < (if 900000 + cj = 900000 + ci then n + 1 else hD h (900000 + cj)) ∨ (m + 1 = hC h (900000 + cj) ∧ hZ h (900000 + cj) k = true)) ↔ (m < hD h (900000 + cj) ∨ (m + 1 = hC h (900000 + cj) ∧ hZ h (900000 + cj) k = true))
  by_cases e : cj = ci
  · subst e
    rw [if_pos rfl]
    have := hz rfl
    constructor
    · intro _
      by_cases hmn : m < n
      · exact Or.inl (by omega)
      · exact Or.inr ⟨by omega, this⟩
    · intro _
      exact Or.inl (by omega)
  · rw [if_neg (by omega)]
theorem whole_mono {h : MH} {s n : Nat} (hd : n = hD h s) : Mono h (whole h s n) := by
  refine ⟨fun _ => Nat.le_refl _, fun t => ?_, Nat.le_refl _, Nat.le_refl _⟩
  show hD h t ≤ (if t = s then n + 1 else hD h t)
  split
  · rename_i e; subst e; omega
  · exact Nat.le_refl _
theorem Wf_whole {h : MH} {ci n : Nat} (w : Wf h) (hn : n + 1 = hC h (900000 + ci)) (hd : n = hD h (900000 + ci)) (hz : ∀ k, k < clN ci → (fkO ci k).1 ≠ 0 → hZ h (900000 + ci) k = true) : Wf (whole h (900000 + ci) n) := by
  have hm := whole_mono (h := h) (s := 900000 + ci) hd
  obtain ⟨w1, w2, w3, w4⟩ := w
  refine ⟨fun t => ?_, fun cj m k h1 h2 h3 => ?_, fun s m i u hb h1 h2 => cok_mono hm.1 hm.2.1 (w3 s m i u hb h1 h2), w4⟩
  · show (if t = 900000 + ci then n + 1 else hD h t) ≤ hC h t
    split
    · rename_i e; subst e; omega
    · exact w1 t
  · by_cases z : (fkO cj k).1 = 0
    · exact ⟨fun q => absurd q (by omega), fun q => absurd q (by omega)⟩
    · have h4 := (whole_fset hn hd (fun e => by subst e; exact hz k h1 z) h2).mp h3
      have := w2 cj m k h1 h2 h4
      exact ⟨fun q => cok_mono hm.1 hm.2.1 (this.1 q), fun q => cok_mono hm.1 hm.2.1 (this.2 q)⟩
theorem cel_whole {dA : Nat → ClassId} {ad : Nat → Nat → Nat} {h : MH} {ci n t m : Nat} (w : Wf h) (hn : n + 1 = hC h (900000 + ci)) (hd : n = hD h (900000 + ci)) (hz : ∀ k, k < clN ci → (fkO ci k).1 ≠ 0 → hZ h (900000 + ci) k = true) (hm : m < hC h t) : cel dA ad (whole h (900000 + ci) n) t m = cel dA ad h t m := by
  unfold cel
  split
  · rename_i hs
    have e : fsv ad (whole h (900000 + ci) n) (t - 900000) m = fsv ad h (t - 900000) m := by
      unfold fsv
      refine List.map_congr_left (fun k hk1 => ?_)
      unfold fval
      split
      · rfl
      · rename_i z
        have ht : 900000 + (t - 900000) = t := by
          rcases w.2.2.2 t (by omega) with ⟨cj, g1, g2⟩ | ⟨g1, g2⟩ <;> omega
        rw [show fset (whole h (900000 + ci) n) (t - 900000) m k = fset h (t - 900000) m k from propext (whole_fset hn hd (fun e => by rw [e] at hk1 z; exact hz k (List.mem_range.mp hk1) z) (by rw [ht]; exact hm))]
    rw [e]
  · rfl
theorem lgcmp_ite (x y : Int64) : lg_cmp x y = if x < y then -1 else if y < x then 1 else 0 := by
  unfold lg_cmp
  simp only [gt_iff_lt, Int64.lt_iff_toInt_lt, ← Int64.toInt_inj]
  split <;> split <;> (try split) <;> (first | rfl | omega)
def Nx (l : Launch) (own : String) (ini law : Bool) (cc : ByteArray) (nL L : Nat) (scr : Nat → Int32) (d : Nat) (pc n : Nat) (lo : List (Option MV)) (st : List MV) (h : MH) (k : List (Option MV) → List MV → MH → Option Exit) (x : Exit) : Prop :=
  ∃ (lo' : List (Option MV)) (st' : List MV) (h' : MH), k lo' st' h' = some x ∧ Inv lo' st' h' ∧ Mono h h' ∧ Fr l own ini law cc nL L scr d (pc, lo, st, h) (pc + n, lo', st', h')
theorem Fr_whole {l : Launch} {own : String} {ini law : Bool} {cc : ByteArray} {nL L : Nat} {scr : Nat → Int32} {d pc : Nat} {lo : List (Option MV)} {r : List MV} {h : MH} {ci n : Nat} (hn : n + 1 = hC h (900000 + ci)) (hd : n = hD h (900000 + ci)) (hz : ∀ k, k < clN ci → (fkO ci k).1 ≠ 0 → hZ h (900000 + ci) k = true) : Fr l own ini law cc nL L scr d (pc, lo, vU (900000 + ci) n :: r, h) (pc, lo, vR (900000 + ci) n :: r, whole h (900000 + ci) n) := by
  intro p e R s m args below meth c Q Ts D dA base ad0 h0 F hini hlaw hR hroom k H locs cells slots ad ls S
  have hm := whole_mono (h := h) (s := 900000 + ci) hd
  have S' : St s nL D dA base ad0 h0 lo (vR (900000 + ci) n :: r) (whole h (900000 + ci) n) H locs cells slots ad ls := by
    obtain ⟨⟨ws, hP, hD0, hws, hinj⟩, hw, hS, hl, hok, hlo, hcnt, had, hge⟩ := S
    refine ⟨⟨ws, hP, hD0, fun t m hm2 => ?_, fun s n t m h1 h2 => hinj s n t m h1 h2⟩, Wf_whole hw hn hd hz, hS, hl, ⟨Or.inr ⟨?_, fun _ => ?_⟩, oks_mono hm.1 hm.2.1 hok.2⟩, fun i u hu => vok_mono hm.1 hm.2.1 (hlo i u hu), hcnt, had, hge⟩
    · rw [cel_whole hw hn hd hz hm2]
      exact hws t m hm2
    · show n < hC h (900000 + ci)
      omega
    · show n < (if 900000 + ci = 900000 + ci then n + 1 else hD h (900000 + ci))
      rw [if_pos rfl]; omega
  exact k H locs cells slots ad ls S'

theorem Fr.tr {l : Launch} {own : String} {ini law : Bool} {cc : ByteArray} {nL L : Nat} {scr : Nat → Int32} {d : Nat} {x y z : PT} (a : Fr l own ini law cc nL L scr d x y) (b : Fr l own ini law cc nL L scr d y z) (hm : Mono y.2.2.2 z.2.2.2) : Fr l own ini law cc nL L scr d x z := by
  intro p e R s m args below meth c Q Ts D dA base ad0 h0 F hini hlaw hR hroom k
  exact a F hini hlaw hR ⟨Nat.le_trans hm.2.2.1 hroom.1, Nat.le_trans hm.2.2.2 hroom.2⟩ (b F hini hlaw hR hroom k)
theorem newA_Mono (h : MH) (s N : Nat) : Mono h (newA h s N) := ⟨newA_mono h s N, fun _ => Nat.le_refl _, Nat.le_succ _, Nat.le_add_right _ _⟩
theorem newO_Mono (h : MH) (s w N : Nat) : Mono h (newO h s w N) := ⟨newO_mono h s w N, fun _ => Nat.le_refl _, Nat.le_succ _, Nat.le_add_right _ _⟩
theorem Inv.upd {lo : List (Option MV)} {st st' : List MV} {h h' : MH} (hi : Inv lo st h) (q : sameS h h') (hr : hR h' = hR h) (ho : oks h st') : Inv lo st' h' := ⟨hi.1.same q hr, q.oks ho, fun i v hv => q.vk (hi.2.2 i v hv)⟩
theorem Inv.mono {lo : List (Option MV)} {st st' : List MV} {h h' : MH} (hi : Inv lo st h) (q : Mono h h') (hw : Wf h') (ho : oks h' st') : Inv lo st' h' := ⟨hw, ho, fun i v hv => vok_mono q.1 q.2.1 (hi.2.2 i v hv)⟩
theorem Inv.stk {lo : List (Option MV)} {st st' : List MV} {h : MH} (hi : Inv lo st h) (ho : oks h st') : Inv lo st' h := ⟨hi.1, ho, hi.2.2⟩
section Ins
variable {l : Launch} {own : String} {ini law : Bool} {cc : ByteArray} {nL L : Nat} {scr : Nat → Int32} {d : Nat} {mt : Nat → Option MT} {cal : Cal} {cst : MV} {a b c dd : Nat} {ts : List (Int32 × Nat)} {pc : Nat} {lo : List (Option MV)} {st : List MV} {h : MH} {k : List (Option MV) → List MV → MH → Option Exit} {x : Exit}
theorem x_iadd (hi : Inv lo st h) (hd : decode cc pc = .ok (.iadd, 1)) (hx : ex1 L scr cal (.iadd, cst, a, b, c, dd, ts) lo st h k = some x) : Nx l own ini law cc nL L scr d pc 1 lo st h k x := by
  rcases st with _ | ⟨y | y, _ | ⟨z | z, r⟩⟩ <;> first
    | exact no_some hx
    | exact ⟨_, _, _, hx, hi.stk ⟨trivial, hi.2.1.2.2⟩, Mono.rf _, fun F _ _ _ _ k => s_iadd F hd k⟩
theorem x_isub (hi : Inv lo st h) (hd : decode cc pc = .ok (.isub, 1)) (hx : ex1 L scr cal (.isub, cst, a, b, c, dd, ts) lo st h k = some x) : Nx l own ini law cc nL L scr d pc 1 lo st h k x := by
  rcases st with _ | ⟨y | y, _ | ⟨z | z, r⟩⟩ <;> first
    | exact no_some hx
    | exact ⟨_, _, _, hx, hi.stk ⟨trivial, hi.2.1.2.2⟩, Mono.rf _, fun F _ _ _ _ k => s_isub F hd k⟩
theorem x_imul (hi : Inv lo st h) (hd : decode cc pc = .ok (.imul, 1)) (hx : ex1 L scr cal (.imul, cst, a, b, c, dd, ts) lo st h k = some x) : Nx l own ini law cc nL L scr d pc 1 lo st h k x := by
  rcases st with _ | ⟨y | y, _ | ⟨z | z, r⟩⟩ <;> first
    | exact no_some hx
    | exact ⟨_, _, _, hx, hi.stk ⟨trivial, hi.2.1.2.2⟩, Mono.rf _, fun F _ _ _ _ k => s_imul F hd k⟩
theorem x_iand (hi : Inv lo st h) (hd : decode cc pc = .ok (.iand, 1)) (hx : ex1 L scr cal (.iand, cst, a, b, c, dd, ts) lo st h k = some x) : Nx l own ini law cc nL L scr d pc 1 lo st h k x := by
  rcases st with _ | ⟨y | y, _ | ⟨z | z, r⟩⟩ <;> first
    | exact no_some hx
    | exact ⟨_, _, _, hx, hi.stk ⟨trivial, hi.2.1.2.2⟩, Mono.rf _, fun F _ _ _ _ k => s_iand F hd k⟩
theorem x_ior (hi : Inv lo st h) (hd : decode cc pc = .ok (.ior, 1)) (hx : ex1 L scr cal (.ior, cst, a, b, c, dd, ts) lo st h k = some x) : Nx l own ini law cc nL L scr d pc 1 lo st h k x := by
  rcases st with _ | ⟨y | y, _ | ⟨z | z, r⟩⟩ <;> first
    | exact no_some hx
    | exact ⟨_, _, _, hx, hi.stk ⟨trivial, hi.2.1.2.2⟩, Mono.rf _, fun F _ _ _ _ k => s_ior F hd k⟩
theorem x_ixor (hi : Inv lo st h) (hd : decode cc pc = .ok (.ixor, 1)) (hx : ex1 L scr cal (.ixor, cst, a, b, c, dd, ts) lo st h k = some x) : Nx l own ini law cc nL L scr d pc 1 lo st h k x := by
  rcases st with _ | ⟨y | y, _ | ⟨z | z, r⟩⟩ <;> first
    | exact no_some hx
    | exact ⟨_, _, _, hx, hi.stk ⟨trivial, hi.2.1.2.2⟩, Mono.rf _, fun F _ _ _ _ k => s_ixor F hd k⟩
theorem x_ishl (hi : Inv lo st h) (hd : decode cc pc = .ok (.ishl, 1)) (hx : ex1 L scr cal (.ishl, cst, a, b, c, dd, ts) lo st h k = some x) : Nx l own ini law cc nL L scr d pc 1 lo st h k x := by
  rcases st with _ | ⟨y | y, _ | ⟨z | z, r⟩⟩ <;> first
    | exact no_some hx
    | exact ⟨_, _, _, hx, hi.stk ⟨trivial, hi.2.1.2.2⟩, Mono.rf _, fun F _ _ _ _ k => s_ishl F hd k⟩
theorem x_ishr (hi : Inv lo st h) (hd : decode cc pc = .ok (.ishr, 1)) (hx : ex1 L scr cal (.ishr, cst, a, b, c, dd, ts) lo st h k = some x) : Nx l own ini law cc nL L scr d pc 1 lo st h k x := by
  rcases st with _ | ⟨y | y, _ | ⟨z | z, r⟩⟩ <;> first
    | exact no_some hx
    | exact ⟨_, _, _, hx, hi.stk ⟨trivial, hi.2.1.2.2⟩, Mono.rf _, fun F _ _ _ _ k => s_ishr F hd k⟩
theorem x_iushr (hi : Inv lo st h) (hd : decode cc pc = .ok (.iushr, 1)) (hx : ex1 L scr cal (.iushr, cst, a, b, c, dd, ts) lo st h k = some x) : Nx l own ini law cc nL L scr d pc 1 lo st h k x := by
  rcases st with _ | ⟨y | y, _ | ⟨z | z, r⟩⟩ <;> first
    | exact no_some hx
    | exact ⟨_, _, _, hx, hi.stk ⟨trivial, hi.2.1.2.2⟩, Mono.rf _, fun F _ _ _ _ k => s_iushr F hd k⟩
theorem x_idiv (hi : Inv lo st h) (hd : decode cc pc = .ok (.idiv, 1)) (hx : ex1 L scr cal (.idiv, cst, a, b, c, dd, ts) lo st h k = some x) : Nx l own ini law cc nL L scr d pc 1 lo st h k x := by
  rcases st with _ | ⟨y | y, _ | ⟨z | z, r⟩⟩ <;> first
    | exact no_some hx
    | (have hx : (if y = 0 then none else k lo (vI (z / y) :: r) h) = some x := hx
       by_cases hy : y = 0
       · rw [if_pos hy] at hx; exact no_some hx
       · rw [if_neg hy] at hx
         exact ⟨_, _, _, hx, hi.stk ⟨trivial, hi.2.1.2.2⟩, Mono.rf _, fun F _ _ _ _ k => s_idiv F hd hy k⟩)
theorem x_irem (hi : Inv lo st h) (hd : decode cc pc = .ok (.irem, 1)) (hx : ex1 L scr cal (.irem, cst, a, b, c, dd, ts) lo st h k = some x) : Nx l own ini law cc nL L scr d pc 1 lo st h k x := by
  rcases st with _ | ⟨y | y, _ | ⟨z | z, r⟩⟩ <;> first
    | exact no_some hx
    | (have hx : (if y = 0 then none else k lo (vI (z % y) :: r) h) = some x := hx
       by_cases hy : y = 0
       · rw [if_pos hy] at hx; exact no_some hx
       · rw [if_neg hy] at hx
         exact ⟨_, _, _, hx, hi.stk ⟨trivial, hi.2.1.2.2⟩, Mono.rf _, fun F _ _ _ _ k => s_irem F hd hy k⟩)
theorem x_ladd (hi : Inv lo st h) (hd : decode cc pc = .ok (.ladd, 1)) (hx : ex1 L scr cal (.ladd, cst, a, b, c, dd, ts) lo st h k = some x) : Nx l own ini law cc nL L scr d pc 1 lo st h k x := by
  rcases st with _ | ⟨y | y | y, _ | ⟨z | z | z, r⟩⟩ <;> first
    | exact no_some hx
    | exact ⟨_, _, _, hx, hi.stk ⟨trivial, hi.2.1.2.2⟩, Mono.rf _, fun F _ _ _ _ k => s_ladd F hd k⟩
theorem x_lmul (hi : Inv lo st h) (hd : decode cc pc = .ok (.lmul, 1)) (hx : ex1 L scr cal (.lmul, cst, a, b, c, dd, ts) lo st h k = some x) : Nx l own ini law cc nL L scr d pc 1 lo st h k x := by
  rcases st with _ | ⟨y | y | y, _ | ⟨z | z | z, r⟩⟩ <;> first
    | exact no_some hx
    | exact ⟨_, _, _, hx, hi.stk ⟨trivial, hi.2.1.2.2⟩, Mono.rf _, fun F _ _ _ _ k => s_lmul F hd k⟩
theorem x_land (hi : Inv lo st h) (hd : decode cc pc = .ok (.land, 1)) (hx : ex1 L scr cal (.land, cst, a, b, c, dd, ts) lo st h k = some x) : Nx l own ini law cc nL L scr d pc 1 lo st h k x := by
  rcases st with _ | ⟨y | y | y, _ | ⟨z | z | z, r⟩⟩ <;> first
    | exact no_some hx
    | exact ⟨_, _, _, hx, hi.stk ⟨trivial, hi.2.1.2.2⟩, Mono.rf _, fun F _ _ _ _ k => s_land F hd k⟩
theorem x_lor (hi : Inv lo st h) (hd : decode cc pc = .ok (.lor, 1)) (hx : ex1 L scr cal (.lor, cst, a, b, c, dd, ts) lo st h k = some x) : Nx l own ini law cc nL L scr d pc 1 lo st h k x := by
  rcases st with _ | ⟨y | y | y, _ | ⟨z | z | z, r⟩⟩ <;> first
    | exact no_some hx
    | exact ⟨_, _, _, hx, hi.stk ⟨trivial, hi.2.1.2.2⟩, Mono.rf _, fun F _ _ _ _ k => s_lor F hd k⟩
theorem x_lxor (hi : Inv lo st h) (hd : decode cc pc = .ok (.lxor, 1)) (hx : ex1 L scr cal (.lxor, cst, a, b, c, dd, ts) lo st h k = some x) : Nx l own ini law cc nL L scr d pc 1 lo st h k x := by
  rcases st with _ | ⟨y | y | y, _ | ⟨z | z | z, r⟩⟩ <;> first
    | exact no_some hx
    | exact ⟨_, _, _, hx, hi.stk ⟨trivial, hi.2.1.2.2⟩, Mono.rf _, fun F _ _ _ _ k => s_lxor F hd k⟩
theorem x_lcmp (hi : Inv lo st h) (hd : decode cc pc = .ok (.lcmp, 1)) (hx : ex1 L scr cal (.lcmp, cst, a, b, c, dd, ts) lo st h k = some x) : Nx l own ini law cc nL L scr d pc 1 lo st h k x := by
  rcases st with _ | ⟨y | y | y, _ | ⟨z | z | z, r⟩⟩ <;> first
    | exact no_some hx
    | exact ⟨_, _, _, hx, hi.stk ⟨trivial, hi.2.1.2.2⟩, Mono.rf _, fun F _ _ _ _ k => s_lcmp F hd (by rw [lgcmp_ite]; exact k)⟩
theorem x_ldiv (hi : Inv lo st h) (hd : decode cc pc = .ok (.ldiv, 1)) (hx : ex1 L scr cal (.ldiv, cst, a, b, c, dd, ts) lo st h k = some x) : Nx l own ini law cc nL L scr d pc 1 lo st h k x := by
  rcases st with _ | ⟨y | y | y, _ | ⟨z | z | z, r⟩⟩ <;> first
    | exact no_some hx
    | (have hx : (if y = 0 then none else k lo (vL (z / y) :: r) h) = some x := hx
       by_cases hy : y = 0
       · rw [if_pos hy] at hx; exact no_some hx
       · rw [if_neg hy] at hx
         exact ⟨_, _, _, hx, hi.stk ⟨trivial, hi.2.1.2.2⟩, Mono.rf _, fun F _ _ _ _ k => s_ldiv F hd hy k⟩)
theorem x_lrem (hi : Inv lo st h) (hd : decode cc pc = .ok (.lrem, 1)) (hx : ex1 L scr cal (.lrem, cst, a, b, c, dd, ts) lo st h k = some x) : Nx l own ini law cc nL L scr d pc 1 lo st h k x := by
  rcases st with _ | ⟨y | y | y, _ | ⟨z | z | z, r⟩⟩ <;> first
    | exact no_some hx
    | (have hx : (if y = 0 then none else k lo (vL (z % y) :: r) h) = some x := hx
       by_cases hy : y = 0
       · rw [if_pos hy] at hx; exact no_some hx
       · rw [if_neg hy] at hx
         exact ⟨_, _, _, hx, hi.stk ⟨trivial, hi.2.1.2.2⟩, Mono.rf _, fun F _ _ _ _ k => s_lrem F hd hy k⟩)
theorem x_lshl (hi : Inv lo st h) (hd : decode cc pc = .ok (.lshl, 1)) (hx : ex1 L scr cal (.lshl, cst, a, b, c, dd, ts) lo st h k = some x) : Nx l own ini law cc nL L scr d pc 1 lo st h k x := by
  rcases st with _ | ⟨y | y | y, _ | ⟨z | z | z, r⟩⟩ <;> first
    | exact no_some hx
    | exact ⟨_, _, _, hx, hi.stk ⟨trivial, hi.2.1.2.2⟩, Mono.rf _, fun F _ _ _ _ k => s_lshl F hd k⟩
theorem x_lushr (hi : Inv lo st h) (hd : decode cc pc = .ok (.lushr, 1)) (hx : ex1 L scr cal (.lushr, cst, a, b, c, dd, ts) lo st h k = some x) : Nx l own ini law cc nL L scr d pc 1 lo st h k x := by
  rcases st with _ | ⟨y | y | y, _ | ⟨z | z | z, r⟩⟩ <;> first
    | exact no_some hx
    | exact ⟨_, _, _, hx, hi.stk ⟨trivial, hi.2.1.2.2⟩, Mono.rf _, fun F _ _ _ _ k => s_lushr F hd k⟩
theorem x_ineg (hi : Inv lo st h) (hd : decode cc pc = .ok (.ineg, 1)) (hx : ex1 L scr cal (.ineg, cst, a, b, c, dd, ts) lo st h k = some x) : Nx l own ini law cc nL L scr d pc 1 lo st h k x := by
  rcases st with _ | ⟨y | y, r⟩ <;> first
    | exact no_some hx
    | exact ⟨_, _, _, hx, hi.stk ⟨trivial, hi.2.1.2⟩, Mono.rf _, fun F _ _ _ _ k => s_ineg F hd k⟩
theorem x_i2l (hi : Inv lo st h) (hd : decode cc pc = .ok (.i2l, 1)) (hx : ex1 L scr cal (.i2l, cst, a, b, c, dd, ts) lo st h k = some x) : Nx l own ini law cc nL L scr d pc 1 lo st h k x := by
  rcases st with _ | ⟨y | y, r⟩ <;> first
    | exact no_some hx
    | exact ⟨_, _, _, hx, hi.stk ⟨trivial, hi.2.1.2⟩, Mono.rf _, fun F _ _ _ _ k => s_i2l F hd k⟩
theorem x_i2b (hi : Inv lo st h) (hd : decode cc pc = .ok (.i2b, 1)) (hx : ex1 L scr cal (.i2b, cst, a, b, c, dd, ts) lo st h k = some x) : Nx l own ini law cc nL L scr d pc 1 lo st h k x := by
  rcases st with _ | ⟨y | y, r⟩ <;> first
    | exact no_some hx
    | exact ⟨_, _, _, hx, hi.stk ⟨trivial, hi.2.1.2⟩, Mono.rf _, fun F _ _ _ _ k => s_i2b F hd k⟩
theorem x_lneg (hi : Inv lo st h) (hd : decode cc pc = .ok (.lneg, 1)) (hx : ex1 L scr cal (.lneg, cst, a, b, c, dd, ts) lo st h k = some x) : Nx l own ini law cc nL L scr d pc 1 lo st h k x := by
  rcases st with _ | ⟨y | y | y, r⟩ <;> first
    | exact no_some hx
    | exact ⟨_, _, _, hx, hi.stk ⟨trivial, hi.2.1.2⟩, Mono.rf _, fun F _ _ _ _ k => s_lneg F hd k⟩
theorem x_l2i (hi : Inv lo st h) (hd : decode cc pc = .ok (.l2i, 1)) (hx : ex1 L scr cal (.l2i, cst, a, b, c, dd, ts) lo st h k = some x) : Nx l own ini law cc nL L scr d pc 1 lo st h k x := by
  rcases st with _ | ⟨y | y | y, r⟩ <;> first
    | exact no_some hx
    | exact ⟨_, _, _, hx, hi.stk ⟨trivial, hi.2.1.2⟩, Mono.rf _, fun F _ _ _ _ k => s_l2i F hd k⟩
theorem x_pop (hi : Inv lo st h) (hd : decode cc pc = .ok (.pop, 1)) (hx : ex1 L scr cal (.pop, cst, a, b, c, dd, ts) lo st h k = some x) : Nx l own ini law cc nL L scr d pc 1 lo st h k x := by
  rcases st with _ | ⟨y | y, r⟩ <;> first
    | exact no_some hx
    | exact ⟨_, _, _, hx, hi.stk hi.2.1.2, Mono.rf _, fun F _ _ _ _ k => s_pop F hd k⟩
theorem x_dup (hi : Inv lo st h) (hd : decode cc pc = .ok (.dup, 1)) (hx : ex1 L scr cal (.dup, cst, a, b, c, dd, ts) lo st h k = some x) : Nx l own ini law cc nL L scr d pc 1 lo st h k x := by
  rcases st with _ | ⟨y | y | y, r⟩ <;> first
    | exact no_some hx
    | exact ⟨_, _, _, hx, hi.stk ⟨trivial, trivial, hi.2.1.2⟩, Mono.rf _, fun F _ _ _ _ k => s_dupI F hd k⟩
    | exact ⟨_, _, _, hx, hi.stk ⟨hi.2.1.1, hi.2.1.1, hi.2.1.2⟩, Mono.rf _, fun F _ _ _ _ k => s_dupR F hd k⟩
theorem x_dup2 (hi : Inv lo st h) (hd : decode cc pc = .ok (.dup2, 1)) (hx : ex1 L scr cal (.dup2, cst, a, b, c, dd, ts) lo st h k = some x) : Nx l own ini law cc nL L scr d pc 1 lo st h k x := by
  rcases st with _ | ⟨y | y, _ | ⟨z | z | z, r⟩⟩ <;> first
    | exact no_some hx
    | exact ⟨_, _, _, hx, hi.stk ⟨trivial, hi.2.1.2.1, trivial, hi.2.1.2.1, hi.2.1.2.2⟩, Mono.rf _, fun F _ _ _ _ k => s_dup2 F hd k⟩
theorem x_iconst {n : Int} (hi : Inv lo st h) (hd : decode cc pc = .ok (.iconst n, 1)) (hr : decide (cst = vI (Int32.ofInt n)) = true) (hx : ex1 L scr cal (.iconst n, cst, a, b, c, dd, ts) lo st h k = some x) : Nx l own ini law cc nL L scr d pc 1 lo st h k x := by
  rw [decide_eq_true_eq] at hr
  subst hr
  exact ⟨_, _, _, hx, hi.stk ⟨trivial, hi.2.1⟩, Mono.rf _, fun F _ _ _ _ k => s_iconst F hd rfl k⟩
theorem x_bipush {n : Int} (hi : Inv lo st h) (hd : decode cc pc = .ok (.bipush n, 2)) (hr : decide (cst = vI (Int8.ofInt n).toInt32) = true) (hx : ex1 L scr cal (.bipush n, cst, a, b, c, dd, ts) lo st h k = some x) : Nx l own ini law cc nL L scr d pc 2 lo st h k x := by
  rw [decide_eq_true_eq] at hr
  subst hr
  exact ⟨_, _, _, hx, hi.stk ⟨trivial, hi.2.1⟩, Mono.rf _, fun F _ _ _ _ k => s_bipush F hd rfl k⟩
theorem x_sipush {n : Int} (hi : Inv lo st h) (hd : decode cc pc = .ok (.sipush n, 3)) (hr : decide (cst = vI (Int16.ofInt n).toInt32) = true) (hx : ex1 L scr cal (.sipush n, cst, a, b, c, dd, ts) lo st h k = some x) : Nx l own ini law cc nL L scr d pc 3 lo st h k x := by
  rw [decide_eq_true_eq] at hr
  subst hr
  exact ⟨_, _, _, hx, hi.stk ⟨trivial, hi.2.1⟩, Mono.rf _, fun F _ _ _ _ k => s_sipush F hd rfl k⟩
theorem x_lconst {n : Fin 2} (hi : Inv lo st h) (hd : decode cc pc = .ok (.lconst n, 1)) (hr : decide (cst = vL (Int64.ofNat (n : Nat))) = true) (hx : ex1 L scr cal (.lconst n, cst, a, b, c, dd, ts) lo st h k = some x) : Nx l own ini law cc nL L scr d pc 1 lo st h k x := by
  rw [decide_eq_true_eq] at hr
  subst hr
  exact ⟨_, _, _, hx, hi.stk ⟨trivial, hi.2.1⟩, Mono.rf _, fun F _ _ _ _ k => s_lconst F hd rfl k⟩
theorem x_aconst_null (hi : Inv lo st h) (hd : decode cc pc = .ok (.aconst_null, 1)) (hr : decide (cst = vN) = true) (hx : ex1 L scr cal (.aconst_null, cst, a, b, c, dd, ts) lo st h k = some x) : Nx l own ini law cc nL L scr d pc 1 lo st h k x := by
  rw [decide_eq_true_eq] at hr
  subst hr
  exact ⟨_, _, _, hx, hi.stk ⟨trivial, hi.2.1⟩, Mono.rf _, fun F _ _ _ _ k => s_null F hd k⟩
theorem x_ldc {idx : Nat} (hi : Inv lo st h) (hd : decode cc pc = .ok (.ldc idx, 2)) (hr : ckR own ini law nL mt (.ldc idx, cst, a, b, c, dd, ts) = true) (hx : ex1 L scr cal (.ldc idx, cst, a, b, c, dd, ts) lo st h k = some x) : Nx l own ini law cc nL L scr d pc 2 lo st h k x := by
  rcases cst with v | cst
  · exact ⟨_, _, _, hx, hi.stk ⟨trivial, hi.2.1⟩, Mono.rf _, fun F _ _ _ _ k => s_ldc F hd (tw_in hr) k⟩
  · have hr : (decide ((.inr cst : MV) = vR 98 0) && (decide (own = RX6) && Nat.beq idx 79)) = true := hr
    rw [Bool.and_eq_true, Bool.and_eq_true, decide_eq_true_eq, decide_eq_true_eq] at hr
    obtain ⟨h1, h2, h3⟩ := hr
    have h3 := Nat.eq_of_beq_eq_true h3
    subst h3
    rw [h1] at hx
    exact ⟨_, _, _, hx, hi.stk ⟨Or.inl (by decide), hi.2.1⟩, Mono.rf _, fun F _ _ _ _ k => s_ldcS F h2 hd k⟩
theorem x_ldc_w {idx : Nat} (hi : Inv lo st h) (hd : decode cc pc = .ok (.ldc_w idx, 3)) (hr : ckR own ini law nL mt (.ldc_w idx, cst, a, b, c, dd, ts) = true) (hx : ex1 L scr cal (.ldc_w idx, cst, a, b, c, dd, ts) lo st h k = some x) : Nx l own ini law cc nL L scr d pc 3 lo st h k x := by
  rcases cst with v | cst
  · exact ⟨_, _, _, hx, hi.stk ⟨trivial, hi.2.1⟩, Mono.rf _, fun F _ _ _ _ k => s_ldcw F hd (tw_in hr) k⟩
  · exact absurd (show false = true from hr) (by decide)
theorem x_ldc2_w {idx : Nat} (hi : Inv lo st h) (hd : decode cc pc = .ok (.ldc2_w idx, 3)) (hr : ckR own ini law nL mt (.ldc2_w idx, cst, a, b, c, dd, ts) = true) (hx : ex1 L scr cal (.ldc2_w idx, cst, a, b, c, dd, ts) lo st h k = some x) : Nx l own ini law cc nL L scr d pc 3 lo st h k x := by
  rcases cst with v | v | v
  · exact absurd (show false = true from hr) (by decide)
  · exact ⟨_, _, _, hx, hi.stk ⟨trivial, hi.2.1⟩, Mono.rf _, fun F _ _ _ _ k => s_ldc2 F hd (tw_in hr) k⟩
  · exact absurd (show false = true from hr) (by decide)
theorem x_iload {q : Nat} (hi : Inv lo st h) (hd : decode cc pc = .ok (.iload q, 2)) (hr : Nat.beq q a = true) (hx : ex1 L scr cal (.iload q, cst, a, b, c, dd, ts) lo st h k = some x) : Nx l own ini law cc nL L scr d pc 2 lo st h k x := by
  have hr := Nat.eq_of_beq_eq_true hr
  subst hr
  have hx : (match lk lo q with
    | some (.inl x) => k lo (vI x :: st) h
    | _ => none) = some x := hx
  rcases e : lk lo q with _ | y | y <;> rw [e] at hx <;> first
    | exact no_some hx
    | exact ⟨_, _, _, hx, hi.stk ⟨trivial, hi.2.1⟩, Mono.rf _, fun F _ _ _ _ k => s_iload F hd e k⟩
theorem x_iload_n {q : Fin 4} (hi : Inv lo st h) (hd : decode cc pc = .ok (.iload_n q, 1)) (hr : Nat.beq q a = true) (hx : ex1 L scr cal (.iload_n q, cst, a, b, c, dd, ts) lo st h k = some x) : Nx l own ini law cc nL L scr d pc 1 lo st h k x := by
  have hr := Nat.eq_of_beq_eq_true hr
  skip
  have hx : (match lk lo a with
    | some (.inl x) => k lo (vI x :: st) h
    | _ => none) = some x := hx
  rcases e : lk lo a with _ | y | y <;> rw [e] at hx <;> first
    | exact no_some hx
    | exact ⟨_, _, _, hx, hi.stk ⟨trivial, hi.2.1⟩, Mono.rf _, fun F _ _ _ _ k => s_iload_n F hd hr e k⟩
theorem x_lload {q : Nat} (hi : Inv lo st h) (hd : decode cc pc = .ok (.lload q, 2)) (hr : Nat.beq q a = true) (hx : ex1 L scr cal (.lload q, cst, a, b, c, dd, ts) lo st h k = some x) : Nx l own ini law cc nL L scr d pc 2 lo st h k x := by
  have hr := Nat.eq_of_beq_eq_true hr
  subst hr
  have hx : (match lk lo q with
    | some (.inr (.inl x)) => k lo (vL x :: st) h
    | _ => none) = some x := hx
  rcases e : lk lo q with _ | y | y | y <;> rw [e] at hx <;> first
    | exact no_some hx
    | exact ⟨_, _, _, hx, hi.stk ⟨trivial, hi.2.1⟩, Mono.rf _, fun F _ _ _ _ k => s_lload F hd e k⟩
theorem x_lload_n {q : Fin 4} (hi : Inv lo st h) (hd : decode cc pc = .ok (.lload_n q, 1)) (hr : Nat.beq q a = true) (hx : ex1 L scr cal (.lload_n q, cst, a, b, c, dd, ts) lo st h k = some x) : Nx l own ini law cc nL L scr d pc 1 lo st h k x := by
  have hr := Nat.eq_of_beq_eq_true hr
  skip
  have hx : (match lk lo a with
    | some (.inr (.inl x)) => k lo (vL x :: st) h
    | _ => none) = some x := hx
  rcases e : lk lo a with _ | y | y | y <;> rw [e] at hx <;> first
    | exact no_some hx
    | exact ⟨_, _, _, hx, hi.stk ⟨trivial, hi.2.1⟩, Mono.rf _, fun F _ _ _ _ k => s_lload_n F hd hr e k⟩
theorem x_aload {q : Nat} (hi : Inv lo st h) (hd : decode cc pc = .ok (.aload q, 2)) (hr : Nat.beq q a = true) (hx : ex1 L scr cal (.aload q, cst, a, b, c, dd, ts) lo st h k = some x) : Nx l own ini law cc nL L scr d pc 2 lo st h k x := by
  have hr := Nat.eq_of_beq_eq_true hr
  subst hr
  have hx : (match lk lo q with
    | some (.inr (.inr v)) => k lo (.inr (.inr v) :: st) h
    | _ => none) = some x := hx
  rcases e : lk lo q with _ | y | y | y <;> rw [e] at hx <;> first
    | exact no_some hx
    | exact ⟨_, _, _, hx, hi.stk ⟨hi.2.2 _ _ e, hi.2.1⟩, Mono.rf _, fun F _ _ _ _ k => s_aload F hd e k⟩
theorem x_aload_n {q : Fin 4} (hi : Inv lo st h) (hd : decode cc pc = .ok (.aload_n q, 1)) (hr : Nat.beq q a = true) (hx : ex1 L scr cal (.aload_n q, cst, a, b, c, dd, ts) lo st h k = some x) : Nx l own ini law cc nL L scr d pc 1 lo st h k x := by
  have hr := Nat.eq_of_beq_eq_true hr
  skip
  have hx : (match lk lo a with
    | some (.inr (.inr v)) => k lo (.inr (.inr v) :: st) h
    | _ => none) = some x := hx
  rcases e : lk lo a with _ | y | y | y <;> rw [e] at hx <;> first
    | exact no_some hx
    | exact ⟨_, _, _, hx, hi.stk ⟨hi.2.2 _ _ e, hi.2.1⟩, Mono.rf _, fun F _ _ _ _ k => s_aload_n F hd hr e k⟩
theorem x_istore {q : Nat} (hi : Inv lo st h) (hd : decode cc pc = .ok (.istore q, 2)) (hr : (Nat.beq q a && Nat.blt (a) nL) = true) (hx : ex1 L scr cal (.istore q, cst, a, b, c, dd, ts) lo st h k = some x) : Nx l own ini law cc nL L scr d pc 2 lo st h k x := by
  rw [Bool.and_eq_true] at hr
  obtain ⟨hr, hl⟩ := hr
  have hr := Nat.eq_of_beq_eq_true hr
  have hl : a < nL := Nat.le_of_ble_eq_true hl
  subst hr
  rcases st with _ | ⟨y | y, r⟩ <;> first
    | exact no_some hx
    | exact ⟨_, _, _, hx, ⟨hi.1, hi.2.1.2, lok1 hi.2.2 (trivial)⟩, Mono.rf _, fun F _ _ _ _ k => s_istore F hd hl k⟩
theorem x_istore_n {q : Fin 4} (hi : Inv lo st h) (hd : decode cc pc = .ok (.istore_n q, 1)) (hr : (Nat.beq q a && Nat.blt (a) nL) = true) (hx : ex1 L scr cal (.istore_n q, cst, a, b, c, dd, ts) lo st h k = some x) : Nx l own ini law cc nL L scr d pc 1 lo st h k x := by
  rw [Bool.and_eq_true] at hr
  obtain ⟨hr, hl⟩ := hr
  have hr := Nat.eq_of_beq_eq_true hr
  have hl : a < nL := Nat.le_of_ble_eq_true hl
  rcases st with _ | ⟨y | y, r⟩ <;> first
    | exact no_some hx
    | exact ⟨_, _, _, hx, ⟨hi.1, hi.2.1.2, lok1 hi.2.2 (trivial)⟩, Mono.rf _, fun F _ _ _ _ k => s_istore_n F hd hr hl k⟩
theorem x_lstore {q : Nat} (hi : Inv lo st h) (hd : decode cc pc = .ok (.lstore q, 2)) (hr : (Nat.beq q a && Nat.blt (a + 1) nL) = true) (hx : ex1 L scr cal (.lstore q, cst, a, b, c, dd, ts) lo st h k = some x) : Nx l own ini law cc nL L scr d pc 2 lo st h k x := by
  rw [Bool.and_eq_true] at hr
  obtain ⟨hr, hl⟩ := hr
  have hr := Nat.eq_of_beq_eq_true hr
  have hl : a + 1 < nL := Nat.le_of_ble_eq_true hl
  subst hr
  rcases st with _ | ⟨y | y | y, r⟩ <;> first
    | exact no_some hx
    | exact ⟨_, _, _, hx, ⟨hi.1, hi.2.1.2, lok2 hi.2.2 (trivial)⟩, Mono.rf _, fun F _ _ _ _ k => s_lstore F hd hl k⟩
theorem x_lstore_n {q : Fin 4} (hi : Inv lo st h) (hd : decode cc pc = .ok (.lstore_n q, 1)) (hr : (Nat.beq q a && Nat.blt (a + 1) nL) = true) (hx : ex1 L scr cal (.lstore_n q, cst, a, b, c, dd, ts) lo st h k = some x) : Nx l own ini law cc nL L scr d pc 1 lo st h k x := by
  rw [Bool.and_eq_true] at hr
  obtain ⟨hr, hl⟩ := hr
  have hr := Nat.eq_of_beq_eq_true hr
  have hl : a + 1 < nL := Nat.le_of_ble_eq_true hl
  rcases st with _ | ⟨y | y | y, r⟩ <;> first
    | exact no_some hx
    | exact ⟨_, _, _, hx, ⟨hi.1, hi.2.1.2, lok2 hi.2.2 (trivial)⟩, Mono.rf _, fun F _ _ _ _ k => s_lstore_n F hd hr hl k⟩
theorem x_astore {q : Nat} (hi : Inv lo st h) (hd : decode cc pc = .ok (.astore q, 2)) (hr : (Nat.beq q a && Nat.blt (a) nL) = true) (hx : ex1 L scr cal (.astore q, cst, a, b, c, dd, ts) lo st h k = some x) : Nx l own ini law cc nL L scr d pc 2 lo st h k x := by
  rw [Bool.and_eq_true] at hr
  obtain ⟨hr, hl⟩ := hr
  have hr := Nat.eq_of_beq_eq_true hr
  have hl : a < nL := Nat.le_of_ble_eq_true hl
  subst hr
  rcases st with _ | ⟨y | y | y, r⟩ <;> first
    | exact no_some hx
    | exact ⟨_, _, _, hx, ⟨hi.1, hi.2.1.2, lok1 hi.2.2 (hi.2.1.1)⟩, Mono.rf _, fun F _ _ _ _ k => s_astore F hd hl k⟩
theorem x_astore_n {q : Fin 4} (hi : Inv lo st h) (hd : decode cc pc = .ok (.astore_n q, 1)) (hr : (Nat.beq q a && Nat.blt (a) nL) = true) (hx : ex1 L scr cal (.astore_n q, cst, a, b, c, dd, ts) lo st h k = some x) : Nx l own ini law cc nL L scr d pc 1 lo st h k x := by
  rw [Bool.and_eq_true] at hr
  obtain ⟨hr, hl⟩ := hr
  have hr := Nat.eq_of_beq_eq_true hr
  have hl : a < nL := Nat.le_of_ble_eq_true hl
  rcases st with _ | ⟨y | y | y, r⟩ <;> first
    | exact no_some hx
    | exact ⟨_, _, _, hx, ⟨hi.1, hi.2.1.2, lok1 hi.2.2 (hi.2.1.1)⟩, Mono.rf _, fun F _ _ _ _ k => s_astore_n F hd hr hl k⟩
theorem x_iinc {q : Nat} {n : Int} (hi : Inv lo st h) (hd : decode cc pc = .ok (.iinc q n, 3)) (hr : (decide (cst = vI (Int32.ofInt n)) && (Nat.beq q a && Nat.blt a nL)) = true) (hx : ex1 L scr cal (.iinc q n, cst, a, b, c, dd, ts) lo st h k = some x) : Nx l own ini law cc nL L scr d pc 3 lo st h k x := by
  rw [Bool.and_eq_true, Bool.and_eq_true, decide_eq_true_eq] at hr
  obtain ⟨h1, h2, h3⟩ := hr
  have h2 := Nat.eq_of_beq_eq_true h2
  have h3 : a < nL := Nat.le_of_ble_eq_true h3
  subst h1
  subst h2
  have hx : (match vI (Int32.ofInt n), lk lo q with
    | .inl y, some (.inl x) => k (st1 lo q (vI (x + y))) st h
    | _, _ => none) = some x := hx
  rcases e : lk lo q with _ | y | y <;> rw [e] at hx <;> first
    | exact no_some hx
    | exact ⟨_, _, _, hx, ⟨hi.1, hi.2.1, lok1 hi.2.2 trivial⟩, Mono.rf _, fun F _ _ _ _ k => s_iinc F hd rfl h3 e k⟩
end Ins

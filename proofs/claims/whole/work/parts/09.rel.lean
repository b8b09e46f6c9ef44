/-! What the small machine's heap says of the machine's own -/
def tgS (s : Nat) : Nat := s / 100000 % 10
def tgtT (t : Nat) : Nat := if t = 4 then 900005 else 900009
def tysA (dA : Nat → ClassId) : List (ClassId × FieldType) := [(dA 0, .int), (dA 1, .byte), (dA 2, .boolean), (dA 3, .long), (dA 4, .object RX5), (dA 5, .object RX9)]
def rv (ad : Nat → Nat → Nat) : MV → Value
  | .inl x => .int x
  | .inr (.inl x) => .long x
  | .inr (.inr (.inl q)) => .ref (ad q.1 q.2)
  | .inr (.inr (.inr (.inl q))) => .ref (ad q.1 q.2)
  | .inr (.inr (.inr (.inr _))) => .null
def fset (h : MH) (ci n k : Nat) : Prop := n < hD h (900000 + ci) ∨ (n + 1 = hC h (900000 + ci) ∧ hZ h (900000 + ci) k = true)
noncomputable def fval (ad : Nat → Nat → Nat) (h : MH) (ci n k : Nat) : Value :=
  if (fkO ci k).1 = 0 then .int (hI h (fkO ci k).2.1 n 0)
  else @ite _ (fset h ci n k) (Classical.propDecidable _) (if (fkO ci k).1 = 1 then .ref (ad (fkO ci k).2.1 n) else .ref (ad (fkO ci k).2.1 (fkO ci k).2.2)) .null
noncomputable def fsv (ad : Nat → Nat → Nat) (h : MH) (ci n : Nat) : List Value := (List.range (clN ci)).map (fval ad h ci n)
noncomputable def cel (dA : Nat → ClassId) (ad : Nat → Nat → Nat) (h : MH) (s n : Nat) : va_E :=
  if s < 1000000 then .inr (s - 900000, fsv ad h (s - 900000) n)
  else if tgS s = 3 then .inl (dA 3, lenOf s, .inr (.inl (hJ h s n)))
  else if tgS s < 3 then .inl (dA (tgS s), lenOf s, .inl (hI h s n))
  else .inl (dA (tgS s), lenOf s, .inr (.inr (.inr (.inr fun i => (hR h s n i).map (ad (tgtT (tgS s)))))))
def cok (h : MH) (s n : Nat) : Prop := n < hC h s ∧ (s < 1000000 → n < hD h s)
def vok (h : MH) : MV → Prop
  | .inr (.inr (.inl q)) => q.1 < 100 ∨ cok h q.1 q.2
  | .inr (.inr (.inr (.inl q))) => n_lt h q
  | _ => True
where n_lt (h : MH) (q : Nat × Nat) : Prop := q.2 < hC h q.1
/-- cells that are whole refer to cells that are; what is set refers to such -/
def Wf (h : MH) : Prop :=
  (∀ s, hD h s ≤ hC h s) ∧
  (∀ ci n k, k < clN ci → n < hC h (900000 + ci) → fset h ci n k → ((fkO ci k).1 = 1 → cok h (fkO ci k).2.1 n) ∧ ((fkO ci k).1 = 2 → cok h (fkO ci k).2.1 (fkO ci k).2.2)) ∧
  (∀ s n i m, 1000000 ≤ s → n < hC h s → hR h s n i = some m → cok h (tgtT (tgS s)) m) ∧
  (∀ s, 0 < hC h s → (∃ ci, ci < 13 ∧ s = 900000 + ci) ∨ (1000000 ≤ s ∧ tgS s < 6))
def Sim (D : va_G) (dA : Nat → ClassId) (ad : Nat → Nat → Nat) (h : MH) (H : Heap) (A : Nat → Prop) : Prop :=
  ∃ ws : va_W, va_P D clT ws H ∧ va_D A ws ∧ (∀ s n, n < hC h s → ∃ k : Nat, ws[k]? = some (ad s n, cel dA ad h s n)) ∧ (∀ s n t m, n < hC h s → m < hC h t → ad s n = ad t m → s = t ∧ n = m)
/-! the tables -/
theorem fk_table : ∀ ci, ci < 13 → ∀ k, k < clN ci → ((fkO ci k).1 = 0 → (fkO ci k).2.1 = 100 * (ci + 1) + k) ∧ ((fkO ci k).1 = 1 → 900000 ≤ (fkO ci k).2.1) ∧ ((fkO ci k).1 = 2 → 900000 ≤ (fkO ci k).2.1) ∧ (fkO ci k).1 < 3 := by decide +kernel
theorem clN_lt : ∀ ci, ci < 13 → clN ci < 100 ∧ 0 < clN ci := by decide +kernel
theorem clN_out {ci : Nat} (h : 13 ≤ ci) : clN ci = 0 := by
  unfold clN
  rw [List.getD_eq_getElem?_getD, List.getElem?_eq_none (by simpa using h)]
  rfl
/-! how the parts of a heap stand behind a change -/
theorem hI_sI (h : MH) (s n i : Nat) (v : Int32) (a b c : Nat) : hI (sI h s n i v) a b c = if a = s ∧ b = n ∧ c = i then v else hI h a b c := rfl
theorem hJ_sI (h : MH) (s n i : Nat) (v : Int32) : hJ (sI h s n i v) = hJ h := rfl
theorem hR_sI (h : MH) (s n i : Nat) (v : Int32) : hR (sI h s n i v) = hR h := rfl
theorem hC_sI (h : MH) (s n i : Nat) (v : Int32) : hC (sI h s n i v) = hC h := rfl
theorem hD_sI (h : MH) (s n i : Nat) (v : Int32) : hD (sI h s n i v) = hD h := rfl
theorem hZ_sI (h : MH) (s n i : Nat) (v : Int32) : hZ (sI h s n i v) = hZ h := rfl
theorem hc_sI (h : MH) (s n i : Nat) (v : Int32) : hc (sI h s n i v) = hc h := rfl
theorem hs_sI (h : MH) (s n i : Nat) (v : Int32) : hs (sI h s n i v) = hs h := rfl
theorem hI_sJ (h : MH) (s n i : Nat) (v : Int64) : hI (sJ h s n i v) = hI h := rfl
theorem hJ_sJ (h : MH) (s n i : Nat) (v : Int64) (a b c : Nat) : hJ (sJ h s n i v) a b c = if a = s ∧ b = n ∧ c = i then v else hJ h a b c := rfl
theorem hI_sR (h : MH) (s n i : Nat) (v : Option Nat) : hI (sR h s n i v) = hI h := rfl
theorem hR_sR (h : MH) (s n i : Nat) (v : Option Nat) (a b c : Nat) : hR (sR h s n i v) a b c = if a = s ∧ b = n ∧ c = i then v else hR h a b c := rfl
/-- two heaps that differ in their numbers alone -/
def sameS (h h' : MH) : Prop := h'.2.2.2 = h.2.2.2
theorem sameS.C {h h' : MH} (q : sameS h h') : hC h' = hC h := by unfold hC; rw [q]
theorem sameS.D {h h' : MH} (q : sameS h h') : hD h' = hD h := by unfold hD; rw [q]
theorem sameS.Z {h h' : MH} (q : sameS h h') : hZ h' = hZ h := by unfold hZ; rw [q]
theorem sameS.c {h h' : MH} (q : sameS h h') : hc h' = hc h := by unfold hc; rw [q]
theorem sameS.s {h h' : MH} (q : sameS h h') : hs h' = hs h := by unfold hs; rw [q]
theorem sameS.fs {h h' : MH} (q : sameS h h') {ci n k : Nat} : fset h' ci n k ↔ fset h ci n k := by
  unfold fset
  rw [q.C, q.D, q.Z]
theorem sameS.ck {h h' : MH} (q : sameS h h') {s n : Nat} (k : cok h s n) : cok h' s n := by
  obtain ⟨k1, k2⟩ := k
  exact ⟨by rw [q.C]; exact k1, fun z => by rw [q.D]; exact k2 z⟩
theorem sameS.vk {h h' : MH} (q : sameS h h') {v : MV} (k : vok h v) : vok h' v := by
  rcases v with x | x | x | x | x
  · trivial
  · trivial
  · rcases k with k | k
    · exact Or.inl k
    · exact Or.inr (q.ck k)
  · show x.2 < hC h' x.1
    rw [q.C]; exact k
  · trivial
theorem rv_ad {ad ad' : Nat → Nat → Nat} {h : MH} (ha : ∀ s n, (n < hC h s ∨ s < 100) → ad' s n = ad s n) {v : MV} (k : vok h v) : rv ad' v = rv ad v := by
  rcases v with x | x | x | x | x
  · rfl
  · rfl
  · show Value.ref (ad' x.1 x.2) = Value.ref (ad x.1 x.2)
    rcases k with k | k
    · rw [ha _ _ (Or.inr k)]
    · rw [ha _ _ (Or.inl k.1)]
  · show Value.ref (ad' x.1 x.2) = Value.ref (ad x.1 x.2)
    rw [ha _ _ (Or.inl k)]
  · rfl
theorem fval_ad {ad ad' : Nat → Nat → Nat} {h : MH} (hw : Wf h) (ha : ∀ s n, n < hC h s → ad' s n = ad s n) {ci n k : Nat} (hk : k < clN ci) (hn : n < hC h (900000 + ci)) : fval ad' h ci n k = fval ad h ci n k := by
  unfold fval
  split
  · rfl
  · split
    · rename_i q
      have w := hw.2.1 ci n k hk hn q
      split
      · rename_i z
        rw [ha _ _ (w.1 z).1]
      · rename_i z0 z1
        have z2 : (fkO ci k).1 = 2 := by
          have hci : ci < 13 := by
            rcases Nat.lt_or_ge ci 13 with z | z
            · exact z
            · rw [clN_out z] at hk; omega
          have := (fk_table ci hci k hk).2.2.2
          omega
        rw [ha _ _ (w.2 z2).1]
    · rfl
theorem cel_ad {dA : Nat → ClassId} {ad ad' : Nat → Nat → Nat} {h : MH} (hw : Wf h) (ha : ∀ s n, n < hC h s → ad' s n = ad s n) {s n : Nat} (hn : n < hC h s) : cel dA ad' h s n = cel dA ad h s n := by
  unfold cel
  split
  · rename_i hs
    have hs2 : 900000 + (s - 900000) = s := by
      rcases hw.2.2.2 s (by omega) with ⟨ci, h1, h2⟩ | ⟨h1, h2⟩ <;> omega
    have e : fsv ad' h (s - 900000) n = fsv ad h (s - 900000) n := by
      unfold fsv
      refine List.map_congr_left (fun k hk => ?_)
      exact fval_ad hw ha (List.mem_range.mp hk) (by rw [hs2]; exact hn)
    rw [e]
  · rename_i hlow
    split
    · rfl
    · split
      · rfl
      · congr 7
        funext i
        cases q : hR h s n i with
        | none => rfl
        | some m => simp [ha _ _ (hw.2.2.1 s n i m (by omega) hn q).1]
/-- a cell that a change of numbers leaves -/
theorem cel_keep {dA : Nat → ClassId} {ad : Nat → Nat → Nat} {h h' : MH} (q : sameS h h') {s n : Nat}
    (hI' : 1000000 ≤ s → hI h' s n = hI h s n) (hJ' : hJ h' s n = hJ h s n) (hR' : hR h' s n = hR h s n)
    (hk : ∀ k, s < 1000000 → k < clN (s - 900000) → (fkO (s - 900000) k).1 = 0 → hI h' (fkO (s - 900000) k).2.1 n 0 = hI h (fkO (s - 900000) k).2.1 n 0) : cel dA ad h' s n = cel dA ad h s n := by
  unfold cel
  split
  · rename_i hs
    have e : fsv ad h' (s - 900000) n = fsv ad h (s - 900000) n := by
      unfold fsv
      refine List.map_congr_left (fun k hk1 => ?_)
      unfold fval
      split
      · rename_i z
        rw [hk k hs (List.mem_range.mp hk1) z]
      · rw [show fset h' (s - 900000) n k = fset h (s - 900000) n k from propext q.fs]
    rw [e]
  · rename_i hs
    rw [hJ', hR', hI' (by omega)]
theorem Wf.same {h h' : MH} (q : sameS h h') (hr : hR h' = hR h) (w : Wf h) : Wf h' := by
  obtain ⟨w1, w2, w3, w4⟩ := w
  refine ⟨fun s => by rw [q.C, q.D]; exact w1 s, fun ci n k h1 h2 h3 => ?_, fun s n i m hb h1 h2 => ?_, fun s h1 => w4 s (by rw [q.C] at h1; exact h1)⟩
  · have := w2 ci n k h1 (by rw [q.C] at h2; exact h2) (q.fs.mp h3)
    exact ⟨fun z => q.ck (this.1 z), fun z => q.ck (this.2 z)⟩
  · rw [hr] at h2
    exact q.ck (w3 s n i m hb (by rw [q.C] at h1; exact h1) h2)
/-- one cell changed -/
theorem Sim.set {D : va_G} {dA : Nat → ClassId} {ad : Nat → Nat → Nat} {h h' : MH} {H' : Heap} {A : Nat → Prop} {ws : va_W} {k s n : Nat} {x : va_E} (q : sameS h h')
    (hws : ∀ s n, n < hC h s → ∃ k : Nat, ws[k]? = some (ad s n, cel dA ad h s n)) (hinj : ∀ s n t m, n < hC h s → m < hC h t → ad s n = ad t m → s = t ∧ n = m) (hD0 : va_D A ws)
    (hn : n < hC h s) (hk : ws[k]? = some (ad s n, cel dA ad h s n)) (hx : x = cel dA ad h' s n) (hne : ∀ t m, m < hC h t → ¬ (t = s ∧ m = n) → cel dA ad h' t m = cel dA ad h t m)
    (hP : va_P D clT (ws.set k (ad s n, x)) H') (hD : va_D A (ws.set k (ad s n, x))) : Sim D dA ad h' H' A := by
  refine ⟨_, hP, hD, fun t m hm => ?_, fun s n t m h1 h2 => hinj s n t m (by rw [q.C] at h1; exact h1) (by rw [q.C] at h2; exact h2)⟩
  rw [q.C] at hm
  by_cases hz : t = s ∧ m = n
  · obtain ⟨rfl, rfl⟩ := hz
    refine ⟨k, ?_⟩
    rw [List.getElem?_set_self (List.getElem?_eq_some_iff.mp hk).1, hx]
  · obtain ⟨k2, hk2⟩ := hws t m hm
    refine ⟨k2, ?_⟩
    have hne2 : k ≠ k2 := by
      intro e
      subst e
      rw [hk] at hk2
      have e1 : ad s n = ad t m := (Prod.mk.inj (Option.some.inj hk2)).1
      have := hinj s n t m hn hm e1
      exact hz ⟨this.1.symm, this.2.symm⟩
    rw [List.getElem?_set_ne hne2, hk2, hne t m hm hz]

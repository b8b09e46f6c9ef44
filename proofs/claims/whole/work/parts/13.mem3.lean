/-! FINAL FIELDS, NEW CELLS, COPIES, THE SCRIPT (printed by wip/whole/emitmem3.py) -/
def isRT : FieldType → Bool
  | .object _ => true
  | .array _ => true
  | _ => false
theorem isRT_fits {ty : FieldType} (h : isRT ty = true) (a : Nat) : narrow ty (.ref a) = .ref a ∧ fits ty (.ref a) = true ∧ defaultValue ty = .null := by
  cases ty <;> first | exact ⟨rfl, rfl, rfl⟩ | (simp [isRT] at h)
theorem hZ_setZ (h : MH) (s k a b : Nat) : hZ (setZ h s k) a b = if a = s ∧ b = k then true else hZ h a b := rfl
theorem hC_setZ (h : MH) (s k : Nat) : hC (setZ h s k) = hC h := rfl
theorem hD_setZ (h : MH) (s k : Nat) : hD (setZ h s k) = hD h := rfl
theorem fset_setZ {h : MH} {ci n k cj m j : Nat} (hn : n + 1 = hC h (900000 + ci)) (hne : ¬ (cj = ci ∧ m = n ∧ j = k)) : fset (setZ h (900000 + ci) k) cj m j ↔ fset h cj m j := by
  unfold fset
  rw [hZ_setZ]
  show m < hD h (900000 + cj) ∨ m + 1 = hC h (900000 + cj) ∧ _ ↔ _
  by_cases hz : 900000 + cj = 900000 + ci ∧ j = k
  · rw [if_pos hz]
    have e : cj = ci := by omega
    subst e
    have : ¬ (m + 1 = hC h (900000 + cj)) := fun q => hne ⟨rfl, by omega, hz.2⟩
    simp [this]
  · rw [if_neg hz]
theorem cok_setZ {h : MH} {s k t m : Nat} : cok (setZ h s k) t m ↔ cok h t m := Iff.rfl
theorem Wf_setZ {h : MH} {ci n k : Nat} (w : Wf h) (hn : n + 1 = hC h (900000 + ci)) (ht : ((fkO ci k).1 = 1 → cok h (fkO ci k).2.1 n) ∧ ((fkO ci k).1 = 2 → cok h (fkO ci k).2.1 (fkO ci k).2.2)) : Wf (setZ h (900000 + ci) k) := by
  obtain ⟨w1, w2, w3, w4⟩ := w
  refine ⟨w1, fun cj m j h1 h2 h3 => ?_, w3, w4⟩
  by_cases hz : cj = ci ∧ m = n ∧ j = k
  · obtain ⟨rfl, rfl, rfl⟩ := hz
    exact ht
  · exact w2 cj m j h1 h2 ((fset_setZ hn hz).mp h3)
theorem fval_setZ {ad : Nat → Nat → Nat} {h : MH} {ci n k cj m j : Nat} (hn : n + 1 = hC h (900000 + ci)) (hne : ¬ (cj = ci ∧ m = n ∧ j = k)) : fval ad (setZ h (900000 + ci) k) cj m j = fval ad h cj m j := by
  unfold fval
  rw [show fset (setZ h (900000 + ci) k) cj m j = fset h cj m j from propext (fset_setZ hn hne)]
  rfl
theorem cel_setZ {dA : Nat → ClassId} {ad : Nat → Nat → Nat} {h : MH} {ci n k t m : Nat} (w : Wf h) (hm : m < hC h t) (hn : n + 1 = hC h (900000 + ci)) (hne : ¬ (t = 900000 + ci ∧ m = n)) : cel dA ad (setZ h (900000 + ci) k) t m = cel dA ad h t m := by
  unfold cel
  split
  · rename_i hs
    have e : fsv ad (setZ h (900000 + ci) k) (t - 900000) m = fsv ad h (t - 900000) m := by
      unfold fsv
      refine List.map_congr_left (fun j _ => fval_setZ hn (fun z => hne ⟨?_, z.2.1⟩))
      rcases w.2.2.2 t (by omega) with ⟨cj, g1, g2⟩ | ⟨g1, g2⟩ <;> omega
    rw [e]
  · rfl
theorem vok_mono {h h' : MH} (h1 : ∀ t, hC h t ≤ hC h' t) (h2 : ∀ t, hD h t ≤ hD h' t) {v : MV} (k : vok h v) : vok h' v := by
  rcases v with x | x | x | x | x
  · trivial
  · trivial
  · rcases k with k | k
    · exact Or.inl k
    · exact Or.inr ⟨Nat.lt_of_lt_of_le k.1 (h1 _), fun z => Nat.lt_of_lt_of_le (k.2 z) (h2 _)⟩
  · exact Nat.lt_of_lt_of_le (show x.2 < hC h x.1 from k) (h1 _)
  · trivial
theorem oks_mono {h h' : MH} (h1 : ∀ t, hC h t ≤ hC h' t) (h2 : ∀ t, hD h t ≤ hD h' t) : ∀ {st : List MV}, oks h st → oks h' st
  | [], _ => trivial
  | _ :: _, k => ⟨vok_mono h1 h2 k.1, oks_mono h1 h2 k.2⟩
theorem oks_map {ad ad' : Nat → Nat → Nat} {h : MH} (ha : ∀ s n, (n < hC h s ∨ s < 100) → ad' s n = ad s n) : ∀ {st : List MV}, oks h st → st.map (rv ad') = st.map (rv ad)
  | [], _ => rfl
  | v :: r, k => by rw [List.map_cons, List.map_cons, rv_ad ha k.1, oks_map ha k.2]
def adP (ad : Nat → Nat → Nat) (s n q : Nat) : Nat → Nat → Nat := fun t m => if t = s ∧ m = n then q else ad t m
theorem adP_old {ad : Nat → Nat → Nat} {h : MH} {s q : Nat} (hs : 100 ≤ s) : ∀ t m, (m < hC h t ∨ t < 100) → adP ad s (hC h s) q t m = ad t m := by
  intro t m hm
  unfold adP
  rw [if_neg]
  rintro ⟨rfl, rfl⟩
  omega
/-- one cell more -/
theorem Sim.push {D : va_G} {dA : Nat → ClassId} {ad : Nat → Nat → Nat} {h h' : MH} {H1 : Heap} {A : Nat → Prop} {ws : va_W} {s qa : Nat} {x : va_E} (hs : 100 ≤ s)
    (hC' : ∀ t, hC h' t = if t = s then hC h t + 1 else hC h t)
    (hws : ∀ s n, n < hC h s → ∃ k : Nat, ws[k]? = some (ad s n, cel dA ad h s n)) (hinj : ∀ s n t m, n < hC h s → m < hC h t → ad s n = ad t m → s = t ∧ n = m)
    (hx : x = cel dA (adP ad s (hC h s) qa) h' s (hC h s)) (hold : ∀ t m, m < hC h t → cel dA (adP ad s (hC h s) qa) h' t m = cel dA ad h t m)
    (hP : va_P D clT (ws ++ [(qa, x)]) H1) (hD : va_D A (ws ++ [(qa, x)])) : Sim D dA (adP ad s (hC h s) qa) h' H1 A := by
  have new : (ws ++ [(qa, x)])[ws.length]? = some (qa, x) := by simp
  have cas : ∀ t m, m < hC h' t → (t = s ∧ m = hC h s) ∨ m < hC h t := by
    intro t m hm
    rw [hC'] at hm
    split at hm
    · rename_i z
      subst z
      rcases Nat.lt_or_ge m (hC h t) with q | q
      · exact Or.inr q
      · exact Or.inl ⟨rfl, by omega⟩
    · exact Or.inr hm
  have old : ∀ t m, m < hC h t → ∃ k : Nat, k < ws.length ∧ (ws ++ [(qa, x)])[k]? = some (ad t m, cel dA ad h t m) := by
    intro t m hm
    obtain ⟨k, hk⟩ := hws t m hm
    have hl := (List.getElem?_eq_some_iff.mp hk).1
    exact ⟨k, hl, by rw [List.getElem?_append_left hl]; exact hk⟩
  have adn : adP ad s (hC h s) qa s (hC h s) = qa := if_pos ⟨rfl, rfl⟩
  have ado : ∀ t m, m < hC h t → adP ad s (hC h s) qa t m = ad t m := fun t m hm => adP_old hs t m (Or.inl hm)
  have neq : ∀ t m, m < hC h t → ad t m ≠ qa := by
    intro t m hm e
    obtain ⟨k, hl, hk⟩ := old t m hm
    have := hD.1 k ws.length _ _ hk new e
    omega
  refine ⟨_, hP, hD, fun t m hm => ?_, fun t m u v h1 h2 e => ?_⟩
  · rcases cas t m hm with ⟨rfl, rfl⟩ | hm
    · exact ⟨ws.length, by rw [new, adn, hx]⟩
    · obtain ⟨k, hl, hk⟩ := old t m hm
      exact ⟨k, by rw [hk, ado t m hm, hold t m hm]⟩
  · rcases cas t m h1 with ⟨rfl, rfl⟩ | h1
    · rcases cas u v h2 with ⟨rfl, rfl⟩ | h2
      · exact ⟨rfl, rfl⟩
      · rw [adn, ado u v h2] at e
        exact absurd e.symm (neq u v h2)
    · rcases cas u v h2 with ⟨rfl, rfl⟩ | h2
      · rw [adn, ado t m h1] at e
        exact absurd e (neq t m h1)
      · rw [ado t m h1, ado u v h2] at e
        exact hinj t m u v h1 h2 e
theorem St.push {s : State} {nL : Nat} {D : va_G} {dA : Nat → ClassId} {base : Nat} {ad0 : Nat → Nat → Nat} {h0 : MH} {lo : List (Option MV)} {st st' : List MV} {h h' : MH} {H H1 : Heap} {locs : List Loc} {cells slots : Nat} {ad : Nat → Nat → Nat} {ls : Array Slot} {sx qa N : Nat} (S : St s nL D dA base ad0 h0 lo st h H locs cells slots ad ls) (hsx : 100 ≤ sx)
    (hC' : ∀ t, hC h' t = if t = sx then hC h t + 1 else hC h t) (hD' : hD h' = hD h) (hc' : hc h' = hc h + 1) (hs' : hs h' = hs h + N) (hw' : Wf h')
    (hsim : Sim D dA (adP ad sx (hC h sx) qa) h' H1 (fun q => base ≤ q)) (hS1 : va_S (fun q => base ≤ q) s.heap H1 locs) (hst : oks h' st') : St s nL D dA base ad0 h0 lo st' h' H1 locs (cells + 1) (slots + N) (adP ad sx (hC h sx) qa) ls := by
  have mono : ∀ t, hC h t ≤ hC h' t := fun t => by rw [hC']; split <;> omega
  refine ⟨hsim, hw', hS1, ⟨S.2.2.2.1.1, S.2.2.2.1.2.1, fun i v hv => ?_⟩, hst, fun i v hv => vok_mono mono (fun t => by rw [hD']; exact Nat.le_refl _) (S.2.2.2.2.2.1 i v hv), ⟨by have := S.2.2.2.2.2.2.1.1; omega, by have := S.2.2.2.2.2.2.1.2; omega⟩, fun t n hn => ?_, fun t => Nat.le_trans (S.2.2.2.2.2.2.2.2 t) (mono t)⟩
  · rw [rv_ad (adP_old hsx) (S.2.2.2.2.2.1 i v hv)]
    exact S.2.2.2.1.2.2 i v hv
  · rw [adP_old hsx t n (by
      rcases hn with hn | hn
      · exact Or.inl (Nat.lt_of_lt_of_le hn (S.2.2.2.2.2.2.2.2 t))
      · exact Or.inr hn)]
    exact S.2.2.2.2.2.2.2.1 t n hn
/-! new objects -/
theorem hI_newO (h : MH) (s w N a b c : Nat) : hI (newO h s w N) a b c = if w ≤ a ∧ a < w + 100 ∧ b = hC h s then 0 else hI h a b c := rfl
theorem hC_newO (h : MH) (s w N : Nat) : ∀ t, hC (newO h s w N) t = if t = s then hC h t + 1 else hC h t := fun _ => rfl
theorem hZ_newO (h : MH) (s w N a k : Nat) : hZ (newO h s w N) a k = if a = s then false else hZ h a k := rfl
theorem fset_newO {h : MH} {ci w N cj m k : Nat} (hDC : hD h (900000 + ci) = hC h (900000 + ci)) (hm : ¬ (cj = ci ∧ hC h (900000 + ci) ≤ m)) : fset (newO h (900000 + ci) w N) cj m k ↔ fset h cj m k := by
  unfold fset
  rw [hC_newO, hZ_newO]
  show m < hD h (900000 + cj) ∨ _ ↔ _
  by_cases hz : 900000 + cj = 900000 + ci
  · have e : cj = ci := by omega
    subst e
    rw [if_pos rfl, if_pos rfl]
    have h1 : m < hD h (900000 + cj) := by
      rw [hDC]
      rcases Nat.lt_or_ge m (hC h (900000 + cj)) with q | q
      · exact q
      · exact absurd ⟨rfl, q⟩ hm
    simp [h1]
  · rw [if_neg hz, if_neg hz]
theorem fset_newO_new {h : MH} {ci w N k : Nat} (hDC : hD h (900000 + ci) = hC h (900000 + ci)) : ¬ fset (newO h (900000 + ci) w N) ci (hC h (900000 + ci)) k := by
  unfold fset
  rw [hZ_newO]
  show ¬ (hC h (900000 + ci) < hD h (900000 + ci) ∨ _)
  rw [hDC]
  simp
theorem cok_mono {h h' : MH} (h1 : ∀ t, hC h t ≤ hC h' t) (h2 : ∀ t, hD h t ≤ hD h' t) {s n : Nat} (k : cok h s n) : cok h' s n := ⟨Nat.lt_of_lt_of_le k.1 (h1 _), fun z => Nat.lt_of_lt_of_le (k.2 z) (h2 _)⟩
theorem newO_mono (h : MH) (s w N : Nat) : ∀ t, hC h t ≤ hC (newO h s w N) t := fun t => by rw [hC_newO]; split <;> omega
theorem Wf_newO {h : MH} {ci w N : Nat} (hci : ci < 13) (hDC : hD h (900000 + ci) = hC h (900000 + ci)) (w0 : Wf h) : Wf (newO h (900000 + ci) w N) := by
  obtain ⟨w1, w2, w3, w4⟩ := w0
  have mono := newO_mono h (900000 + ci) w N
  refine ⟨fun t => Nat.le_trans (w1 t) (mono t), fun cj m k h1 h2 h3 => ?_, fun t m i u hb h1 h2 => ?_, fun t h1 => ?_⟩
  · by_cases hz : cj = ci ∧ hC h (900000 + ci) ≤ m
    · obtain ⟨rfl, hz⟩ := hz
      rw [hC_newO, if_pos rfl] at h2
      have e : m = hC h (900000 + cj) := by omega
      subst e
      exact absurd h3 (fset_newO_new hDC)
    · have h3 := (fset_newO hDC hz).mp h3
      have h2' : m < hC h (900000 + cj) := by
        rw [hC_newO] at h2
        split at h2
        · have e : cj = ci := by omega
          subst e
          rcases Nat.lt_or_ge m (hC h (900000 + cj)) with q | q
          · exact q
          · exact absurd ⟨rfl, q⟩ hz
        · exact h2
      have := w2 cj m k h1 h2' h3
      exact ⟨fun z => cok_mono mono (fun _ => Nat.le_refl _) (this.1 z), fun z => cok_mono mono (fun _ => Nat.le_refl _) (this.2 z)⟩
  · rw [hC_newO, if_neg (by omega)] at h1
    exact cok_mono mono (fun _ => Nat.le_refl _) (w3 t m i u hb h1 h2)
  · rw [hC_newO] at h1
    split at h1
    · rename_i z
      exact Or.inl ⟨ci, hci, z⟩
    · exact w4 t h1
theorem cel_newO {dA : Nat → ClassId} {ad : Nat → Nat → Nat} {h : MH} {ci N t m : Nat} (hci : ci < 13) (hDC : hD h (900000 + ci) = hC h (900000 + ci)) (w0 : Wf h) (hm : m < hC h t) : cel dA ad (newO h (900000 + ci) (100 * (ci + 1)) N) t m = cel dA ad h t m := by
  unfold cel
  split
  · rename_i hs
    obtain ⟨cj, g1, g2⟩ : ∃ cj, cj < 13 ∧ t = 900000 + cj := by
      rcases w0.2.2.2 t (by omega) with q | ⟨q1, q2⟩
      · exact q
      · omega
    have e0 : t - 900000 = cj := by omega
    rw [e0]
    have e : fsv ad (newO h (900000 + ci) (100 * (ci + 1)) N) cj m = fsv ad h cj m := by
      unfold fsv
      refine List.map_congr_left (fun k hk => ?_)
      have hk := List.mem_range.mp hk
      unfold fval
      split
      · rename_i z
        rw [hI_newO, if_neg]
        intro q
        have := (fk_table cj g1 k hk).1 z
        have := (clN_lt cj g1).1
        have e : cj = ci := by omega
        subst e
        rw [g2] at hm
        omega
      · rw [show fset (newO h (900000 + ci) (100 * (ci + 1)) N) cj m k = fset h cj m k from propext (fset_newO hDC (fun q => by obtain ⟨rfl, q⟩ := q; rw [g2] at hm; omega))]
    rw [e]
  · rename_i hs
    have e : hI (newO h (900000 + ci) (100 * (ci + 1)) N) t m = hI h t m := by
      funext j
      rw [hI_newO, if_neg (by omega)]
    rw [e]
    rfl
/-- of the class tables: which fields are numbers, which references -/
theorem ty_table {ci : Nat} {C : String} {T : u_T} {N : Nat} (hc : clT[ci]? = some (C, T, N)) : ∀ k, k < N → ∃ ty, parseFieldDescriptor (T k).2.2.1 = some ty ∧ (if (fkO ci k).1 = 0 then ty = .int else isRT ty = true) := by
  match ci, hc with
  | 0, hc => cases hc; exact fun k hk => ⟨tyX0 k, tyX0_ok k hk, by revert k; decide +kernel⟩
  | 1, hc => cases hc; exact fun k hk => ⟨tyX1 k, tyX1_ok k hk, by revert k; decide +kernel⟩
  | 2, hc => cases hc; exact fun k hk => ⟨tyX2 k, tyX2_ok k hk, by revert k; decide +kernel⟩
  | 3, hc => cases hc; exact fun k hk => ⟨tyX3 k, tyX3_ok k hk, by revert k; decide +kernel⟩
  | 4, hc => cases hc; exact fun k hk => ⟨tyX4 k, tyX4_ok k hk, by revert k; decide +kernel⟩
  | 5, hc => cases hc; exact fun k hk => ⟨tyX5 k, tyX5_ok k hk, by revert k; decide +kernel⟩
  | 6, hc => cases hc; exact fun k hk => ⟨tyX6 k, tyX6_ok k hk, by revert k; decide +kernel⟩
  | 7, hc => cases hc; exact fun k hk => ⟨tyX7 k, tyX7_ok k hk, by revert k; decide +kernel⟩
  | 8, hc => cases hc; exact fun k hk => ⟨tyX8 k, tyX8_ok k hk, by revert k; decide +kernel⟩
  | 9, hc => cases hc; exact fun k hk => ⟨tyX9 k, tyX9_ok k hk, by revert k; decide +kernel⟩
  | 10, hc => cases hc; exact fun k hk => ⟨tyX10 k, tyX10_ok k hk, by revert k; decide +kernel⟩
  | 11, hc => cases hc; exact fun k hk => ⟨tyX11 k, tyX11_ok k hk, by revert k; decide +kernel⟩
  | 12, hc => cases hc; exact fun k hk => ⟨tyX12 k, tyX12_ok k hk, by revert k; decide +kernel⟩
  | ci + 13, hc => simp [clT] at hc
theorem s_new {p : Program} {l : Launch} {e : Env} {R : Room} {s : State} {m : MethodId} {args : Array Value} {below : List Frame} {meth : Method} {c : Code} {Q : State → Prop} {cc : ByteArray} {nL : Nat} {own : String} {Ts : List Cond} {D : va_G} {dA : Nat → ClassId} {base : Nat} {ad0 : Nat → Nat → Nat} {h0 : MH} (F : Fix p s m args c cc nL own Ts D dA base ad0) {pc : Nat} {lo : List (Option MV)} {r : List MV} {h : MH} {ix ci : Nat} {C : String} {T : u_T} {N : Nat} (hd : decode cc pc = .ok (.new ix, 3)) (hcl : clT[ci]? = some (C, T, N)) (hl : Cond.classLink own ix C ∈ lwG) (hDC : hD h (900000 + ci) = hC h (900000 + ci)) (hroom : hc h + 1 ≤ hc h0 + R.cells ∧ hs h + N ≤ hs h0 + R.slots) (k2 : AtW p l e R s m args below meth c Q nL D dA base ad0 h0 (pc + 3) (lo) (vU (900000 + ci) (hC h (900000 + ci)) :: r) (newO h (900000 + ci) (100 * (ci + 1)) N)) : AtW p l e R s m args below meth c Q nL D dA base ad0 h0 (pc) (lo) (r) (h) := by
  intro H locs cells slots ad ls S
  have hci := clT_lt hcl
  obtain ⟨⟨hin, ⟨ty0, hty0⟩, hnm, hins, hini⟩, hN⟩ := clT_ok hcl
  obtain ⟨ws, hP, hD1, hws, hinj⟩ := S.1
  have cnt := S.2.2.2.2.2.2.1
  have hfs : ∀ j, j < N → defaultValue (ty0 j) = vp_V ((List.range N).map fun k => if (fkO ci k).1 = 0 then Value.int 0 else .null) j := by
    intro j hj
    obtain ⟨ty, h1, h2⟩ := ty_table hcl j hj
    have e1 : ty0 j = ty := Option.some.inj ((hty0 j hj).symm.trans h1)
    rw [e1]
    have e2 : vp_V ((List.range N).map fun k => if (fkO ci k).1 = 0 then Value.int 0 else .null) j = if (fkO ci j).1 = 0 then Value.int 0 else .null := by
      unfold vp_V
      rw [List.getD_eq_getElem?_getD, List.getElem?_map, List.getElem?_range hj]
      rfl
    rw [e2]
    split
    · rename_i z
      rw [if_pos z] at h2
      rw [h2]
      rfl
    · rename_i z
      rw [if_neg z] at h2
      exact (isRT_fits h2 0).2.2
  refine va_new F.1 F.2.1 (own := own) (C := C) (T := T) (N := N) F.2.2.2.2.1 (fun w hw => F.2.2.2.2.2.1 w (hin w hw)) ty0 hty0 F.2.2.2.1 (F.2.2.2.2.1 _ (F.2.2.2.2.2.1 _ hl)) (F.2.2.2.2.1 _ (F.2.2.2.2.2.1 _ hins)) (F.2.2.2.2.1 _ (F.2.2.2.2.2.1 _ hini)) F.2.2.2.2.2.2.1 hP hD1 S.2.2.1 (fun q hq => Nat.le_trans F.2.2.2.2.2.2.2.1 hq) hcl hfs (by omega) (by omega) hd (fun qa H1 hP1 hD2 hS1 => ?_)
  have mono := newO_mono h (900000 + ci) (100 * (ci + 1)) N
  have hw' := Wf_newO (w := 100 * (ci + 1)) (N := N) hci hDC S.2.1
  have hold : ∀ t m, m < hC h t → cel dA (adP ad (900000 + ci) (hC h (900000 + ci)) qa) (newO h (900000 + ci) (100 * (ci + 1)) N) t m = cel dA ad h t m := by
    intro t m hm
    rw [cel_newO hci hDC S.2.1 hm, cel_ad S.2.1 (fun t m hm => adP_old (by omega) t m (Or.inl hm)) hm]
  have hsim : Sim D dA (adP ad (900000 + ci) (hC h (900000 + ci)) qa) (newO h (900000 + ci) (100 * (ci + 1)) N) H1 (fun q => base ≤ q) := by
    refine Sim.push (by omega) (hC_newO h _ _ _) hws hinj ?_ hold hP1 hD2
    rw [cel_obj hci]
    congr 2
    unfold fsv
    rw [hN]
    refine List.map_congr_left (fun k hk => ?_)
    unfold fval
    split
    · rename_i z
      rw [hI_newO, if_pos]
      have := (fk_table ci hci k (by rw [hN]; exact List.mem_range.mp hk)).1 z
      have := (clN_lt ci hci).1
      have := List.mem_range.mp hk
      omega
    · rw [if_neg (fset_newO_new hDC)]
  have e1 : Value.ref qa :: r.map (rv ad) = (vU (900000 + ci) (hC h (900000 + ci)) :: r).map (rv (adP ad (900000 + ci) (hC h (900000 + ci)) qa)) := by
    rw [List.map_cons, oks_map (adP_old (by omega)) S.ok]
    show _ = Value.ref (adP ad (900000 + ci) (hC h (900000 + ci)) qa (900000 + ci) (hC h (900000 + ci))) :: _
    unfold adP
    rw [if_pos ⟨rfl, rfl⟩]
  rw [e1]
  exact k2 H1 locs (cells + 1) (slots + N) _ ls (S.push (by omega) (hC_newO h _ _ _) rfl rfl rfl hw' hsim hS1 ⟨by show hC h (900000 + ci) < hC (newO h (900000 + ci) (100 * (ci + 1)) N) (900000 + ci); rw [hC_newO, if_pos rfl]; omega, oks_mono mono (fun _ => Nat.le_refl _) S.ok⟩)
theorem s_putF {p : Program} {l : Launch} {e : Env} {R : Room} {s : State} {m : MethodId} {args : Array Value} {below : List Frame} {meth : Method} {c : Code} {Q : State → Prop} {cc : ByteArray} {nL : Nat} {own : String} {Ts : List Cond} {D : va_G} {dA : Nat → ClassId} {base : Nat} {ad0 : Nat → Nat → Nat} {h0 : MH} (F : Fix p s m args c cc nL own Ts D dA base ad0) {pc : Nat} {lo : List (Option MV)} {r : List MV} {h : MH} {n u : Nat} {ix ci k : Nat} {C : String} {T : u_T} {N : Nat} (hd : decode cc pc = .ok (.putfield ix, 3)) (hf : fldOk own ix ci k C T N) (hown : C = own) (hmn : meth.name = "<init>") (hfn : (T k).2.2.2 = true) (hn1 : n + 1 = hC h (900000 + ci)) (h0k : ((fkO ci k).1 = 1 ∧ u = n) ∨ ((fkO ci k).1 = 2 ∧ u = (fkO ci k).2.2)) (k2 : AtW p l e R s m args below meth c Q nL D dA base ad0 h0 (pc + 3) (lo) (r) (setZ h (900000 + ci) k)) : AtW p l e R s m args below meth c Q nL D dA base ad0 h0 (pc) (lo) (vR (fkO ci k).2.1 u :: vU (900000 + ci) n :: r) (h) := by
  intro H locs cells slots ad ls S
  obtain ⟨hc, hk, hT, hl⟩ := hf
  have hci := clT_lt hc
  have hN : clN ci = N := (clT_ok hc).2
  have hn : n < hC h (900000 + ci) := S.ok.2.1
  obtain ⟨ws, hP, hD, hws, hinj⟩ := S.1
  obtain ⟨q, hq⟩ := hws (900000 + ci) n hn
  have hq0 := hq
  rw [cel_obj hci] at hq
  obtain ⟨⟨hin, ⟨ty0, hty0⟩, hnm, -⟩, -⟩ := clT_ok hc
  obtain ⟨ty, hty, hrt⟩ := ty_table hc k hk
  rw [if_neg (by omega)] at hrt
  have hcu : cok h (fkO ci k).2.1 u := by
    rcases S.ok.1 with z | z
    · have z : (fkO ci k).2.1 < 100 := z
      have := fk_table ci hci k (hN ▸ hk)
      rcases h0k with w | w
      · have := this.2.1 w.1; omega
      · have := this.2.2.1 w.1; omega
    · exact z
  refine va_putF F.1 F.2.1 (own := own) (C := C) (T := T) (N := N) (ref := C) F.2.2.2.2.1 (fun w hw => F.2.2.2.2.2.1 w (hin w hw)) ty0 hty0 hnm F.2.2.2.1 F.2.2.2.2.2.2.1 hP hD S.2.2.1 q hq hc k hk (F.2.2.2.2.1 _ (F.2.2.2.2.2.1 _ hl)) (fun x hx => by rw [← hT]; exact hx) hfn hmn (hT.trans hown) hty (isRT_fits hrt _).1 (isRT_fits hrt _).2.1 (by rw [fsv_len, hN]; exact hk) hd (fun H1 locs1 hP1 hD1 hS1 => ?_)
  refine k2 H1 locs1 cells slots ad ls ⟨Sim.setC (h' := setZ h (900000 + ci) k) (hC_setZ ..) hws hinj hn hq0 ?_ (fun t m hm hne => cel_setZ S.2.1 hm hn1 hne) hP1 hD1, Wf_setZ S.2.1 hn1 ⟨fun z => ?_, fun z => ?_⟩, hS1, S.2.2.2.1, oks_mono (fun _ => by rw [hC_setZ]; exact Nat.le_refl _) (fun _ => by rw [hD_setZ]; exact Nat.le_refl _) S.ok.2.2, fun i v hv => vok_mono (fun _ => by rw [hC_setZ]; exact Nat.le_refl _) (fun _ => by rw [hD_setZ]; exact Nat.le_refl _) (S.2.2.2.2.2.1 i v hv), S.2.2.2.2.2.2⟩
  · rw [cel_obj hci]
    refine congrArg (fun z => Sum.inr (ci, z)) (fsv_set (hN ▸ hk) ?_ (fun j hj hne => fval_setZ hn1 (fun z => hne z.2.2)))
    unfold fval
    have hst : fset (setZ h (900000 + ci) k) ci n k := Or.inr ⟨hn1, by rw [hZ_setZ, if_pos ⟨rfl, rfl⟩]⟩
    rw [if_neg (by omega), if_pos hst]
    rcases h0k with ⟨w1, w2⟩ | ⟨w1, w2⟩
    · rw [if_pos w1, w2]
      rfl
    · rw [if_neg (by omega), w2]
      rfl
  · rcases h0k with ⟨w1, w2⟩ | ⟨w1, w2⟩
    · rw [← w2]; exact hcu
    · omega
  · rcases h0k with ⟨w1, w2⟩ | ⟨w1, w2⟩
    · omega
    · rw [← w2]; exact hcu
theorem hI_newA (h : MH) (s N a b c : Nat) : hI (newA h s N) a b c = if a = s ∧ b = hC h s then 0 else hI h a b c := rfl
theorem hJ_newA (h : MH) (s N a b c : Nat) : hJ (newA h s N) a b c = if a = s ∧ b = hC h s then 0 else hJ h a b c := rfl
theorem hR_newA (h : MH) (s N a b c : Nat) : hR (newA h s N) a b c = if a = s ∧ b = hC h s then none else hR h a b c := rfl
theorem hC_newA (h : MH) (s N : Nat) : ∀ t, hC (newA h s N) t = if t = s then hC h t + 1 else hC h t := fun _ => rfl
theorem newA_mono (h : MH) (s N : Nat) : ∀ t, hC h t ≤ hC (newA h s N) t := fun t => by rw [hC_newA]; split <;> omega
theorem fset_newA {h : MH} {s N cj m k : Nat} (hs : 1000000 ≤ s) (hcj : cj < 13) : fset (newA h s N) cj m k ↔ fset h cj m k := by
  unfold fset
  rw [hC_newA, if_neg (by omega)]
  exact Iff.rfl
theorem Wf_newA {h : MH} {s N : Nat} (hs : 1000000 ≤ s) (ht : tgS s < 6) (w0 : Wf h) : Wf (newA h s N) := by
  obtain ⟨w1, w2, w3, w4⟩ := w0
  have mono := newA_mono h s N
  refine ⟨fun t => Nat.le_trans (w1 t) (mono t), fun cj m k h1 h2 h3 => ?_, fun t m i u hb h1 h2 => ?_, fun t h1 => ?_⟩
  · have hcj : cj < 13 := by
      rcases Nat.lt_or_ge cj 13 with z | z
      · exact z
      · rw [clN_out z] at h1; omega
    rw [hC_newA, if_neg (by omega)] at h2
    have := w2 cj m k h1 h2 ((fset_newA hs hcj).mp h3)
    exact ⟨fun z => cok_mono mono (fun _ => Nat.le_refl _) (this.1 z), fun z => cok_mono mono (fun _ => Nat.le_refl _) (this.2 z)⟩
  · rw [hR_newA] at h2
    split at h2
    · cases h2
    · rename_i z
      refine cok_mono mono (fun _ => Nat.le_refl _) (w3 t m i u hb ?_ h2)
      rw [hC_newA] at h1
      split at h1
      · rename_i e
        subst e
        rcases Nat.lt_or_ge m (hC h t) with q | q
        · exact q
        · exact absurd ⟨rfl, by omega⟩ z
      · exact h1
  · rw [hC_newA] at h1
    split at h1
    · rename_i z
      rw [z]
      exact Or.inr ⟨hs, ht⟩
    · exact w4 t h1
theorem cel_newA {dA : Nat → ClassId} {ad : Nat → Nat → Nat} {h : MH} {s N t m : Nat} (hs : 1000000 ≤ s) (w0 : Wf h) (hm : m < hC h t) : cel dA ad (newA h s N) t m = cel dA ad h t m := by
  unfold cel
  split
  · rename_i hl
    obtain ⟨cj, g1, g2⟩ : ∃ cj, cj < 13 ∧ t = 900000 + cj := by
      rcases w0.2.2.2 t (by omega) with q | ⟨q1, q2⟩
      · exact q
      · omega
    have e0 : t - 900000 = cj := by omega
    rw [e0]
    have e : fsv ad (newA h s N) cj m = fsv ad h cj m := by
      unfold fsv
      refine List.map_congr_left (fun k hk => ?_)
      have hk := List.mem_range.mp hk
      unfold fval
      split
      · rename_i z
        rw [hI_newA, if_neg]
        intro q
        have := (fk_table cj g1 k hk).1 z
        have := (clN_lt cj g1).1
        omega
      · rw [show fset (newA h s N) cj m k = fset h cj m k from propext (fset_newA hs g1)]
    rw [e]
  · have ne : ¬ (t = s ∧ m = hC h s) := by
      rintro ⟨rfl, rfl⟩
      omega
    have e1 : hI (newA h s N) t m = hI h t m := by funext j; rw [hI_newA, if_neg ne]
    have e2 : hJ (newA h s N) t m = hJ h t m := by funext j; rw [hJ_newA, if_neg ne]
    have e3 : hR (newA h s N) t m = hR h t m := by funext j; rw [hR_newA, if_neg ne]
    rw [e1, e2, e3]
theorem K_class {D : va_G} {cl : List vw_C} {tys : List (ClassId × FieldType)} {U : State} {cA cB : ClassId} {ty : FieldType} {t : Nat} (hK : va_K D cl (tys ++ [(cA, ty)]) U) (ht : tys[t]? = some (cB, ty)) : cA = cB := by
  have h1 := (hK.2 tys.length (cA, ty) (by simp)).2
  have h2 := (hK.2 t (cB, ty) (by rw [List.getElem?_append_left (List.getElem?_eq_some_iff.mp ht).1]; exact ht)).2
  unfold va_RA at h1 h2
  cases ty with
  | object C =>
    obtain ⟨_, _, _, _, _, a1⟩ := h1
    obtain ⟨_, _, _, _, _, a2⟩ := h2
    exact Option.some.inj (a1.symm.trans a2)
  | _ => exact Option.some.inj (h1.symm.trans h2)
theorem ac_int : Cond.arrayClass FieldType.int ∈ lwG := lwG_of 175 (by decide +kernel) (by decide +kernel)
theorem ac_byte : Cond.arrayClass FieldType.byte ∈ lwG := lwG_of 839 (by decide +kernel) (by decide +kernel)
theorem ac_boolean : Cond.arrayClass FieldType.boolean ∈ lwG := lwG_of 1792 (by decide +kernel) (by decide +kernel)
theorem ac_long : Cond.arrayClass FieldType.long ∈ lwG := lwG_of 426 (by decide +kernel) (by decide +kernel)
theorem s_newI {p : Program} {l : Launch} {e : Env} {R : Room} {s : State} {m : MethodId} {args : Array Value} {below : List Frame} {meth : Method} {c : Code} {Q : State → Prop} {cc : ByteArray} {nL : Nat} {own : String} {Ts : List Cond} {D : va_G} {dA : Nat → ClassId} {base : Nat} {ad0 : Nat → Nat → Nat} {h0 : MH} (F : Fix p s m args c cc nL own Ts D dA base ad0) {pc : Nat} {lo : List (Option MV)} {r : List MV} {h : MH} {sx : Nat} {x : Int32} (hd : decode cc pc = .ok (.newarray .int, 2)) (hr : isRow sx 0 = true) (hx : x = Int32.ofNat (lenOf sx)) (hroom : hc h + 1 ≤ hc h0 + R.cells ∧ hs h + lenOf sx ≤ hs h0 + R.slots) (k2 : AtW p l e R s m args below meth c Q nL D dA base ad0 h0 (pc + 2) (lo) (vR sx (hC h sx) :: r) (newA h sx (lenOf sx))) : AtW p l e R s m args below meth c Q nL D dA base ad0 h0 (pc) (lo) (vI x :: r) (h) := by
  intro H locs cells slots ad ls S
  have hs := (isRow_tg hr).1
  have hl : lenOf sx < 100000 := Nat.mod_lt _ (by decide)
  obtain ⟨ws, hP, hD1, hws, hinj⟩ := S.1
  have cnt := S.2.2.2.2.2.2.1
  subst hx
  have hx1 : ¬ Int32.ofNat (lenOf sx) < 0 := nI_pos (by omega)
  have hx2 : (Int32.ofNat (lenOf sx)).toNatClampNeg = lenOf sx := nI_clamp (by omega)
  have hby : lenOf sx * componentBytes FieldType.int ≤ 536870912 := Nat.le_trans (Nat.mul_le_mul_left _ (show componentBytes FieldType.int ≤ 8 by decide)) (by omega)
  refine va_newa F.1 F.2.1 (atype := .int) (ty := .int) (F.2.2.2.2.1 _ (F.2.2.2.2.2.1 _ ac_int)) rfl F.2.2.2.2.2.2.1 hP hD1 S.2.2.1 (fun q hq => Nat.le_trans F.2.2.2.2.2.2.2.1 hq) (a0 := (lenOf sx, .inl (fun _ => 0))) (fun cA => rfl) hx1 hx2 hby (by omega) (by omega) hd (fun qa cA H1 hK1 hP1 hD2 hS1 => ?_)
  have ecA : cA = dA 0 := K_class hK1 (t := 0) rfl
  subst ecA
  have hw' := Wf_newA (N := lenOf sx) hs (by rw [(isRow_tg hr).2]; decide) S.2.1
  have hsim : Sim D dA (adP ad sx (hC h sx) qa) (newA h sx (lenOf sx)) H1 (fun q => base ≤ q) := by
    refine Sim.push (by omega) (hC_newA h _ _) hws hinj ?_ (fun t m hm => by rw [cel_newA hs S.2.1 hm, cel_ad S.2.1 (fun t m hm => adP_old (by omega) t m (Or.inl hm)) hm]) hP1 hD2
    rw [cel_row hr (by decide)]
    have e0 : hI (newA h sx (lenOf sx)) sx (hC h sx) = fun _ => 0 := by
      funext j
      rw [hI_newA, if_pos ⟨rfl, rfl⟩]
    rw [e0]
  have e1 : Value.ref qa :: r.map (rv ad) = (vR sx (hC h sx) :: r).map (rv (adP ad sx (hC h sx) qa)) := by
    rw [List.map_cons, oks_map (adP_old (by omega)) S.ok.2]
    show _ = Value.ref (adP ad sx (hC h sx) qa sx (hC h sx)) :: _
    unfold adP
    rw [if_pos ⟨rfl, rfl⟩]
  rw [e1]
  exact k2 H1 locs (cells + 1) (slots + lenOf sx) _ ls (S.push (by omega) (hC_newA h _ _) rfl rfl rfl hw' hsim hS1 ⟨Or.inr ⟨by show hC h sx < hC (newA h sx (lenOf sx)) sx; rw [hC_newA, if_pos rfl]; omega, fun z => absurd (show sx < 1000000 from z) (by omega)⟩, oks_mono (newA_mono h _ _) (fun _ => Nat.le_refl _) S.ok.2⟩)
theorem s_newB {p : Program} {l : Launch} {e : Env} {R : Room} {s : State} {m : MethodId} {args : Array Value} {below : List Frame} {meth : Method} {c : Code} {Q : State → Prop} {cc : ByteArray} {nL : Nat} {own : String} {Ts : List Cond} {D : va_G} {dA : Nat → ClassId} {base : Nat} {ad0 : Nat → Nat → Nat} {h0 : MH} (F : Fix p s m args c cc nL own Ts D dA base ad0) {pc : Nat} {lo : List (Option MV)} {r : List MV} {h : MH} {sx : Nat} {x : Int32} (hd : decode cc pc = .ok (.newarray .byte, 2)) (hr : isRow sx 1 = true) (hx : x = Int32.ofNat (lenOf sx)) (hroom : hc h + 1 ≤ hc h0 + R.cells ∧ hs h + lenOf sx ≤ hs h0 + R.slots) (k2 : AtW p l e R s m args below meth c Q nL D dA base ad0 h0 (pc + 2) (lo) (vR sx (hC h sx) :: r) (newA h sx (lenOf sx))) : AtW p l e R s m args below meth c Q nL D dA base ad0 h0 (pc) (lo) (vI x :: r) (h) := by
  intro H locs cells slots ad ls S
  have hs := (isRow_tg hr).1
  have hl : lenOf sx < 100000 := Nat.mod_lt _ (by decide)
  obtain ⟨ws, hP, hD1, hws, hinj⟩ := S.1
  have cnt := S.2.2.2.2.2.2.1
  subst hx
  have hx1 : ¬ Int32.ofNat (lenOf sx) < 0 := nI_pos (by omega)
  have hx2 : (Int32.ofNat (lenOf sx)).toNatClampNeg = lenOf sx := nI_clamp (by omega)
  have hby : lenOf sx * componentBytes FieldType.byte ≤ 536870912 := Nat.le_trans (Nat.mul_le_mul_left _ (show componentBytes FieldType.byte ≤ 8 by decide)) (by omega)
  refine va_newa F.1 F.2.1 (atype := .byte) (ty := .byte) (F.2.2.2.2.1 _ (F.2.2.2.2.2.1 _ ac_byte)) rfl F.2.2.2.2.2.2.1 hP hD1 S.2.2.1 (fun q hq => Nat.le_trans F.2.2.2.2.2.2.2.1 hq) (a0 := (lenOf sx, .inl (fun _ => 0))) (fun cA => rfl) hx1 hx2 hby (by omega) (by omega) hd (fun qa cA H1 hK1 hP1 hD2 hS1 => ?_)
  have ecA : cA = dA 1 := K_class hK1 (t := 1) rfl
  subst ecA
  have hw' := Wf_newA (N := lenOf sx) hs (by rw [(isRow_tg hr).2]; decide) S.2.1
  have hsim : Sim D dA (adP ad sx (hC h sx) qa) (newA h sx (lenOf sx)) H1 (fun q => base ≤ q) := by
    refine Sim.push (by omega) (hC_newA h _ _) hws hinj ?_ (fun t m hm => by rw [cel_newA hs S.2.1 hm, cel_ad S.2.1 (fun t m hm => adP_old (by omega) t m (Or.inl hm)) hm]) hP1 hD2
    rw [cel_row hr (by decide)]
    have e0 : hI (newA h sx (lenOf sx)) sx (hC h sx) = fun _ => 0 := by
      funext j
      rw [hI_newA, if_pos ⟨rfl, rfl⟩]
    rw [e0]
  have e1 : Value.ref qa :: r.map (rv ad) = (vR sx (hC h sx) :: r).map (rv (adP ad sx (hC h sx) qa)) := by
    rw [List.map_cons, oks_map (adP_old (by omega)) S.ok.2]
    show _ = Value.ref (adP ad sx (hC h sx) qa sx (hC h sx)) :: _
    unfold adP
    rw [if_pos ⟨rfl, rfl⟩]
  rw [e1]
  exact k2 H1 locs (cells + 1) (slots + lenOf sx) _ ls (S.push (by omega) (hC_newA h _ _) rfl rfl rfl hw' hsim hS1 ⟨Or.inr ⟨by show hC h sx < hC (newA h sx (lenOf sx)) sx; rw [hC_newA, if_pos rfl]; omega, fun z => absurd (show sx < 1000000 from z) (by omega)⟩, oks_mono (newA_mono h _ _) (fun _ => Nat.le_refl _) S.ok.2⟩)
theorem s_newZ {p : Program} {l : Launch} {e : Env} {R : Room} {s : State} {m : MethodId} {args : Array Value} {below : List Frame} {meth : Method} {c : Code} {Q : State → Prop} {cc : ByteArray} {nL : Nat} {own : String} {Ts : List Cond} {D : va_G} {dA : Nat → ClassId} {base : Nat} {ad0 : Nat → Nat → Nat} {h0 : MH} (F : Fix p s m args c cc nL own Ts D dA base ad0) {pc : Nat} {lo : List (Option MV)} {r : List MV} {h : MH} {sx : Nat} {x : Int32} (hd : decode cc pc = .ok (.newarray .boolean, 2)) (hr : isRow sx 2 = true) (hx : x = Int32.ofNat (lenOf sx)) (hroom : hc h + 1 ≤ hc h0 + R.cells ∧ hs h + lenOf sx ≤ hs h0 + R.slots) (k2 : AtW p l e R s m args below meth c Q nL D dA base ad0 h0 (pc + 2) (lo) (vR sx (hC h sx) :: r) (newA h sx (lenOf sx))) : AtW p l e R s m args below meth c Q nL D dA base ad0 h0 (pc) (lo) (vI x :: r) (h) := by
  intro H locs cells slots ad ls S
  have hs := (isRow_tg hr).1
  have hl : lenOf sx < 100000 := Nat.mod_lt _ (by decide)
  obtain ⟨ws, hP, hD1, hws, hinj⟩ := S.1
  have cnt := S.2.2.2.2.2.2.1
  subst hx
  have hx1 : ¬ Int32.ofNat (lenOf sx) < 0 := nI_pos (by omega)
  have hx2 : (Int32.ofNat (lenOf sx)).toNatClampNeg = lenOf sx := nI_clamp (by omega)
  have hby : lenOf sx * componentBytes FieldType.boolean ≤ 536870912 := Nat.le_trans (Nat.mul_le_mul_left _ (show componentBytes FieldType.boolean ≤ 8 by decide)) (by omega)
  refine va_newa F.1 F.2.1 (atype := .boolean) (ty := .boolean) (F.2.2.2.2.1 _ (F.2.2.2.2.2.1 _ ac_boolean)) rfl F.2.2.2.2.2.2.1 hP hD1 S.2.2.1 (fun q hq => Nat.le_trans F.2.2.2.2.2.2.2.1 hq) (a0 := (lenOf sx, .inl (fun _ => 0))) (fun cA => rfl) hx1 hx2 hby (by omega) (by omega) hd (fun qa cA H1 hK1 hP1 hD2 hS1 => ?_)
  have ecA : cA = dA 2 := K_class hK1 (t := 2) rfl
  subst ecA
  have hw' := Wf_newA (N := lenOf sx) hs (by rw [(isRow_tg hr).2]; decide) S.2.1
  have hsim : Sim D dA (adP ad sx (hC h sx) qa) (newA h sx (lenOf sx)) H1 (fun q => base ≤ q) := by
    refine Sim.push (by omega) (hC_newA h _ _) hws hinj ?_ (fun t m hm => by rw [cel_newA hs S.2.1 hm, cel_ad S.2.1 (fun t m hm => adP_old (by omega) t m (Or.inl hm)) hm]) hP1 hD2
    rw [cel_row hr (by decide)]
    have e0 : hI (newA h sx (lenOf sx)) sx (hC h sx) = fun _ => 0 := by
      funext j
      rw [hI_newA, if_pos ⟨rfl, rfl⟩]
    rw [e0]
  have e1 : Value.ref qa :: r.map (rv ad) = (vR sx (hC h sx) :: r).map (rv (adP ad sx (hC h sx) qa)) := by
    rw [List.map_cons, oks_map (adP_old (by omega)) S.ok.2]
    show _ = Value.ref (adP ad sx (hC h sx) qa sx (hC h sx)) :: _
    unfold adP
    rw [if_pos ⟨rfl, rfl⟩]
  rw [e1]
  exact k2 H1 locs (cells + 1) (slots + lenOf sx) _ ls (S.push (by omega) (hC_newA h _ _) rfl rfl rfl hw' hsim hS1 ⟨Or.inr ⟨by show hC h sx < hC (newA h sx (lenOf sx)) sx; rw [hC_newA, if_pos rfl]; omega, fun z => absurd (show sx < 1000000 from z) (by omega)⟩, oks_mono (newA_mono h _ _) (fun _ => Nat.le_refl _) S.ok.2⟩)
theorem s_newJ {p : Program} {l : Launch} {e : Env} {R : Room} {s : State} {m : MethodId} {args : Array Value} {below : List Frame} {meth : Method} {c : Code} {Q : State → Prop} {cc : ByteArray} {nL : Nat} {own : String} {Ts : List Cond} {D : va_G} {dA : Nat → ClassId} {base : Nat} {ad0 : Nat → Nat → Nat} {h0 : MH} (F : Fix p s m args c cc nL own Ts D dA base ad0) {pc : Nat} {lo : List (Option MV)} {r : List MV} {h : MH} {sx : Nat} {x : Int32} (hd : decode cc pc = .ok (.newarray .long, 2)) (hr : isRow sx 3 = true) (hx : x = Int32.ofNat (lenOf sx)) (hroom : hc h + 1 ≤ hc h0 + R.cells ∧ hs h + lenOf sx ≤ hs h0 + R.slots) (k2 : AtW p l e R s m args below meth c Q nL D dA base ad0 h0 (pc + 2) (lo) (vR sx (hC h sx) :: r) (newA h sx (lenOf sx))) : AtW p l e R s m args below meth c Q nL D dA base ad0 h0 (pc) (lo) (vI x :: r) (h) := by
  intro H locs cells slots ad ls S
  have hs := (isRow_tg hr).1
  have hl : lenOf sx < 100000 := Nat.mod_lt _ (by decide)
  obtain ⟨ws, hP, hD1, hws, hinj⟩ := S.1
  have cnt := S.2.2.2.2.2.2.1
  subst hx
  have hx1 : ¬ Int32.ofNat (lenOf sx) < 0 := nI_pos (by omega)
  have hx2 : (Int32.ofNat (lenOf sx)).toNatClampNeg = lenOf sx := nI_clamp (by omega)
  have hby : lenOf sx * componentBytes FieldType.long ≤ 536870912 := Nat.le_trans (Nat.mul_le_mul_left _ (show componentBytes FieldType.long ≤ 8 by decide)) (by omega)
  refine va_newa F.1 F.2.1 (atype := .long) (ty := .long) (F.2.2.2.2.1 _ (F.2.2.2.2.2.1 _ ac_long)) rfl F.2.2.2.2.2.2.1 hP hD1 S.2.2.1 (fun q hq => Nat.le_trans F.2.2.2.2.2.2.2.1 hq) (a0 := (lenOf sx, .inr (.inl (fun _ => 0)))) (fun cA => rfl) hx1 hx2 hby (by omega) (by omega) hd (fun qa cA H1 hK1 hP1 hD2 hS1 => ?_)
  have ecA : cA = dA 3 := K_class hK1 (t := 3) rfl
  subst ecA
  have hw' := Wf_newA (N := lenOf sx) hs (by rw [(isRow_tg hr).2]; decide) S.2.1
  have hsim : Sim D dA (adP ad sx (hC h sx) qa) (newA h sx (lenOf sx)) H1 (fun q => base ≤ q) := by
    refine Sim.push (by omega) (hC_newA h _ _) hws hinj ?_ (fun t m hm => by rw [cel_newA hs S.2.1 hm, cel_ad S.2.1 (fun t m hm => adP_old (by omega) t m (Or.inl hm)) hm]) hP1 hD2
    rw [cel_rowJ hr]
    have e0 : hJ (newA h sx (lenOf sx)) sx (hC h sx) = fun _ => 0 := by
      funext j
      rw [hJ_newA, if_pos ⟨rfl, rfl⟩]
    rw [e0]
  have e1 : Value.ref qa :: r.map (rv ad) = (vR sx (hC h sx) :: r).map (rv (adP ad sx (hC h sx) qa)) := by
    rw [List.map_cons, oks_map (adP_old (by omega)) S.ok.2]
    show _ = Value.ref (adP ad sx (hC h sx) qa sx (hC h sx)) :: _
    unfold adP
    rw [if_pos ⟨rfl, rfl⟩]
  rw [e1]
  exact k2 H1 locs (cells + 1) (slots + lenOf sx) _ ls (S.push (by omega) (hC_newA h _ _) rfl rfl rfl hw' hsim hS1 ⟨Or.inr ⟨by show hC h sx < hC (newA h sx (lenOf sx)) sx; rw [hC_newA, if_pos rfl]; omega, fun z => absurd (show sx < 1000000 from z) (by omega)⟩, oks_mono (newA_mono h _ _) (fun _ => Nat.le_refl _) S.ok.2⟩)

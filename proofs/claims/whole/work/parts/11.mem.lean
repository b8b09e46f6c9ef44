/-! INSTRUCTIONS OVER THE HEAP (printed by wip/whole/emitmem.py) -/
theorem vR_live {h : MH} {s n : Nat} (k : vok h (vR s n)) (hs : 100 ≤ s) : n < hC h s := by
  rcases k with z | z
  · exact absurd z (Nat.not_lt.mpr hs)
  · exact z.1
theorem cel_obj {dA : Nat → ClassId} {ad : Nat → Nat → Nat} {h : MH} {ci n : Nat} (hci : ci < 13) : cel dA ad h (900000 + ci) n = .inr (ci, fsv ad h ci n) := by
  unfold cel
  rw [if_pos (by omega), show 900000 + ci - 900000 = ci by omega]
theorem isRow_tg {s t : Nat} (h : isRow s t = true) : 1000000 ≤ s ∧ tgS s = t := by
  unfold isRow at h
  rw [Bool.and_eq_true] at h
  exact ⟨Nat.le_of_ble_eq_true h.2, Nat.eq_of_beq_eq_true h.1⟩
theorem cel_row {dA : Nat → ClassId} {ad : Nat → Nat → Nat} {h : MH} {s t n : Nat} (hr : isRow s t = true) (ht : t < 3) : cel dA ad h s n = .inl (dA t, lenOf s, .inl (hI h s n)) := by
  obtain ⟨h1, h2⟩ := isRow_tg hr
  unfold cel
  rw [if_neg (by omega), if_neg (by omega), if_pos (by omega), h2]
theorem cel_rowJ {dA : Nat → ClassId} {ad : Nat → Nat → Nat} {h : MH} {s n : Nat} (hr : isRow s 3 = true) : cel dA ad h s n = .inl (dA 3, lenOf s, .inr (.inl (hJ h s n))) := by
  obtain ⟨h1, h2⟩ := isRow_tg hr
  unfold cel
  rw [if_neg (by omega), if_pos (by omega)]
theorem cel_rowR {dA : Nat → ClassId} {ad : Nat → Nat → Nat} {h : MH} {s t n : Nat} (hr : isRow s t = true) (ht : 3 < t) : cel dA ad h s n = .inl (dA t, lenOf s, .inr (.inr (.inr (.inr fun i => (hR h s n i).map (ad (tgtT t)))))) := by
  obtain ⟨h1, h2⟩ := isRow_tg hr
  unfold cel
  rw [if_neg (by omega), if_neg (by omega), if_neg (by omega), h2]
theorem fsv_get {ad : Nat → Nat → Nat} {h : MH} {ci n k : Nat} (hk : k < clN ci) : (fsv ad h ci n)[k]? = some (fval ad h ci n k) := by
  unfold fsv
  rw [List.getElem?_map, List.getElem?_range hk]
  rfl
theorem fsv_len {ad : Nat → Nat → Nat} {h : MH} {ci n : Nat} : (fsv ad h ci n).length = clN ci := by
  unfold fsv
  rw [List.length_map, List.length_range]
theorem fsv_set {ad : Nat → Nat → Nat} {h h' : MH} {ci n k : Nat} {v : Value} (hk : k < clN ci) (h1 : fval ad h' ci n k = v) (h2 : ∀ j, j < clN ci → j ≠ k → fval ad h' ci n j = fval ad h ci n j) : (fsv ad h ci n).set k v = fsv ad h' ci n := by
  apply List.ext_getElem?
  intro j
  by_cases hj : j = k
  · subst hj
    rw [List.getElem?_set_self (by rw [fsv_len]; exact hk), fsv_get hk, h1]
  · rw [List.getElem?_set_ne (fun q => hj q.symm)]
    by_cases hl : j < clN ci
    · rw [fsv_get hl, fsv_get hl, h2 j hl hj]
    · rw [List.getElem?_eq_none (by rw [fsv_len]; omega), List.getElem?_eq_none (by rw [fsv_len]; omega)]
theorem sameS_sI (h : MH) (s n i : Nat) (v : Int32) : sameS h (sI h s n i v) := rfl
theorem sameS_sJ (h : MH) (s n i : Nat) (v : Int64) : sameS h (sJ h s n i v) := rfl
theorem cel_sIrow {dA : Nat → ClassId} {ad : Nat → Nat → Nat} {h : MH} {s n i t m : Nat} {x : Int32} (hs : 1000000 ≤ s) (hw : Wf h) (hm : m < hC h t) (hne : ¬ (t = s ∧ m = n)) : cel dA ad (sI h s n i x) t m = cel dA ad h t m := by
  refine cel_keep (sameS_sI ..) (fun _ => ?_) rfl rfl (fun k h1 h2 h3 => ?_)
  · funext j
    rw [hI_sI, if_neg (fun q => hne ⟨q.1, q.2.1⟩)]
  · rw [hI_sI, if_neg]
    intro q
    rcases hw.2.2.2 t (by omega) with ⟨ci, g1, g2⟩ | ⟨g1, g2⟩
    · have e : t - 900000 = ci := by omega
      rw [e] at h2 h3 q
      have := (fk_table ci g1 k h2).1 h3
      have := (clN_lt ci g1).1
      omega
    · omega
theorem cel_sIkey {dA : Nat → ClassId} {ad : Nat → Nat → Nat} {h : MH} {ci k n t m : Nat} {x : Int32} (hci : ci < 13) (hk : k < clN ci) (hw : Wf h) (hm : m < hC h t) (hne : ¬ (t = 900000 + ci ∧ m = n)) : cel dA ad (sI h (100 * (ci + 1) + k) n 0 x) t m = cel dA ad h t m := by
  have hN := (clN_lt ci hci).1
  refine cel_keep (sameS_sI ..) (fun hl => ?_) rfl rfl (fun j h1 h2 h3 => ?_)
  · funext j
    rw [hI_sI, if_neg (fun q => by omega)]
  · rw [hI_sI, if_neg]
    intro q
    rcases hw.2.2.2 t (by omega) with ⟨cj, g1, g2⟩ | ⟨g1, g2⟩
    · have e : t - 900000 = cj := by omega
      rw [e] at h2 h3 q
      have := (fk_table cj g1 j h2).1 h3
      have := (clN_lt cj g1).1
      exact hne ⟨by omega, q.2.1⟩
    · omega
theorem fval_sIkey {ad : Nat → Nat → Nat} {h : MH} {ci k n : Nat} {x : Int32} (hci : ci < 13) (hk : k < clN ci) (hf : (fkO ci k).1 = 0) : (fsv ad h ci n).set k (.int x) = fsv ad (sI h (100 * (ci + 1) + k) n 0 x) ci n := by
  refine fsv_set hk ?_ (fun j hj hne => ?_)
  · unfold fval
    rw [if_pos hf, hI_sI, if_pos ⟨(fk_table ci hci k hk).1 hf, rfl, rfl⟩]
  · unfold fval
    split
    · rename_i z
      rw [hI_sI, if_neg]
      intro q
      have := (fk_table ci hci j hj).1 z
      omega
    · rw [show fset (sI h (100 * (ci + 1) + k) n 0 x) ci n j = fset h ci n j from propext (sameS_sI ..).fs]
/-- the class's part of what a field's instruction needs -/
def fldOk (own : String) (ix ci k : Nat) (C : String) (T : u_T) (N : Nat) : Prop := clT[ci]? = some (C, T, N) ∧ k < N ∧ (T k).1 = C ∧ Cond.fieldLink own ix C (T k).2.1 (T k).2.2.1 ∈ lwG
theorem clT_lt {ci : Nat} {q : vw_C} (h : clT[ci]? = some q) : ci < 13 := (List.getElem?_eq_some_iff.mp h).1

theorem s_getI {p : Program} {l : Launch} {e : Env} {R : Room} {s : State} {m : MethodId} {args : Array Value} {below : List Frame} {meth : Method} {c : Code} {Q : State → Prop} {cc : ByteArray} {nL : Nat} {own : String} {Ts : List Cond} {D : va_G} {dA : Nat → ClassId} {base : Nat} {ad0 : Nat → Nat → Nat} {h0 : MH} (F : Fix p s m args c cc nL own Ts D dA base ad0) {pc : Nat} {lo : List (Option MV)} {r : List MV} {h : MH} {n : Nat} {ix ci k : Nat} {C : String} {T : u_T} {N : Nat} (hd : decode cc pc = .ok (.getfield ix, 3)) (hf : fldOk own ix ci k C T N) (h0k : (fkO ci k).1 = 0) (k2 : AtW p l e R s m args below meth c Q nL D dA base ad0 h0 (pc + 3) (lo) (vI (hI h (100 * (ci + 1) + k) n 0) :: r) (h)) : AtW p l e R s m args below meth c Q nL D dA base ad0 h0 (pc) (lo) (vR (900000 + ci) n :: r) (h) := by
  intro H locs cells slots ad ls S
  obtain ⟨hc, hk, hT, hl⟩ := hf
  have hci := clT_lt hc
  have hN : clN ci = N := (clT_ok hc).2
  obtain ⟨ws, hP, hD, hws, hinj⟩ := S.1
  obtain ⟨q, hq⟩ := hws (900000 + ci) n (vR_live S.ok.1 (by omega))
  rw [cel_obj hci] at hq
  refine va_get F.1 F.2.1 (own := own) (C := C) (T := T) (N := N) (ref := C) F.2.2.2.2.1 (fun w hw => F.2.2.2.2.2.1 w ((clT_ok hc).1.1 w hw)) F.2.2.2.1 F.2.2.2.2.2.2.1 hP q hq hc k hk (F.2.2.2.2.1 _ (F.2.2.2.2.2.1 _ hl)) (fun x hx => by rw [← hT]; exact hx) (fsv_get (hN ▸ hk)) hd ?_
  have e : fval ad h ci n k = rv ad (vI (hI h (100 * (ci + 1) + k) n 0)) := by
    unfold fval
    rw [if_pos h0k, (fk_table ci hci k (hN ▸ hk)).1 h0k]
    rfl
  rw [e]
  exact k2 H locs cells slots ad ls (S.stk ⟨trivial, S.ok.2⟩)
theorem s_getR1 {p : Program} {l : Launch} {e : Env} {R : Room} {s : State} {m : MethodId} {args : Array Value} {below : List Frame} {meth : Method} {c : Code} {Q : State → Prop} {cc : ByteArray} {nL : Nat} {own : String} {Ts : List Cond} {D : va_G} {dA : Nat → ClassId} {base : Nat} {ad0 : Nat → Nat → Nat} {h0 : MH} (F : Fix p s m args c cc nL own Ts D dA base ad0) {pc : Nat} {lo : List (Option MV)} {r : List MV} {h : MH} {n : Nat} {ix ci k : Nat} {C : String} {T : u_T} {N : Nat} (hd : decode cc pc = .ok (.getfield ix, 3)) (hf : fldOk own ix ci k C T N) (h0k : (fkO ci k).1 = 1) (k2 : AtW p l e R s m args below meth c Q nL D dA base ad0 h0 (pc + 3) (lo) (vR (fkO ci k).2.1 n :: r) (h)) : AtW p l e R s m args below meth c Q nL D dA base ad0 h0 (pc) (lo) (vR (900000 + ci) n :: r) (h) := by
  intro H locs cells slots ad ls S
  have hck : cok h (900000 + ci) n := by
    rcases S.ok.1 with z | z
    · exact absurd z (by show ¬ (900000 + ci < 100); omega)
    · exact z
  obtain ⟨hc, hk, hT, hl⟩ := hf
  have hci := clT_lt hc
  have hN : clN ci = N := (clT_ok hc).2
  obtain ⟨ws, hP, hD, hws, hinj⟩ := S.1
  obtain ⟨q, hq⟩ := hws (900000 + ci) n hck.1
  rw [cel_obj hci] at hq
  refine va_get F.1 F.2.1 (own := own) (C := C) (T := T) (N := N) (ref := C) F.2.2.2.2.1 (fun w hw => F.2.2.2.2.2.1 w ((clT_ok hc).1.1 w hw)) F.2.2.2.1 F.2.2.2.2.2.2.1 hP q hq hc k hk (F.2.2.2.2.1 _ (F.2.2.2.2.2.1 _ hl)) (fun x hx => by rw [← hT]; exact hx) (fsv_get (hN ▸ hk)) hd ?_
  have hst : fset h ci n k := Or.inl (hck.2 (by omega))
  have e : fval ad h ci n k = rv ad (vR (fkO ci k).2.1 n) := by
    unfold fval
    rw [if_neg (by omega), if_pos hst, if_pos h0k]
    rfl
  rw [e]
  exact k2 H locs cells slots ad ls (S.stk ⟨Or.inr ((S.2.1.2.1 ci n k (hN ▸ hk) hck.1 hst).1 h0k), S.ok.2⟩)
theorem s_getR2 {p : Program} {l : Launch} {e : Env} {R : Room} {s : State} {m : MethodId} {args : Array Value} {below : List Frame} {meth : Method} {c : Code} {Q : State → Prop} {cc : ByteArray} {nL : Nat} {own : String} {Ts : List Cond} {D : va_G} {dA : Nat → ClassId} {base : Nat} {ad0 : Nat → Nat → Nat} {h0 : MH} (F : Fix p s m args c cc nL own Ts D dA base ad0) {pc : Nat} {lo : List (Option MV)} {r : List MV} {h : MH} {n : Nat} {ix ci k : Nat} {C : String} {T : u_T} {N : Nat} (hd : decode cc pc = .ok (.getfield ix, 3)) (hf : fldOk own ix ci k C T N) (h0k : (fkO ci k).1 = 2) (k2 : AtW p l e R s m args below meth c Q nL D dA base ad0 h0 (pc + 3) (lo) (vR (fkO ci k).2.1 (fkO ci k).2.2 :: r) (h)) : AtW p l e R s m args below meth c Q nL D dA base ad0 h0 (pc) (lo) (vR (900000 + ci) n :: r) (h) := by
  intro H locs cells slots ad ls S
  have hck : cok h (900000 + ci) n := by
    rcases S.ok.1 with z | z
    · exact absurd z (by show ¬ (900000 + ci < 100); omega)
    · exact z
  obtain ⟨hc, hk, hT, hl⟩ := hf
  have hci := clT_lt hc
  have hN : clN ci = N := (clT_ok hc).2
  obtain ⟨ws, hP, hD, hws, hinj⟩ := S.1
  obtain ⟨q, hq⟩ := hws (900000 + ci) n hck.1
  rw [cel_obj hci] at hq
  refine va_get F.1 F.2.1 (own := own) (C := C) (T := T) (N := N) (ref := C) F.2.2.2.2.1 (fun w hw => F.2.2.2.2.2.1 w ((clT_ok hc).1.1 w hw)) F.2.2.2.1 F.2.2.2.2.2.2.1 hP q hq hc k hk (F.2.2.2.2.1 _ (F.2.2.2.2.2.1 _ hl)) (fun x hx => by rw [← hT]; exact hx) (fsv_get (hN ▸ hk)) hd ?_
  have hst : fset h ci n k := Or.inl (hck.2 (by omega))
  have e : fval ad h ci n k = rv ad (vR (fkO ci k).2.1 (fkO ci k).2.2) := by
    unfold fval
    rw [if_neg (by omega), if_pos hst, if_neg (by omega)]
    rfl
  rw [e]
  exact k2 H locs cells slots ad ls (S.stk ⟨Or.inr ((S.2.1.2.1 ci n k (hN ▸ hk) hck.1 hst).2 h0k), S.ok.2⟩)
theorem s_getU {p : Program} {l : Launch} {e : Env} {R : Room} {s : State} {m : MethodId} {args : Array Value} {below : List Frame} {meth : Method} {c : Code} {Q : State → Prop} {cc : ByteArray} {nL : Nat} {own : String} {Ts : List Cond} {D : va_G} {dA : Nat → ClassId} {base : Nat} {ad0 : Nat → Nat → Nat} {h0 : MH} (F : Fix p s m args c cc nL own Ts D dA base ad0) {pc : Nat} {lo : List (Option MV)} {r : List MV} {h : MH} {n : Nat} {ix ci k : Nat} {C : String} {T : u_T} {N : Nat} (hd : decode cc pc = .ok (.getfield ix, 3)) (hf : fldOk own ix ci k C T N) (h0k : (fkO ci k).1 = 1) (hz : hZ h (900000 + ci) k = true ∧ n + 1 = hC h (900000 + ci)) (k2 : AtW p l e R s m args below meth c Q nL D dA base ad0 h0 (pc + 3) (lo) (vR (fkO ci k).2.1 n :: r) (h)) : AtW p l e R s m args below meth c Q nL D dA base ad0 h0 (pc) (lo) (vU (900000 + ci) n :: r) (h) := by
  intro H locs cells slots ad ls S
  obtain ⟨hc, hk, hT, hl⟩ := hf
  have hci := clT_lt hc
  have hN : clN ci = N := (clT_ok hc).2
  obtain ⟨ws, hP, hD, hws, hinj⟩ := S.1
  obtain ⟨q, hq⟩ := hws (900000 + ci) n S.ok.1
  rw [cel_obj hci] at hq
  refine va_get F.1 F.2.1 (own := own) (C := C) (T := T) (N := N) (ref := C) F.2.2.2.2.1 (fun w hw => F.2.2.2.2.2.1 w ((clT_ok hc).1.1 w hw)) F.2.2.2.1 F.2.2.2.2.2.2.1 hP q hq hc k hk (F.2.2.2.2.1 _ (F.2.2.2.2.2.1 _ hl)) (fun x hx => by rw [← hT]; exact hx) (fsv_get (hN ▸ hk)) hd ?_
  have hst : fset h ci n k := Or.inr ⟨hz.2, hz.1⟩
  have e : fval ad h ci n k = rv ad (vR (fkO ci k).2.1 n) := by
    unfold fval
    rw [if_neg (by omega), if_pos hst, if_pos h0k]
    rfl
  rw [e]
  exact k2 H locs cells slots ad ls (S.stk ⟨Or.inr ((S.2.1.2.1 ci n k (hN ▸ hk) S.ok.1 hst).1 h0k), S.ok.2⟩)
theorem s_putIR {p : Program} {l : Launch} {e : Env} {R : Room} {s : State} {m : MethodId} {args : Array Value} {below : List Frame} {meth : Method} {c : Code} {Q : State → Prop} {cc : ByteArray} {nL : Nat} {own : String} {Ts : List Cond} {D : va_G} {dA : Nat → ClassId} {base : Nat} {ad0 : Nat → Nat → Nat} {h0 : MH} (F : Fix p s m args c cc nL own Ts D dA base ad0) {pc : Nat} {lo : List (Option MV)} {r : List MV} {h : MH} {n : Nat} {ix ci k : Nat} {C : String} {T : u_T} {N : Nat} {x : Int32} (hd : decode cc pc = .ok (.putfield ix, 3)) (hf : fldOk own ix ci k C T N) (h0k : (fkO ci k).1 = 0) (hty : parseFieldDescriptor (T k).2.2.1 = some .int) (hfn : (T k).2.2.2 = false) (k2 : AtW p l e R s m args below meth c Q nL D dA base ad0 h0 (pc + 3) (lo) (r) (sI h (100 * (ci + 1) + k) n 0 x)) : AtW p l e R s m args below meth c Q nL D dA base ad0 h0 (pc) (lo) (vI x :: vR (900000 + ci) n :: r) (h) := by
  intro H locs cells slots ad ls S
  obtain ⟨hc, hk, hT, hl⟩ := hf
  have hci := clT_lt hc
  have hN : clN ci = N := (clT_ok hc).2
  have hn : n < hC h (900000 + ci) := (vR_live S.ok.2.1 (by omega))
  obtain ⟨ws, hP, hD, hws, hinj⟩ := S.1
  obtain ⟨q, hq⟩ := hws (900000 + ci) n hn
  have hq0 := hq
  rw [cel_obj hci] at hq
  obtain ⟨⟨hin, ⟨ty0, hty0⟩, hnm, -⟩, -⟩ := clT_ok hc
  refine va_put F.1 F.2.1 (own := own) (C := C) (T := T) (N := N) (ref := C) F.2.2.2.2.1 (fun w hw => F.2.2.2.2.2.1 w (hin w hw)) ty0 hty0 hnm F.2.2.2.1 F.2.2.2.2.2.2.1 hP hD S.2.2.1 q hq hc k hk (F.2.2.2.2.1 _ (F.2.2.2.2.2.1 _ hl)) (fun x hx => by rw [← hT]; exact hx) hfn hty rfl rfl (by rw [fsv_len, hN]; exact hk) hd (fun H1 locs1 hP1 hD1 hS1 => ?_)
  refine k2 H1 locs1 cells slots ad ls ⟨Sim.set (sameS_sI ..) hws hinj hD hn hq0 ?_ (fun t m hm hne => cel_sIkey hci (hN ▸ hk) S.2.1 hm hne) hP1 hD1, S.2.1.same (sameS_sI ..) rfl, hS1, S.2.2.2.1, (sameS_sI ..).oks S.ok.2.2, fun i u hu => (sameS_sI ..).vk (S.2.2.2.2.2.1 i u hu), S.2.2.2.2.2.2⟩
  rw [cel_obj hci, ← fval_sIkey hci (hN ▸ hk) h0k]
  rfl
theorem s_putIU {p : Program} {l : Launch} {e : Env} {R : Room} {s : State} {m : MethodId} {args : Array Value} {below : List Frame} {meth : Method} {c : Code} {Q : State → Prop} {cc : ByteArray} {nL : Nat} {own : String} {Ts : List Cond} {D : va_G} {dA : Nat → ClassId} {base : Nat} {ad0 : Nat → Nat → Nat} {h0 : MH} (F : Fix p s m args c cc nL own Ts D dA base ad0) {pc : Nat} {lo : List (Option MV)} {r : List MV} {h : MH} {n : Nat} {ix ci k : Nat} {C : String} {T : u_T} {N : Nat} {x : Int32} (hd : decode cc pc = .ok (.putfield ix, 3)) (hf : fldOk own ix ci k C T N) (h0k : (fkO ci k).1 = 0) (hty : parseFieldDescriptor (T k).2.2.1 = some .int) (hfn : (T k).2.2.2 = false) (k2 : AtW p l e R s m args below meth c Q nL D dA base ad0 h0 (pc + 3) (lo) (r) (sI h (100 * (ci + 1) + k) n 0 x)) : AtW p l e R s m args below meth c Q nL D dA base ad0 h0 (pc) (lo) (vI x :: vU (900000 + ci) n :: r) (h) := by
  intro H locs cells slots ad ls S
  obtain ⟨hc, hk, hT, hl⟩ := hf
  have hci := clT_lt hc
  have hN : clN ci = N := (clT_ok hc).2
  have hn : n < hC h (900000 + ci) := S.ok.2.1
  obtain ⟨ws, hP, hD, hws, hinj⟩ := S.1
  obtain ⟨q, hq⟩ := hws (900000 + ci) n hn
  have hq0 := hq
  rw [cel_obj hci] at hq
  obtain ⟨⟨hin, ⟨ty0, hty0⟩, hnm, -⟩, -⟩ := clT_ok hc
  refine va_put F.1 F.2.1 (own := own) (C := C) (T := T) (N := N) (ref := C) F.2.2.2.2.1 (fun w hw => F.2.2.2.2.2.1 w (hin w hw)) ty0 hty0 hnm F.2.2.2.1 F.2.2.2.2.2.2.1 hP hD S.2.2.1 q hq hc k hk (F.2.2.2.2.1 _ (F.2.2.2.2.2.1 _ hl)) (fun x hx => by rw [← hT]; exact hx) hfn hty rfl rfl (by rw [fsv_len, hN]; exact hk) hd (fun H1 locs1 hP1 hD1 hS1 => ?_)
  refine k2 H1 locs1 cells slots ad ls ⟨Sim.set (sameS_sI ..) hws hinj hD hn hq0 ?_ (fun t m hm hne => cel_sIkey hci (hN ▸ hk) S.2.1 hm hne) hP1 hD1, S.2.1.same (sameS_sI ..) rfl, hS1, S.2.2.2.1, (sameS_sI ..).oks S.ok.2.2, fun i u hu => (sameS_sI ..).vk (S.2.2.2.2.2.1 i u hu), S.2.2.2.2.2.2⟩
  rw [cel_obj hci, ← fval_sIkey hci (hN ▸ hk) h0k]
  rfl
theorem s_iald {p : Program} {l : Launch} {e : Env} {R : Room} {s : State} {m : MethodId} {args : Array Value} {below : List Frame} {meth : Method} {c : Code} {Q : State → Prop} {cc : ByteArray} {nL : Nat} {own : String} {Ts : List Cond} {D : va_G} {dA : Nat → ClassId} {base : Nat} {ad0 : Nat → Nat → Nat} {h0 : MH} (F : Fix p s m args c cc nL own Ts D dA base ad0) {pc : Nat} {lo : List (Option MV)} {r : List MV} {h : MH} {sx n : Nat} {i : Int32} (hd : decode cc pc = .ok (.iaload, 1)) (hr : isRow sx 0 = true) (hi : ¬ oob i (lenOf sx)) (k2 : AtW p l e R s m args below meth c Q nL D dA base ad0 h0 (pc + 1) (lo) (vI (hI h sx n (ix i)) :: r) (h)) : AtW p l e R s m args below meth c Q nL D dA base ad0 h0 (pc) (lo) (vI i :: vR sx n :: r) (h) := by
  intro H locs cells slots ad ls S
  have hn : n < hC h sx := by
    rcases S.ok.2.1 with z | z
    · have := (isRow_tg hr).1
      exact absurd z (by show ¬ (sx < 100); omega)
    · exact z.1
  obtain ⟨ws, hP, hD, hws, hinj⟩ := S.1
  obtain ⟨q, hq⟩ := hws sx n hn
  rw [cel_row hr (by decide)] at hq
  exact va_iald F.1 F.2.1 F.2.2.2.2.2.2.1 hP q 0 hq rfl hi hd (k2 H locs cells slots ad ls (S.stk ⟨trivial, S.ok.2.2⟩))
theorem s_bald {p : Program} {l : Launch} {e : Env} {R : Room} {s : State} {m : MethodId} {args : Array Value} {below : List Frame} {meth : Method} {c : Code} {Q : State → Prop} {cc : ByteArray} {nL : Nat} {own : String} {Ts : List Cond} {D : va_G} {dA : Nat → ClassId} {base : Nat} {ad0 : Nat → Nat → Nat} {h0 : MH} (F : Fix p s m args c cc nL own Ts D dA base ad0) {pc : Nat} {lo : List (Option MV)} {r : List MV} {h : MH} {sx n : Nat} {i : Int32} (hd : decode cc pc = .ok (.baload, 1)) (hr : isRow sx 1 = true) (hi : ¬ oob i (lenOf sx)) (k2 : AtW p l e R s m args below meth c Q nL D dA base ad0 h0 (pc + 1) (lo) (vI (hI h sx n (ix i)) :: r) (h)) : AtW p l e R s m args below meth c Q nL D dA base ad0 h0 (pc) (lo) (vI i :: vR sx n :: r) (h) := by
  intro H locs cells slots ad ls S
  have hn : n < hC h sx := by
    rcases S.ok.2.1 with z | z
    · have := (isRow_tg hr).1
      exact absurd z (by show ¬ (sx < 100); omega)
    · exact z.1
  obtain ⟨ws, hP, hD, hws, hinj⟩ := S.1
  obtain ⟨q, hq⟩ := hws sx n hn
  rw [cel_row hr (by decide)] at hq
  exact va_bald F.1 F.2.1 F.2.2.2.2.2.2.1 hP q 1 hq rfl hi hd (k2 H locs cells slots ad ls (S.stk ⟨trivial, S.ok.2.2⟩))
theorem s_zald {p : Program} {l : Launch} {e : Env} {R : Room} {s : State} {m : MethodId} {args : Array Value} {below : List Frame} {meth : Method} {c : Code} {Q : State → Prop} {cc : ByteArray} {nL : Nat} {own : String} {Ts : List Cond} {D : va_G} {dA : Nat → ClassId} {base : Nat} {ad0 : Nat → Nat → Nat} {h0 : MH} (F : Fix p s m args c cc nL own Ts D dA base ad0) {pc : Nat} {lo : List (Option MV)} {r : List MV} {h : MH} {sx n : Nat} {i : Int32} (hd : decode cc pc = .ok (.baload, 1)) (hr : isRow sx 2 = true) (hi : ¬ oob i (lenOf sx)) (k2 : AtW p l e R s m args below meth c Q nL D dA base ad0 h0 (pc + 1) (lo) (vI (hI h sx n (ix i)) :: r) (h)) : AtW p l e R s m args below meth c Q nL D dA base ad0 h0 (pc) (lo) (vI i :: vR sx n :: r) (h) := by
  intro H locs cells slots ad ls S
  have hn : n < hC h sx := by
    rcases S.ok.2.1 with z | z
    · have := (isRow_tg hr).1
      exact absurd z (by show ¬ (sx < 100); omega)
    · exact z.1
  obtain ⟨ws, hP, hD, hws, hinj⟩ := S.1
  obtain ⟨q, hq⟩ := hws sx n hn
  rw [cel_row hr (by decide)] at hq
  exact va_zald F.1 F.2.1 F.2.2.2.2.2.2.1 hP q 2 hq rfl hi hd (k2 H locs cells slots ad ls (S.stk ⟨trivial, S.ok.2.2⟩))
theorem s_lald {p : Program} {l : Launch} {e : Env} {R : Room} {s : State} {m : MethodId} {args : Array Value} {below : List Frame} {meth : Method} {c : Code} {Q : State → Prop} {cc : ByteArray} {nL : Nat} {own : String} {Ts : List Cond} {D : va_G} {dA : Nat → ClassId} {base : Nat} {ad0 : Nat → Nat → Nat} {h0 : MH} (F : Fix p s m args c cc nL own Ts D dA base ad0) {pc : Nat} {lo : List (Option MV)} {r : List MV} {h : MH} {sx n : Nat} {i : Int32} (hd : decode cc pc = .ok (.laload, 1)) (hr : isRow sx 3 = true) (hi : ¬ oob i (lenOf sx)) (k2 : AtW p l e R s m args below meth c Q nL D dA base ad0 h0 (pc + 1) (lo) (vL (hJ h sx n (ix i)) :: r) (h)) : AtW p l e R s m args below meth c Q nL D dA base ad0 h0 (pc) (lo) (vI i :: vR sx n :: r) (h) := by
  intro H locs cells slots ad ls S
  have hn : n < hC h sx := by
    rcases S.ok.2.1 with z | z
    · have := (isRow_tg hr).1
      exact absurd z (by show ¬ (sx < 100); omega)
    · exact z.1
  obtain ⟨ws, hP, hD, hws, hinj⟩ := S.1
  obtain ⟨q, hq⟩ := hws sx n hn
  rw [cel_rowJ hr] at hq
  exact va_lald F.1 F.2.1 F.2.2.2.2.2.2.1 hP q 3 hq rfl hi hd (k2 H locs cells slots ad ls (S.stk ⟨trivial, S.ok.2.2⟩))
theorem s_iast {p : Program} {l : Launch} {e : Env} {R : Room} {s : State} {m : MethodId} {args : Array Value} {below : List Frame} {meth : Method} {c : Code} {Q : State → Prop} {cc : ByteArray} {nL : Nat} {own : String} {Ts : List Cond} {D : va_G} {dA : Nat → ClassId} {base : Nat} {ad0 : Nat → Nat → Nat} {h0 : MH} (F : Fix p s m args c cc nL own Ts D dA base ad0) {pc : Nat} {lo : List (Option MV)} {r : List MV} {h : MH} {sx n : Nat} {i x : Int32} (hd : decode cc pc = .ok (.iastore, 1)) (hr : isRow sx 0 = true) (hi : ¬ oob i (lenOf sx)) (k2 : AtW p l e R s m args below meth c Q nL D dA base ad0 h0 (pc + 1) (lo) (r) (sI h sx n (ix i) (x))) : AtW p l e R s m args below meth c Q nL D dA base ad0 h0 (pc) (lo) (vI x :: vI i :: vR sx n :: r) (h) := by
  intro H locs cells slots ad ls S
  have hs := (isRow_tg hr).1
  have hn : n < hC h sx := by
    rcases S.ok.2.2.1 with z | z
    · exact absurd z (by show ¬ (sx < 100); omega)
    · exact z.1
  obtain ⟨ws, hP, hD, hws, hinj⟩ := S.1
  obtain ⟨q, hq⟩ := hws sx n hn
  have hq0 := hq
  rw [cel_row hr (by decide)] at hq
  refine va_iast F.1 F.2.1 F.2.2.2.2.2.2.1 hP hD S.2.2.1 q 0 hq rfl hi hd (fun H1 locs1 hP1 hD1 hS1 => ?_)
  refine k2 H1 locs1 cells slots ad ls ⟨Sim.set (sameS_sI ..) hws hinj hD hn hq0 ?_ (fun t m hm hne => cel_sIrow hs S.2.1 hm hne) hP1 hD1, S.2.1.same (sameS_sI ..) rfl, hS1, S.2.2.2.1, (sameS_sI ..).oks S.ok.2.2.2, fun i u hu => (sameS_sI ..).vk (S.2.2.2.2.2.1 i u hu), S.2.2.2.2.2.2⟩
  rw [cel_row hr (by decide)]
  have e : ∀ v : Int32, upd (hI h sx n) (ix i) v = hI (sI h sx n (ix i) v) sx n := by
    intro v
    funext j
    rw [hI_sI]
    by_cases hj : j = ix i
    · rw [if_pos ⟨rfl, rfl, hj⟩]; subst hj; simp [upd]
    · rw [if_neg (fun z => hj z.2.2)]; simp [upd, hj]
  rw [← e]
theorem s_bast {p : Program} {l : Launch} {e : Env} {R : Room} {s : State} {m : MethodId} {args : Array Value} {below : List Frame} {meth : Method} {c : Code} {Q : State → Prop} {cc : ByteArray} {nL : Nat} {own : String} {Ts : List Cond} {D : va_G} {dA : Nat → ClassId} {base : Nat} {ad0 : Nat → Nat → Nat} {h0 : MH} (F : Fix p s m args c cc nL own Ts D dA base ad0) {pc : Nat} {lo : List (Option MV)} {r : List MV} {h : MH} {sx n : Nat} {i x : Int32} (hd : decode cc pc = .ok (.bastore, 1)) (hr : isRow sx 1 = true) (hi : ¬ oob i (lenOf sx)) (k2 : AtW p l e R s m args below meth c Q nL D dA base ad0 h0 (pc + 1) (lo) (r) (sI h sx n (ix i) (x.toInt8.toInt32))) : AtW p l e R s m args below meth c Q nL D dA base ad0 h0 (pc) (lo) (vI x :: vI i :: vR sx n :: r) (h) := by
  intro H locs cells slots ad ls S
  have hs := (isRow_tg hr).1
  have hn : n < hC h sx := by
    rcases S.ok.2.2.1 with z | z
    · exact absurd z (by show ¬ (sx < 100); omega)
    · exact z.1
  obtain ⟨ws, hP, hD, hws, hinj⟩ := S.1
  obtain ⟨q, hq⟩ := hws sx n hn
  have hq0 := hq
  rw [cel_row hr (by decide)] at hq
  refine va_bast F.1 F.2.1 F.2.2.2.2.2.2.1 hP hD S.2.2.1 q 1 hq rfl hi hd (fun H1 locs1 hP1 hD1 hS1 => ?_)
  refine k2 H1 locs1 cells slots ad ls ⟨Sim.set (sameS_sI ..) hws hinj hD hn hq0 ?_ (fun t m hm hne => cel_sIrow hs S.2.1 hm hne) hP1 hD1, S.2.1.same (sameS_sI ..) rfl, hS1, S.2.2.2.1, (sameS_sI ..).oks S.ok.2.2.2, fun i u hu => (sameS_sI ..).vk (S.2.2.2.2.2.1 i u hu), S.2.2.2.2.2.2⟩
  rw [cel_row hr (by decide)]
  have e : ∀ v : Int32, upd (hI h sx n) (ix i) v = hI (sI h sx n (ix i) v) sx n := by
    intro v
    funext j
    rw [hI_sI]
    by_cases hj : j = ix i
    · rw [if_pos ⟨rfl, rfl, hj⟩]; subst hj; simp [upd]
    · rw [if_neg (fun z => hj z.2.2)]; simp [upd, hj]
  rw [← e]
  rfl
theorem s_zast {p : Program} {l : Launch} {e : Env} {R : Room} {s : State} {m : MethodId} {args : Array Value} {below : List Frame} {meth : Method} {c : Code} {Q : State → Prop} {cc : ByteArray} {nL : Nat} {own : String} {Ts : List Cond} {D : va_G} {dA : Nat → ClassId} {base : Nat} {ad0 : Nat → Nat → Nat} {h0 : MH} (F : Fix p s m args c cc nL own Ts D dA base ad0) {pc : Nat} {lo : List (Option MV)} {r : List MV} {h : MH} {sx n : Nat} {i x : Int32} (hd : decode cc pc = .ok (.bastore, 1)) (hr : isRow sx 2 = true) (hi : ¬ oob i (lenOf sx)) (k2 : AtW p l e R s m args below meth c Q nL D dA base ad0 h0 (pc + 1) (lo) (r) (sI h sx n (ix i) (x &&& 1))) : AtW p l e R s m args below meth c Q nL D dA base ad0 h0 (pc) (lo) (vI x :: vI i :: vR sx n :: r) (h) := by
  intro H locs cells slots ad ls S
  have hs := (isRow_tg hr).1
  have hn : n < hC h sx := by
    rcases S.ok.2.2.1 with z | z
    · exact absurd z (by show ¬ (sx < 100); omega)
    · exact z.1
  obtain ⟨ws, hP, hD, hws, hinj⟩ := S.1
  obtain ⟨q, hq⟩ := hws sx n hn
  have hq0 := hq
  rw [cel_row hr (by decide)] at hq
  refine va_zast F.1 F.2.1 F.2.2.2.2.2.2.1 hP hD S.2.2.1 q 2 hq rfl hi hd (fun H1 locs1 hP1 hD1 hS1 => ?_)
  refine k2 H1 locs1 cells slots ad ls ⟨Sim.set (sameS_sI ..) hws hinj hD hn hq0 ?_ (fun t m hm hne => cel_sIrow hs S.2.1 hm hne) hP1 hD1, S.2.1.same (sameS_sI ..) rfl, hS1, S.2.2.2.1, (sameS_sI ..).oks S.ok.2.2.2, fun i u hu => (sameS_sI ..).vk (S.2.2.2.2.2.1 i u hu), S.2.2.2.2.2.2⟩
  rw [cel_row hr (by decide)]
  have e : ∀ v : Int32, upd (hI h sx n) (ix i) v = hI (sI h sx n (ix i) v) sx n := by
    intro v
    funext j
    rw [hI_sI]
    by_cases hj : j = ix i
    · rw [if_pos ⟨rfl, rfl, hj⟩]; subst hj; simp [upd]
    · rw [if_neg (fun z => hj z.2.2)]; simp [upd, hj]
  rw [← e]
  rfl
theorem s_alen {p : Program} {l : Launch} {e : Env} {R : Room} {s : State} {m : MethodId} {args : Array Value} {below : List Frame} {meth : Method} {c : Code} {Q : State → Prop} {cc : ByteArray} {nL : Nat} {own : String} {Ts : List Cond} {D : va_G} {dA : Nat → ClassId} {base : Nat} {ad0 : Nat → Nat → Nat} {h0 : MH} (F : Fix p s m args c cc nL own Ts D dA base ad0) {pc : Nat} {lo : List (Option MV)} {r : List MV} {h : MH} {sx n t : Nat} (hd : decode cc pc = .ok (.arraylength, 1)) (hr : isRow sx t = true) (ht : t < 4) (k2 : AtW p l e R s m args below meth c Q nL D dA base ad0 h0 (pc + 1) (lo) (vI (Int32.ofNat (lenOf sx)) :: r) (h)) : AtW p l e R s m args below meth c Q nL D dA base ad0 h0 (pc) (lo) (vR sx n :: r) (h) := by
  intro H locs cells slots ad ls S
  have hn : n < hC h sx := by
    rcases S.ok.1 with z | z
    · have := (isRow_tg hr).1
      exact absurd z (by show ¬ (sx < 100); omega)
    · exact z.1
  obtain ⟨ws, hP, hD, hws, hinj⟩ := S.1
  obtain ⟨q, hq⟩ := hws sx n hn
  have k3 := k2 H locs cells slots ad ls (S.stk ⟨trivial, S.ok.2⟩)
  rcases (show t = 0 ∨ t = 1 ∨ t = 2 ∨ t = 3 by omega) with rfl | rfl | rfl | rfl
  · rw [cel_row hr (by decide)] at hq
    exact va_alen F.1 F.2.1 F.2.2.2.2.2.2.1 hP q 0 hq rfl rfl hd k3
  · rw [cel_row hr (by decide)] at hq
    exact va_alen F.1 F.2.1 F.2.2.2.2.2.2.1 hP q 1 hq rfl rfl hd k3
  · rw [cel_row hr (by decide)] at hq
    exact va_alen F.1 F.2.1 F.2.2.2.2.2.2.1 hP q 2 hq rfl rfl hd k3
  · rw [cel_rowJ hr] at hq
    exact va_alen F.1 F.2.1 F.2.2.2.2.2.2.1 hP q 3 hq rfl rfl hd k3

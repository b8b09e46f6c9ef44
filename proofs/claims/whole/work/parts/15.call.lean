/-! CALLS AND RETURNS (printed by wip/whole/emitcall.py) -/
theorem Ex.same {base strA : Nat} {u U : State} (hv : U.vm = u.vm) (hh : U.heap = u.heap) (h : Ex base strA u) : Ex base strA U := by
  obtain ⟨h1, h2, h3, h4, ⟨sv, h5⟩, h6, h7⟩ := h
  have al : u.vm.Alike U.vm := by rw [hv]; exact Vm.Alike.refl _
  refine ⟨va_Nw.same rfl hv.symm h1, va_AO.moved al h2, va_AO.moved al h3, vk_R.same hv h4, ⟨sv, ?_⟩, ?_, ?_⟩
  · rw [hh]; exact vk_S.moved al h5
  · rw [hh]; exact va_Z.moved al h6
  · rw [hh]; exact va_Zq.moved al h7
theorem Ex.warm {base strA : Nat} {s U : State} (hW : s.WarmedH U.vm) (hb : base ≤ s.heap.size) (hk : ∀ q : Nat, q < s.heap.size → ¬ base ≤ q → U.heap[q]? = s.heap[q]?) (h : Ex base strA s) : Ex base strA U := by
  obtain ⟨h1, h2, h3, h4, ⟨sv, h5⟩, h6, h7⟩ := h
  exact ⟨va_Nw.warmF hW h1, va_AO.moved hW.alike h2, va_AO.moved hW.alike h3, vk_R.warm hW h4, ⟨sv, vk_S.moved hW.alike (h5.kept hk)⟩, va_Z.moved hW.alike (h6.kept hk), va_Zq.moved hW.alike (h7.kept hk)⟩
def Mono (h h' : MH) : Prop := (∀ t, hC h t ≤ hC h' t) ∧ (∀ t, hD h t ≤ hD h' t) ∧ hc h ≤ hc h' ∧ hs h ≤ hs h'
theorem Mono.rf (h : MH) : Mono h h := ⟨fun _ => Nat.le_refl _, fun _ => Nat.le_refl _, Nat.le_refl _, Nat.le_refl _⟩
theorem Mono.tr {a b c : MH} (x : Mono a b) (y : Mono b c) : Mono a c := ⟨fun t => Nat.le_trans (x.1 t) (y.1 t), fun t => Nat.le_trans (x.2.1 t) (y.2.1 t), Nat.le_trans x.2.2.1 y.2.2.1, Nat.le_trans x.2.2.2 y.2.2.2⟩
theorem sameS.mono {h h' : MH} (q : sameS h h') : Mono h h' := ⟨fun t => by rw [q.C]; exact Nat.le_refl _, fun t => by rw [q.D]; exact Nat.le_refl _, by rw [q.c]; exact Nat.le_refl _, by rw [q.s]; exact Nat.le_refl _⟩
/-- a method of the table: name, bytes, locals, type, kind (0 static, 1 of an object, 2 a constructor), blocks, cuts -/
abbrev ME : Type := MethodName × ByteArray × Nat × Option FieldType × Nat × List Blk × List Nat
def wT (q : ME) : List Cond := .code q.1 q.2.1 q.2.2.1 q.2.2.2.1 :: lwG
def Pcon (D : va_G) (dA : Nat → ClassId) (ad : Nat → Nat → Nat) (base : Nat) (as : List MV) (h : MH) : Array Value → State → Prop :=
  va_Pc (as.map (rv ad)) (fun U => base ≤ U.heap.size ∧ Sim D dA ad h U.heap (fun q => base ≤ q) ∧ va_K D clT (tysA dA) U ∧ Ex base (ad 98 0) U)
def Qcon (D : va_G) (dA : Nat → ClassId) (ad : Nat → Nat → Nat) (base : Nat) (h : MH) (r : Option MV) (h' : MH) : Array Value → State → Outcome → State → Prop := fun _ st o t =>
  (∃ ad' : Nat → Nat → Nat, (∀ s n, (n < hC h s ∨ s < 100) → ad' s n = ad s n) ∧ Sim D dA ad' h' t.heap (fun q => base ≤ q) ∧ o = .returned (r.map (rv ad'))) ∧ va_F (fun q => base ≤ q) st t
def roomD (d : Nat) (h h' : MH) : Room := { frames := d, cells := hc h' - hc h, slots := hs h' - hs h, locals := 80 * d }
def Con (l : Launch) (d : Nat) (q : ME) (as : List MV) (h : MH) (r : Option MV) (h' : MH) : Prop :=
  ∀ (D : va_G) (dA : Nat → ClassId) (ad : Nat → Nat → Nat) (base : Nat), Met l q.1 (wT q) (roomD d h h') (Pcon D dA ad base as h) (Qcon D dA ad base h r h') (hc h' - hc h) (hs h' - hs h) (fun q => base ≤ q)
theorem Pcon_blind {D : va_G} {dA : Nat → ClassId} {ad : Nat → Nat → Nat} {base : Nat} {as : List MV} {h : MH} : FrameBlind (Pcon D dA ad base as h) := by
  intro a U g mk q
  obtain ⟨q0, q1, q2, q3, q4⟩ := q
  exact ⟨q0, q1, q2, va_K.moved (u := U) (U := U.calling g mk a) (Vm.Alike.refl U.vm) q3, Ex.same (u := U) rfl rfl q4⟩
theorem goodIn_wT {Ts : List Cond} {q : ME} (h1 : ∀ w ∈ lwG, w ∈ Ts) (h2 : Cond.code q.1 q.2.1 q.2.2.1 q.2.2.2.1 ∈ lwG) : GoodIn Ts (wT q) := by
  have g : ∀ w ∈ lwG, w ∈ Ts ∧ ((w.onTables && w.keeps) = true ∨ ∃ ty, w = .arrayClass ty) := fun w hw => ⟨h1 w hw, good_of_word (List.mem_filter.mp hw).2⟩
  intro w hw
  rcases List.mem_cons.mp hw with rfl | hw
  · exact g _ h2
  · exact g _ hw
/-- what the tables say of a method -/
def meOk (q : ME) (n : Nat) : Prop := Cond.code q.1 q.2.1 q.2.2.1 q.2.2.2.1 ∈ lwG ∧ Cond.initialized q.1.cls ∈ lwG ∧ q.1.cls ≠ "java/lang/invoke/MethodHandle" ∧ q.1.cls ≠ "java/lang/invoke/VarHandle" ∧ (parseMethodDescriptor q.1.desc).map (fun d => d.parameters.length) = some n ∧ q.2.2.1 ≤ 40
theorem cat_sum (ad : Nat → Nat → Nat) : ∀ st : List MV, ((st.map (rv ad)).map fun v => v.category).sum = cat st
  | [] => rfl
  | v :: r => by
    rw [List.map_cons, List.map_cons, List.sum_cons, cat_sum ad r]
    rcases v with x | x | x | x | x <;> simp [rv, cat, Value.category] <;> omega
theorem spl_eq : ∀ {n : Nat} {acc st as r : List MV}, spl n acc st = some (as, r) → st = (as.take n).reverse ++ r ∧ as.drop n = acc ∧ n ≤ as.length
  | 0, acc, st, as, r, h => by
    simp [spl] at h
    obtain ⟨rfl, rfl⟩ := h
    simp
  | n + 1, acc, [], as, r, h => by simp [spl] at h
  | n + 1, acc, v :: st, as, r, h => by
    have h : spl n (v :: acc) st = some (as, r) := h
    obtain ⟨h1, h2, h3⟩ := spl_eq h
    have hl : n < as.length := by
      rcases Nat.lt_or_ge n as.length with q | q
      · exact q
      · rw [List.drop_eq_nil_of_le q] at h2; cases h2
    have e0 : as[n]? = some v := by
      have := congrArg (fun z => z[0]?) h2
      simpa using this
    have e1 : as.take (n + 1) = as.take n ++ [v] := by rw [List.take_succ, e0]; rfl
    refine ⟨?_, ?_, hl⟩
    · rw [e1, List.reverse_append, h1]; rfl
    · have := congrArg List.tail h2
      simpa using this
theorem spl_all {n : Nat} {st as r : List MV} (h : spl n [] st = some (as, r)) : st = as.reverse ++ r ∧ as.length = n := by
  obtain ⟨h1, h2, h3⟩ := spl_eq h
  have e : as.length ≤ n := by simpa using h2
  exact ⟨by rw [h1, List.take_of_length_le e], by omega⟩
theorem oks_app {h : MH} : ∀ {a b : List MV}, oks h (a ++ b) ↔ oks h a ∧ oks h b
  | [], b => by simp [oks]
  | v :: a, b => by
    show (vok h v ∧ oks h (a ++ b)) ↔ ((vok h v ∧ oks h a) ∧ oks h b)
    rw [oks_app]
    exact and_assoc.symm
theorem oks_rev {h : MH} : ∀ {a : List MV}, oks h a.reverse ↔ oks h a
  | [] => Iff.rfl
  | v :: a => by
    rw [List.reverse_cons, oks_app, oks_rev]
    show oks h a ∧ (vok h v ∧ True) ↔ vok h v ∧ oks h a
    constructor
    · exact fun z => ⟨z.2.1, z.1⟩
    · exact fun z => ⟨z.2, z.1, trivial⟩
theorem call_core {p : Program} {l : Launch} {e : Env} {R : Room} {s : State} {m : MethodId} {args : Array Value} {below : List Frame} {meth : Method} {c : Code} {Q : State → Prop} {cc : ByteArray} {nL : Nat} {own : String} {Ts : List Cond} {D : va_G} {dA : Nat → ClassId} {base : Nat} {ad0 : Nat → Nat → Nat} {h0 : MH} (F : Fix p s m args c cc nL own Ts D dA base ad0) {pc : Nat} {lo : List (Option MV)} {st rs : List MV} {h h1 : MH} {r : Option MV} {av : Array Value} (hrs : ∀ {h : MH}, oks h st → oks h rs) (hm : Mono h h1) (hw : Wf h1) (hv : ∀ v, r = some v → vok h1 v)
    (hr : ∀ (H : Heap) (locs : List Loc) (cells slots : Nat) (ad : Nat → Nat → Nat) (ls : Array Slot), St s nL D dA base ad0 h0 lo st h H locs cells slots ad ls → va_Run p l e R s m args below meth c H locs cells slots (hc h1 - hc h) (hs h1 - hs h) (F0 m pc ls (st.map (rv ad))) (rs.map (rv ad)) (Qcon D dA ad base h r h1 av) (fun q => base ≤ q))
    (k : AtW p l e R s m args below meth c Q nL D dA base ad0 h0 (pc + 3) (lo) (r.toList ++ rs) (h1)) : AtW p l e R s m args below meth c Q nL D dA base ad0 h0 (pc) (lo) (st) (h) := by
  intro H locs cells slots ad ls S
  intro T hT X
  obtain ⟨v, st₀, t, T', L, g0, X', hL, e1, e2, ⟨⟨ad', ha, hsim, ho⟩, hz, hk⟩, stp⟩ := hr H locs cells slots ad ls S T hT X
  have ev : v = r.map (rv ad') := Outcome.returned.inj ho
  rw [g0] at hz hk
  have okr := hrs S.ok
  have S' : St s nL D dA base ad0 h0 lo (r.toList ++ rs) h1 T'.heap (locs ++ L) (cells + (hc h1 - hc h)) (slots + (hs h1 - hs h)) ad' ls := by
    have cnt := S.2.2.2.2.2.2.1
    have m3 := hm.2.2.1
    have m4 := hm.2.2.2
    refine ⟨by rw [e1]; exact hsim, hw, ⟨Nat.le_trans S.2.2.1.1 (by rw [e1]; exact hz), fun q h1 h2 => ?_, fun q hq => ?_⟩, ⟨S.2.2.2.1.1, S.2.2.2.1.2.1, fun i u hu => ?_⟩, ?_, fun i u hu => vok_mono hm.1 hm.2.1 (S.2.2.2.2.2.1 i u hu), ⟨by omega, by omega⟩, fun t n hn => ?_, fun t => Nat.le_trans (S.2.2.2.2.2.2.2.2 t) (hm.1 t)⟩
    · rw [e1, hk q (Nat.lt_of_lt_of_le h1 S.2.2.1.1) h2]
      exact S.2.2.1.2.1 q h1 h2
    · rcases List.mem_append.mp hq with z | z
      · exact S.2.2.1.2.2 q z
      · exact hL q z
    · rw [rv_ad ha (S.2.2.2.2.2.1 i u hu)]
      exact S.2.2.2.1.2.2 i u hu
    · have okr2 := oks_mono hm.1 hm.2.1 okr
      cases r with
      | none => exact okr2
      | some w => exact ⟨hv w rfl, okr2⟩
    · rw [ha t n (by
        rcases hn with hn | hn
        · exact Or.inl (Nat.lt_of_lt_of_le hn (S.2.2.2.2.2.2.2.2 t))
        · exact Or.inr hn)]
      exact S.2.2.2.2.2.2.2.1 t n hn
  obtain ⟨t2, a1, b1⟩ := k T'.heap (locs ++ L) _ _ ad' ls S' T' rfl X'
  have e3 : (r.toList ++ rs).map (rv ad') = v.toList ++ rs.map (rv ad) := by
    rw [ev, List.map_append, oks_map ha okr]
    cases r <;> rfl
  rw [e3] at a1
  exact ⟨t2, stp t2 a1, b1⟩
theorem pcon_at {p : Program} {s : State} {m : MethodId} {args : Array Value} {c : Code} {cc : ByteArray} {nL : Nat} {own : String} {Ts : List Cond} {D : va_G} {dA : Nat → ClassId} {base : Nat} {ad0 : Nat → Nat → Nat} {h0 : MH} (F : Fix p s m args c cc nL own Ts D dA base ad0) {lo : List (Option MV)} {st as : List MV} {h : MH} {H : Heap} {locs : List Loc} {cells slots : Nat} {ad : Nat → Nat → Nat} {ls : Array Slot} (S : St s nL D dA base ad0 h0 lo st h H locs cells slots ad ls) (U : State) (hU : U.heap = H) (hW : s.WarmedH U.vm) : Pcon D dA ad base as h (as.map (rv ad)).toArray U := by
  have e98 : ad 98 0 = ad0 98 0 := S.2.2.2.2.2.2.2.1 98 0 (Or.inr (by decide))
  refine ⟨rfl, ?_, by rw [hU]; exact S.1, va_K.moved hW.alike F.2.2.2.2.2.2.1, ?_⟩
  · rw [hU]; exact Nat.le_trans F.2.2.2.2.2.2.2.1 S.2.2.1.1
  · rw [e98]
    exact Ex.warm hW F.2.2.2.2.2.2.2.1 (fun q h1 h2 => by rw [hU]; exact S.2.2.1.2.1 q h1 h2) F.2.2.2.2.2.2.2.2
theorem s_callS {p : Program} {l : Launch} {e : Env} {R : Room} {s : State} {m : MethodId} {args : Array Value} {below : List Frame} {meth : Method} {c : Code} {Q : State → Prop} {cc : ByteArray} {nL : Nat} {own : String} {Ts : List Cond} {D : va_G} {dA : Nat → ClassId} {base : Nat} {ad0 : Nat → Nat → Nat} {h0 : MH} (F : Fix p s m args c cc nL own Ts D dA base ad0) {pc : Nat} {lo : List (Option MV)} {d : Nat} {q : ME} {as rs : List MV} {h h1 : MH} {r : Option MV} {ix0 : Nat} (hcon : Con l d q as h r h1) (hm : Mono h h1) (hw : Wf h1) (hv : ∀ v, r = some v → vok h1 v) (hroom : hc h1 ≤ hc h0 + R.cells ∧ hs h1 ≤ hs h0 + R.slots) (hR : d + 1 ≤ R.frames ∧ 80 * d + 60 ≤ R.locals) (hlink : Cond.methodLink own ix0 q.1 ∈ lwG) (hcat : cat rs ≤ 8) (hme : meOk q as.length) (hst : Cond.static q.1 ∈ lwG) (hd : decode cc pc = .ok (.invokestatic ix0, 3)) (k : AtW p l e R s m args below meth c Q nL D dA base ad0 h0 (pc + 3) (lo) (r.toList ++ rs) (h1)) : AtW p l e R s m args below meth c Q nL D dA base ad0 h0 (pc) (lo) (as.reverse ++ rs) (h) := by
  refine call_core F (st := as.reverse ++ rs) (rs := rs) (av := (as.map (rv ad0)).toArray) (fun z => (oks_app.mp z).2) hm hw hv (fun H locs cells slots ad ls S => ?_) k
  have hrun := va_runS (p := p) (l := l) (e := e) (R := R) (s := s) (m := m) (args := args) (below := below) (meth := meth) (c := c) (H := H) (locs := locs) (cells := cells) (slots := slots) (As := as.map (rv ad)) (rest := rs.map (rv ad)) (g := F0 m pc ls ((as.reverse ++ rs).map (rv ad))) (n := as.length) ⟨F.1, F.2.1, F.2.2.1, F.2.2.2.1, F.2.2.2.2.1⟩ (hcon D dA ad base) ⟨callB_of (R := R) (bytes := q.2.1) (maxL := q.2.2.1) (ret := q.2.2.2.1) as.length F.2.2.2.2.1 (goodIn_wT F.2.2.2.2.2.1 hme.1) rfl rfl rfl (F.2.2.2.2.1 _ (F.2.2.2.2.2.1 _ hme.2.1)) (F.2.2.2.2.1 _ (F.2.2.2.2.2.1 _ hlink)) ⟨hme.2.2.1, hme.2.2.2.1, hme.2.2.2.2.1⟩ ⟨hR.1, by have := hme.2.2.2.2.2; show 8 + (q.2.2.1 + 11) + 80 * d ≤ R.locals; omega⟩, F.2.2.2.2.1 _ (F.2.2.2.2.2.1 _ hst)⟩ ⟨Pcon_blind, fun U hU hW => pcon_at F S U hU hW⟩ rfl (by rw [List.length_map]) (by show ls.size = nL; exact S.2.2.2.1.1) (by show (as.reverse ++ rs).map (rv ad) = _; rw [List.map_append, List.map_reverse]) (lv_room (by rw [cat_sum]; exact hcat)) hd ⟨by have := S.2.2.2.2.2.2.1.1; have := hm.2.2.1; omega, by have := S.2.2.2.2.2.2.1.2; have := hm.2.2.2; omega⟩
  exact hrun
theorem s_callV {p : Program} {l : Launch} {e : Env} {R : Room} {s : State} {m : MethodId} {args : Array Value} {below : List Frame} {meth : Method} {c : Code} {Q : State → Prop} {cc : ByteArray} {nL : Nat} {own : String} {Ts : List Cond} {D : va_G} {dA : Nat → ClassId} {base : Nat} {ad0 : Nat → Nat → Nat} {h0 : MH} (F : Fix p s m args c cc nL own Ts D dA base ad0) {pc : Nat} {lo : List (Option MV)} {ci n : Nat} {C : String} {T : u_T} {N : Nat} {d : Nat} {q : ME} {as rs : List MV} {h h1 : MH} {r : Option MV} {ix0 : Nat} (hcon : Con l d q (vR (900000 + ci) n :: as) h r h1) (hm : Mono h h1) (hw : Wf h1) (hv : ∀ v, r = some v → vok h1 v) (hroom : hc h1 ≤ hc h0 + R.cells ∧ hs h1 ≤ hs h0 + R.slots) (hR : d + 1 ≤ R.frames ∧ 80 * d + 60 ≤ R.locals) (hlink : Cond.methodLink own ix0 q.1 ∈ lwG) (hcat : cat rs ≤ 8) (hcl : clT[ci]? = some (C, T, N)) (hme : meOk q as.length) (hst : Cond.instanceMethod q.1 ∈ lwG ∧ Cond.selects C q.1 q.1 ∈ lwG) (hd : decode cc pc = .ok (.invokevirtual ix0, 3)) (k : AtW p l e R s m args below meth c Q nL D dA base ad0 h0 (pc + 3) (lo) (r.toList ++ rs) (h1)) : AtW p l e R s m args below meth c Q nL D dA base ad0 h0 (pc) (lo) (as.reverse ++ vR (900000 + ci) n :: rs) (h) := by
  refine call_core F (st := as.reverse ++ vR (900000 + ci) n :: rs) (rs := rs) (av := (as.map (rv ad0)).toArray) (fun z => (oks_app.mp z).2.2) hm hw hv (fun H locs cells slots ad ls S => ?_) k
  obtain ⟨ws, hP, hD, hws, hinj⟩ := S.1
  have hlive : n < hC h (900000 + ci) := vR_live (oks_app.mp S.ok).2.1 (by omega)
  obtain ⟨qq, hqq⟩ := hws (900000 + ci) n hlive
  rw [cel_obj (clT_lt hcl)] at hqq
  have hrun := va_runV (p := p) (l := l) (e := e) (R := R) (s := s) (m := m) (args := args) (below := below) (meth := meth) (c := c) (H := H) (locs := locs) (cells := cells) (slots := slots) (C := C) (b := ad (900000 + ci) n) (As := as.map (rv ad)) (rest := rs.map (rv ad)) (g := F0 m pc ls ((as.reverse ++ vR (900000 + ci) n :: rs).map (rv ad))) (n := as.length) ⟨F.1, F.2.1, F.2.2.1, F.2.2.2.1, F.2.2.2.2.1⟩ (hcon D dA ad base) ⟨callB_of (R := R) (bytes := q.2.1) (maxL := q.2.2.1) (ret := q.2.2.2.1) as.length F.2.2.2.2.1 (goodIn_wT F.2.2.2.2.2.1 hme.1) rfl rfl rfl (F.2.2.2.2.1 _ (F.2.2.2.2.2.1 _ hme.2.1)) (F.2.2.2.2.1 _ (F.2.2.2.2.2.1 _ hlink)) ⟨hme.2.2.1, hme.2.2.2.1, hme.2.2.2.2.1⟩ ⟨hR.1, by have := hme.2.2.2.2.2; show 8 + (q.2.2.1 + 11) + 80 * d ≤ R.locals; omega⟩, F.2.2.2.2.1 _ (F.2.2.2.2.2.1 _ hst.1), F.2.2.2.2.1 _ (F.2.2.2.2.2.1 _ hst.2)⟩ ⟨Pcon_blind, va_recv F.2.2.2.2.2.2.1 hP (q0 := qq) hcl hqq, fun U hU hW => pcon_at (as := vR (900000 + ci) n :: as) F S U hU hW⟩ rfl (by rw [List.length_map]) (by show ls.size = nL; exact S.2.2.2.1.1) (by show (as.reverse ++ vR (900000 + ci) n :: rs).map (rv ad) = _; rw [List.map_append, List.map_reverse]; rfl) (lv_room (by rw [cat_sum]; exact hcat)) hd ⟨by have := S.2.2.2.2.2.2.1.1; have := hm.2.2.1; omega, by have := S.2.2.2.2.2.2.1.2; have := hm.2.2.2; omega⟩
  exact hrun
theorem s_callI {p : Program} {l : Launch} {e : Env} {R : Room} {s : State} {m : MethodId} {args : Array Value} {below : List Frame} {meth : Method} {c : Code} {Q : State → Prop} {cc : ByteArray} {nL : Nat} {own : String} {Ts : List Cond} {D : va_G} {dA : Nat → ClassId} {base : Nat} {ad0 : Nat → Nat → Nat} {h0 : MH} (F : Fix p s m args c cc nL own Ts D dA base ad0) {pc : Nat} {lo : List (Option MV)} {sx n : Nat} {d : Nat} {q : ME} {as rs : List MV} {h h1 : MH} {ix0 : Nat} (hcon : Con l d q (vU sx n :: as) h none h1) (hm : Mono h h1) (hw : Wf h1) (hroom : hc h1 ≤ hc h0 + R.cells ∧ hs h1 ≤ hs h0 + R.slots) (hR : d + 1 ≤ R.frames ∧ 80 * d + 60 ≤ R.locals) (hlink : Cond.methodLink own ix0 q.1 ∈ lwG) (hcat : cat rs ≤ 8) (hme : meOk q as.length) (hq4 : q.2.2.2.1 = none) (hst : Cond.instanceMethod q.1 ∈ lwG ∧ q.1.name = "<init>") (hd : decode cc pc = .ok (.invokespecial ix0, 3)) (k : AtW p l e R s m args below meth c Q nL D dA base ad0 h0 (pc + 3) (lo) (rs) (h1)) : AtW p l e R s m args below meth c Q nL D dA base ad0 h0 (pc) (lo) (as.reverse ++ vU sx n :: rs) (h) := by
  refine call_core F (st := as.reverse ++ vU sx n :: rs) (rs := rs) (r := none) (av := (as.map (rv ad0)).toArray) (fun z => (oks_app.mp z).2.2) hm hw (fun v z => by cases z) (fun H locs cells slots ad ls S => ?_) k
  have hrun := va_runI (p := p) (l := l) (e := e) (R := R) (s := s) (m := m) (args := args) (below := below) (meth := meth) (c := c) (H := H) (locs := locs) (cells := cells) (slots := slots) (b := ad sx n) (As := as.map (rv ad)) (rest := rs.map (rv ad)) (g := F0 m pc ls ((as.reverse ++ vU sx n :: rs).map (rv ad))) (n := as.length) ⟨F.1, F.2.1, F.2.2.1, F.2.2.2.1, F.2.2.2.2.1⟩ (hcon D dA ad base) ⟨callB_of (R := R) (bytes := q.2.1) (maxL := q.2.2.1) (ret := none) as.length F.2.2.2.2.1 (goodIn_wT F.2.2.2.2.2.1 hme.1) (by unfold wT; rw [hq4]) rfl rfl (F.2.2.2.2.1 _ (F.2.2.2.2.2.1 _ hme.2.1)) (F.2.2.2.2.1 _ (F.2.2.2.2.2.1 _ hlink)) ⟨hme.2.2.1, hme.2.2.2.1, hme.2.2.2.2.1⟩ ⟨hR.1, by have := hme.2.2.2.2.2; show 8 + (q.2.2.1 + 11) + 80 * d ≤ R.locals; omega⟩, hst.2, F.2.2.2.2.1 _ (F.2.2.2.2.2.1 _ hst.1)⟩ ⟨Pcon_blind, fun U hU hW => pcon_at (as := vU sx n :: as) F S U hU hW⟩ rfl (by rw [List.length_map]) (by show ls.size = nL; exact S.2.2.2.1.1) (by show (as.reverse ++ vU sx n :: rs).map (rv ad) = _; rw [List.map_append, List.map_reverse]; rfl) (lv_room (by rw [cat_sum]; exact hcat)) hd ⟨by have := S.2.2.2.2.2.2.1.1; have := hm.2.2.1; omega, by have := S.2.2.2.2.2.2.1.2; have := hm.2.2.2; omega⟩
  exact hrun

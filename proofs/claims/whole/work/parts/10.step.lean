/-! ONE LEMMA AN INSTRUCTION (printed by wip/whole/emitstep.py) -/
def wordsB : List Int32 := [119, 97, 116, 101, 114, 32, 32, 32, 114, 97, 105, 110, 32, 32, 32, 32, 100, 97, 121, 32, 32, 32, 32, 32, 119, 101, 101, 107, 32, 32, 32, 32, 109, 105, 110, 117, 116, 101, 32, 32, 111, 117, 116, 32, 32, 32, 32, 32, 107, 105, 110, 100, 32, 32, 32, 32, 119, 101, 101, 100, 32, 32, 32, 32, 112, 114, 105, 99, 101, 32, 32, 32, 98, 117, 115, 121, 32, 32, 32, 32, 100, 101, 112, 111, 115, 105, 116, 32, 108, 97, 116, 101, 32, 32, 32, 32, 114, 105, 103, 104, 116, 32, 32, 32, 99, 117, 115, 104, 105, 111, 110, 32, 104, 97, 114, 109, 32, 32, 32, 32, 115, 104, 117, 116, 32, 32, 32, 32, 101, 97, 99, 104, 32, 32, 32, 32, 116, 111, 32, 32, 32, 32, 32, 32, 103, 114, 97, 99, 101, 32, 32, 32, 105, 102, 32, 32, 32, 32, 32, 32, 111, 114, 32, 32, 32, 32, 32, 32, 97, 110, 100, 32, 32, 32, 32, 32, 110, 111, 116, 32, 32, 32, 32, 32]
def oks (h : MH) : List MV → Prop
  | [] => True
  | v :: r => vok h v ∧ oks h r
theorem sameS.oks {h h' : MH} (q : sameS h h') : ∀ {st : List MV}, oks h st → oks h' st
  | [], _ => trivial
  | _ :: _, k => ⟨q.vk k.1, sameS.oks q k.2⟩
/-- what is said beside the tables' words that are kept: a nest mate's field, the two classes of rows of references, the text constant -/
def Ex (base strA : Nat) (U : State) : Prop :=
  va_Nw (.fieldLinkNest "PuntYard$Bill" 9 "PuntYard$View" "book" "LPuntYard$Book;" "PuntYard") U ∧ va_AO RX5 U ∧ va_AO RX9 U ∧ vk_R RX6 79 "water   rain    day     week    minute  out     kind    weed    price   busy    deposit late    right   cushion harm    shut    each    to      grace   if      or      and     not     " strA U ∧
  (∃ strV : Nat, vk_S 1 [184] [wordsB] (fun _ => strA) (fun _ => strV) (fun q => base ≤ q) U U.heap) ∧
  va_Z "java/lang/String" "COMPACT_STRINGS" "Z" (.int 1) (fun q => base ≤ q) U U.heap ∧ va_Zq "jdk/internal/util/Preconditions" "SIOOBE_FORMATTER" "Ljava/util/function/BiFunction;" (fun q => base ≤ q) U U.heap
/-- what stays during a method -/
def Fix (p : Program) (s : State) (m : MethodId) (args : Array Value) (c : Code) (cc : ByteArray) (nL : Nat) (own : String) (Ts : List Cond) (D : va_G) (dA : Nat → ClassId) (base : Nat) (ad0 : Nat → Nat → Nat) : Prop :=
  p.tables.exec = Jvm.exec ∧ c.code = cc ∧ c.maxLocals = nL ∧ s.vm.findClass own = some m.cls ∧ (∀ w ∈ Ts, w.before args s = true) ∧ (∀ w ∈ lwG, w ∈ Ts) ∧ va_K D clT (tysA dA) s ∧ base ≤ s.heap.size ∧ Ex base (ad0 98 0) s
def St (s : State) (nL : Nat) (D : va_G) (dA : Nat → ClassId) (base : Nat) (ad0 : Nat → Nat → Nat) (h0 : MH) (lo : List (Option MV)) (st : List MV) (h : MH) (H : Heap) (locs : List Loc) (cells slots : Nat) (ad : Nat → Nat → Nat) (ls : Array Slot) : Prop :=
  Sim D dA ad h H (fun q => base ≤ q) ∧ Wf h ∧ va_S (fun q => base ≤ q) s.heap H locs ∧ (ls.size = nL ∧ lv_wf ls ∧ ∀ i v, lk lo i = some v → ls[i]? = some (.val (rv ad v))) ∧ oks h st ∧ (∀ i v, lk lo i = some v → vok h v) ∧ (cells + hc h0 = hc h ∧ slots + hs h0 = hs h) ∧ (∀ t n, (n < hC h0 t ∨ t < 100) → ad t n = ad0 t n) ∧ (∀ t, hC h0 t ≤ hC h t)
def AtW (p : Program) (l : Launch) (e : Env) (R : Room) (s : State) (m : MethodId) (args : Array Value) (below : List Frame) (meth : Method) (c : Code) (Q : State → Prop) (nL : Nat) (D : va_G) (dA : Nat → ClassId) (base : Nat) (ad0 : Nat → Nat → Nat) (h0 : MH) (pc : Nat) (lo : List (Option MV)) (st : List MV) (h : MH) : Prop :=
  ∀ (H : Heap) (locs : List Loc) (cells slots : Nat) (ad : Nat → Nat → Nat) (ls : Array Slot), St s nL D dA base ad0 h0 lo st h H locs cells slots ad ls → W p l e R s m args below meth c H locs cells slots Q (F0 m pc ls (st.map (rv ad)))
theorem St.stk {s : State} {nL : Nat} {D : va_G} {dA : Nat → ClassId} {base : Nat} {ad0 : Nat → Nat → Nat} {h0 : MH} {lo : List (Option MV)} {st st' : List MV} {h : MH} {H : Heap} {locs : List Loc} {cells slots : Nat} {ad : Nat → Nat → Nat} {ls : Array Slot} (S : St s nL D dA base ad0 h0 lo st h H locs cells slots ad ls) (k : oks h st') : St s nL D dA base ad0 h0 lo st' h H locs cells slots ad ls :=
  ⟨S.1, S.2.1, S.2.2.1, S.2.2.2.1, k, S.2.2.2.2.2⟩
theorem St.ok {s : State} {nL : Nat} {D : va_G} {dA : Nat → ClassId} {base : Nat} {ad0 : Nat → Nat → Nat} {h0 : MH} {lo : List (Option MV)} {st : List MV} {h : MH} {H : Heap} {locs : List Loc} {cells slots : Nat} {ad : Nat → Nat → Nat} {ls : Array Slot} (S : St s nL D dA base ad0 h0 lo st h H locs cells slots ad ls) : oks h st := S.2.2.2.2.1

theorem lrem_mod (x y : Int64) : x - (x / y) * y = x % y := by
  apply Int64.toInt_inj.mp
  have h1 := Int64.le_toInt (x % y)
  have h2 := Int64.toInt_lt (x % y)
  rw [Int64.toInt_sub, Int64.toInt_mul, Int64.toInt_div, Int.bmod_mul_bmod, Int.sub_bmod_bmod, Int.mul_comm (x.toInt.tdiv y.toInt), ← Int.tmod_def, ← Int64.toInt_mod]
  exact Int.bmod_eq_of_le_mul_two (by omega) (by omega)
/-- the locals as pairs -/
def prs (ad : Nat → Nat → Nat) : Nat → List (Option MV) → List (Nat × Value)
  | _, [] => []
  | k, some v :: r => (k, rv ad v) :: prs ad (k + 1) r
  | k, none :: r => prs ad (k + 1) r
theorem prs_in {ad : Nat → Nat → Nat} : ∀ {lo : List (Option MV)} {k i : Nat} {v : MV}, lk lo i = some v → (k + i, rv ad v) ∈ prs ad k lo
  | [], _, _, _, h => by simp [lk] at h
  | x :: r, k, 0, v, h => by
    have h : x = some v := h
    subst h
    exact List.mem_cons_self
  | x :: r, k, i + 1, v, h => by
    have h : lk r i = some v := h
    have q := prs_in (ad := ad) (k := k + 1) h
    rw [show k + (i + 1) = k + 1 + i by omega]
    cases x with
    | none => exact q
    | some w => exact List.mem_cons_of_mem _ q
theorem prs_of {ad : Nat → Nat → Nat} : ∀ {lo : List (Option MV)} {k : Nat} {q : Nat × Value}, q ∈ prs ad k lo → ∃ i v, q = (k + i, rv ad v) ∧ lk lo i = some v
  | [], _, _, h => by simp [prs] at h
  | none :: r, k, q, h => by
    obtain ⟨i, v, e, hv⟩ := prs_of (lo := r) (k := k + 1) h
    exact ⟨i + 1, v, by rw [e, show k + (i + 1) = k + 1 + i by omega], hv⟩
  | some w :: r, k, q, h => by
    rcases List.mem_cons.mp h with h | h
    · exact ⟨0, w, h, rfl⟩
    · obtain ⟨i, v, e, hv⟩ := prs_of (lo := r) (k := k + 1) h
      exact ⟨i + 1, v, by rw [e, show k + (i + 1) = k + 1 + i by omega], hv⟩
theorem lk_st1 : ∀ {lo : List (Option MV)} {a i : Nat} {v u : MV}, lk (st1 lo a v) i = some u → (i = a ∧ u = v) ∨ (i ≠ a ∧ lk lo i = some u ∧ ¬ (i + 1 = a ∧ isL (some u) = true))
  | [], a, i, v, u, h => by simp [st1, lk] at h
  | x :: r, 0, 0, v, u, h => by
    have h : some v = some u := h
    exact Or.inl ⟨rfl, (Option.some.inj h).symm⟩
  | x :: r, 0, i + 1, v, u, h => by
    have h : lk r i = some u := h
    exact Or.inr ⟨by omega, h, by omega⟩
  | x :: r, a + 1, 0, v, u, h => by
    have h : cond (Nat.beq a 0 && isL x) none x = some u := h
    refine Or.inr ⟨by omega, ?_, ?_⟩
    · cases q : (Nat.beq a 0 && isL x) with
      | true => rw [q] at h; cases h
      | false => rw [q] at h; exact h
    · intro z
      cases q : (Nat.beq a 0 && isL x) with
      | true => rw [q] at h; cases h
      | false =>
        rw [q] at h
        have h : x = some u := h
        rw [h, z.2] at q
        have : a = 0 := by omega
        subst this
        simp at q
  | x :: r, a + 1, i + 1, v, u, h => by
    have h : lk (st1 r a v) i = some u := h
    rcases lk_st1 h with ⟨h1, h2⟩ | ⟨h1, h2, h3⟩
    · exact Or.inl ⟨by omega, h2⟩
    · exact Or.inr ⟨by omega, h2, fun z => h3 ⟨by omega, z.2⟩⟩
theorem lk_st2 : ∀ {lo : List (Option MV)} {a i : Nat} {v u : MV}, lk (st2 lo a v) i = some u → (i = a ∧ u = v) ∨ (i ≠ a ∧ i ≠ a + 1 ∧ lk lo i = some u ∧ ¬ (i + 1 = a ∧ isL (some u) = true))
  | [], a, i, v, u, h => by simp [st2, lk] at h
  | x :: [], 0, i, v, u, h => by
    cases i with
    | zero => simp [st2, lk] at h
    | succ i => simp [st2, lk] at h
  | x :: y :: r, 0, 0, v, u, h => by
    have h : some v = some u := h
    exact Or.inl ⟨rfl, (Option.some.inj h).symm⟩
  | x :: y :: r, 0, 1, v, u, h => by
    have h : (none : Option MV) = some u := h
    cases h
  | x :: y :: r, 0, i + 2, v, u, h => by
    have h : lk r i = some u := h
    exact Or.inr ⟨by omega, by omega, h, by omega⟩
  | x :: r, a + 1, 0, v, u, h => by
    have h : cond (Nat.beq a 0 && isL x) none x = some u := by
      cases r <;> exact h
    refine Or.inr ⟨by omega, by omega, ?_, ?_⟩
    · cases q : (Nat.beq a 0 && isL x) with
      | true => rw [q] at h; cases h
      | false => rw [q] at h; exact h
    · intro z
      cases q : (Nat.beq a 0 && isL x) with
      | true => rw [q] at h; cases h
      | false =>
        rw [q] at h
        have h : x = some u := h
        rw [h, z.2] at q
        have : a = 0 := by omega
        subst this
        simp at q
  | x :: r, a + 1, i + 1, v, u, h => by
    have h : lk (st2 r a v) i = some u := by
      cases r <;> exact h
    rcases lk_st2 h with ⟨h1, h2⟩ | ⟨h1, h2, h3, h4⟩
    · exact Or.inl ⟨by omega, h2⟩
    · exact Or.inr ⟨by omega, by omega, h3, fun z => h4 ⟨by omega, z.2⟩⟩
theorem lok1 {h : MH} {lo : List (Option MV)} {a : Nat} {v : MV} (k : ∀ i u, lk lo i = some u → vok h u) (hv : vok h v) : ∀ i u, lk (st1 lo a v) i = some u → vok h u := by
  intro i u hu
  rcases lk_st1 hu with z | z
  · rw [z.2]; exact hv
  · exact k i u z.2.1
theorem lok2 {h : MH} {lo : List (Option MV)} {a : Nat} {v : MV} (k : ∀ i u, lk lo i = some u → vok h u) (hv : vok h v) : ∀ i u, lk (st2 lo a v) i = some u → vok h u := by
  intro i u hu
  rcases lk_st2 hu with z | z
  · rw [z.2]; exact hv
  · exact k i u z.2.2.1
theorem cat_isL {ad : Nat → Nat → Nat} {u : MV} (h : (rv ad u).category = 2) : isL (some u) = true := by
  rcases u with x | x | x | x | x
  · simp [rv, Value.category] at h
  · rfl
  · simp [rv, Value.category] at h
  · simp [rv, Value.category] at h
  · simp [rv, Value.category] at h
def locOk (nL : Nat) (ad : Nat → Nat → Nat) (lo : List (Option MV)) (ls : Array Slot) : Prop := ls.size = nL ∧ lv_wf ls ∧ ∀ i v, lk lo i = some v → ls[i]? = some (.val (rv ad v))
theorem locOk.has {nL : Nat} {ad : Nat → Nat → Nat} {lo : List (Option MV)} {ls : Array Slot} (h : locOk nL ad lo ls) : lv_has ls nL (prs ad 0 lo) := by
  refine ⟨h.1, h.2.1, fun q hq => ?_⟩
  obtain ⟨i, v, rfl, hv⟩ := prs_of hq
  simp only [Nat.zero_add]
  exact h.2.2 i v hv
theorem locOk.st1 {nL : Nat} {ad : Nat → Nat → Nat} {lo : List (Option MV)} {ls ls' : Array Slot} {a : Nat} {v : MV} (h : lv_has ls' nL ((a, rv ad v) :: (prs ad 0 lo).filter (fun q => !(q.1 == a) && !(q.1 + 1 == a && q.2.category == 2)))) : locOk nL ad (st1 lo a v) ls' := by
  refine ⟨h.1, h.2.1, fun i u hu => ?_⟩
  rcases lk_st1 hu with ⟨rfl, rfl⟩ | ⟨h1, h2, h3⟩
  · exact h.2.2 _ List.mem_cons_self
  · refine h.2.2 (i, rv ad u) (List.mem_cons_of_mem _ (List.mem_filter.mpr ⟨by have := prs_in (ad := ad) (k := 0) h2; rwa [Nat.zero_add] at this, ?_⟩))
    have e1 : (i == a) = false := by simpa using h1
    by_cases e2 : i + 1 = a
    · have e3 : ((rv ad u).category == 2) = false := by
        simp only [beq_eq_false_iff_ne, ne_eq]
        exact fun z => h3 ⟨e2, cat_isL z⟩
      simp [e1, e3]
    · simp [e1, e2]
theorem locOk.st2 {nL : Nat} {ad : Nat → Nat → Nat} {lo : List (Option MV)} {ls ls' : Array Slot} {a : Nat} {v : MV} (h : lv_has ls' nL ((a, rv ad v) :: (prs ad 0 lo).filter (fun q => !(q.1 == a) && (!(q.1 == a + 1) && !(q.1 + 1 == a && q.2.category == 2))))) : locOk nL ad (st2 lo a v) ls' := by
  refine ⟨h.1, h.2.1, fun i u hu => ?_⟩
  rcases lk_st2 hu with ⟨rfl, rfl⟩ | ⟨h1, h1', h2, h3⟩
  · exact h.2.2 _ List.mem_cons_self
  · refine h.2.2 (i, rv ad u) (List.mem_cons_of_mem _ (List.mem_filter.mpr ⟨by have := prs_in (ad := ad) (k := 0) h2; rwa [Nat.zero_add] at this, ?_⟩))
    have e1 : (i == a) = false := by simpa using h1
    have e1' : (i == a + 1) = false := by simpa using h1'
    by_cases e2 : i + 1 = a
    · have e3 : ((rv ad u).category == 2) = false := by
        simp only [beq_eq_false_iff_ne, ne_eq]
        exact fun z => h3 ⟨e2, cat_isL z⟩
      simp [e1, e1', e3]
    · simp [e1, e1', e2]
theorem s_iadd {p : Program} {l : Launch} {e : Env} {R : Room} {s : State} {m : MethodId} {args : Array Value} {below : List Frame} {meth : Method} {c : Code} {Q : State → Prop} {cc : ByteArray} {nL : Nat} {own : String} {Ts : List Cond} {D : va_G} {dA : Nat → ClassId} {base : Nat} {ad0 : Nat → Nat → Nat} {h0 : MH} (F : Fix p s m args c cc nL own Ts D dA base ad0) {pc : Nat} {lo : List (Option MV)} {r : List MV} {h : MH} {x y : Int32} (hd : decode cc pc = .ok (.iadd, 1))  (k : AtW p l e R s m args below meth c Q nL D dA base ad0 h0 (pc + 1) (lo) (vI (x + y) :: r) (h)) : AtW p l e R s m args below meth c Q nL D dA base ad0 h0 (pc) (lo) (vI y :: vI x :: r) (h) := by
  intro H locs cells slots ad ls S
  exact lv_iadd F.1 F.2.1 hd  (k H locs cells slots ad ls (S.stk (⟨trivial, S.ok.2.2⟩)))
theorem s_isub {p : Program} {l : Launch} {e : Env} {R : Room} {s : State} {m : MethodId} {args : Array Value} {below : List Frame} {meth : Method} {c : Code} {Q : State → Prop} {cc : ByteArray} {nL : Nat} {own : String} {Ts : List Cond} {D : va_G} {dA : Nat → ClassId} {base : Nat} {ad0 : Nat → Nat → Nat} {h0 : MH} (F : Fix p s m args c cc nL own Ts D dA base ad0) {pc : Nat} {lo : List (Option MV)} {r : List MV} {h : MH} {x y : Int32} (hd : decode cc pc = .ok (.isub, 1))  (k : AtW p l e R s m args below meth c Q nL D dA base ad0 h0 (pc + 1) (lo) (vI (x - y) :: r) (h)) : AtW p l e R s m args below meth c Q nL D dA base ad0 h0 (pc) (lo) (vI y :: vI x :: r) (h) := by
  intro H locs cells slots ad ls S
  exact lv_isub F.1 F.2.1 hd  (k H locs cells slots ad ls (S.stk (⟨trivial, S.ok.2.2⟩)))
theorem s_imul {p : Program} {l : Launch} {e : Env} {R : Room} {s : State} {m : MethodId} {args : Array Value} {below : List Frame} {meth : Method} {c : Code} {Q : State → Prop} {cc : ByteArray} {nL : Nat} {own : String} {Ts : List Cond} {D : va_G} {dA : Nat → ClassId} {base : Nat} {ad0 : Nat → Nat → Nat} {h0 : MH} (F : Fix p s m args c cc nL own Ts D dA base ad0) {pc : Nat} {lo : List (Option MV)} {r : List MV} {h : MH} {x y : Int32} (hd : decode cc pc = .ok (.imul, 1))  (k : AtW p l e R s m args below meth c Q nL D dA base ad0 h0 (pc + 1) (lo) (vI (x * y) :: r) (h)) : AtW p l e R s m args below meth c Q nL D dA base ad0 h0 (pc) (lo) (vI y :: vI x :: r) (h) := by
  intro H locs cells slots ad ls S
  exact lv_imul F.1 F.2.1 hd  (k H locs cells slots ad ls (S.stk (⟨trivial, S.ok.2.2⟩)))
theorem s_iand {p : Program} {l : Launch} {e : Env} {R : Room} {s : State} {m : MethodId} {args : Array Value} {below : List Frame} {meth : Method} {c : Code} {Q : State → Prop} {cc : ByteArray} {nL : Nat} {own : String} {Ts : List Cond} {D : va_G} {dA : Nat → ClassId} {base : Nat} {ad0 : Nat → Nat → Nat} {h0 : MH} (F : Fix p s m args c cc nL own Ts D dA base ad0) {pc : Nat} {lo : List (Option MV)} {r : List MV} {h : MH} {x y : Int32} (hd : decode cc pc = .ok (.iand, 1))  (k : AtW p l e R s m args below meth c Q nL D dA base ad0 h0 (pc + 1) (lo) (vI (x &&& y) :: r) (h)) : AtW p l e R s m args below meth c Q nL D dA base ad0 h0 (pc) (lo) (vI y :: vI x :: r) (h) := by
  intro H locs cells slots ad ls S
  exact lv_iand F.1 F.2.1 hd  (k H locs cells slots ad ls (S.stk (⟨trivial, S.ok.2.2⟩)))
theorem s_ior {p : Program} {l : Launch} {e : Env} {R : Room} {s : State} {m : MethodId} {args : Array Value} {below : List Frame} {meth : Method} {c : Code} {Q : State → Prop} {cc : ByteArray} {nL : Nat} {own : String} {Ts : List Cond} {D : va_G} {dA : Nat → ClassId} {base : Nat} {ad0 : Nat → Nat → Nat} {h0 : MH} (F : Fix p s m args c cc nL own Ts D dA base ad0) {pc : Nat} {lo : List (Option MV)} {r : List MV} {h : MH} {x y : Int32} (hd : decode cc pc = .ok (.ior, 1))  (k : AtW p l e R s m args below meth c Q nL D dA base ad0 h0 (pc + 1) (lo) (vI (x ||| y) :: r) (h)) : AtW p l e R s m args below meth c Q nL D dA base ad0 h0 (pc) (lo) (vI y :: vI x :: r) (h) := by
  intro H locs cells slots ad ls S
  exact lv_ior F.1 F.2.1 hd  (k H locs cells slots ad ls (S.stk (⟨trivial, S.ok.2.2⟩)))
theorem s_ixor {p : Program} {l : Launch} {e : Env} {R : Room} {s : State} {m : MethodId} {args : Array Value} {below : List Frame} {meth : Method} {c : Code} {Q : State → Prop} {cc : ByteArray} {nL : Nat} {own : String} {Ts : List Cond} {D : va_G} {dA : Nat → ClassId} {base : Nat} {ad0 : Nat → Nat → Nat} {h0 : MH} (F : Fix p s m args c cc nL own Ts D dA base ad0) {pc : Nat} {lo : List (Option MV)} {r : List MV} {h : MH} {x y : Int32} (hd : decode cc pc = .ok (.ixor, 1))  (k : AtW p l e R s m args below meth c Q nL D dA base ad0 h0 (pc + 1) (lo) (vI (x ^^^ y) :: r) (h)) : AtW p l e R s m args below meth c Q nL D dA base ad0 h0 (pc) (lo) (vI y :: vI x :: r) (h) := by
  intro H locs cells slots ad ls S
  exact lv_ixor F.1 F.2.1 hd  (k H locs cells slots ad ls (S.stk (⟨trivial, S.ok.2.2⟩)))
theorem s_ishl {p : Program} {l : Launch} {e : Env} {R : Room} {s : State} {m : MethodId} {args : Array Value} {below : List Frame} {meth : Method} {c : Code} {Q : State → Prop} {cc : ByteArray} {nL : Nat} {own : String} {Ts : List Cond} {D : va_G} {dA : Nat → ClassId} {base : Nat} {ad0 : Nat → Nat → Nat} {h0 : MH} (F : Fix p s m args c cc nL own Ts D dA base ad0) {pc : Nat} {lo : List (Option MV)} {r : List MV} {h : MH} {x y : Int32} (hd : decode cc pc = .ok (.ishl, 1))  (k : AtW p l e R s m args below meth c Q nL D dA base ad0 h0 (pc + 1) (lo) (vI (x <<< (y &&& 31)) :: r) (h)) : AtW p l e R s m args below meth c Q nL D dA base ad0 h0 (pc) (lo) (vI y :: vI x :: r) (h) := by
  intro H locs cells slots ad ls S
  exact lv_ishl F.1 F.2.1 hd  (k H locs cells slots ad ls (S.stk (⟨trivial, S.ok.2.2⟩)))
theorem s_ishr {p : Program} {l : Launch} {e : Env} {R : Room} {s : State} {m : MethodId} {args : Array Value} {below : List Frame} {meth : Method} {c : Code} {Q : State → Prop} {cc : ByteArray} {nL : Nat} {own : String} {Ts : List Cond} {D : va_G} {dA : Nat → ClassId} {base : Nat} {ad0 : Nat → Nat → Nat} {h0 : MH} (F : Fix p s m args c cc nL own Ts D dA base ad0) {pc : Nat} {lo : List (Option MV)} {r : List MV} {h : MH} {x y : Int32} (hd : decode cc pc = .ok (.ishr, 1))  (k : AtW p l e R s m args below meth c Q nL D dA base ad0 h0 (pc + 1) (lo) (vI (x >>> (y &&& 31)) :: r) (h)) : AtW p l e R s m args below meth c Q nL D dA base ad0 h0 (pc) (lo) (vI y :: vI x :: r) (h) := by
  intro H locs cells slots ad ls S
  exact lv_ishr F.1 F.2.1 hd  (k H locs cells slots ad ls (S.stk (⟨trivial, S.ok.2.2⟩)))
theorem s_iushr {p : Program} {l : Launch} {e : Env} {R : Room} {s : State} {m : MethodId} {args : Array Value} {below : List Frame} {meth : Method} {c : Code} {Q : State → Prop} {cc : ByteArray} {nL : Nat} {own : String} {Ts : List Cond} {D : va_G} {dA : Nat → ClassId} {base : Nat} {ad0 : Nat → Nat → Nat} {h0 : MH} (F : Fix p s m args c cc nL own Ts D dA base ad0) {pc : Nat} {lo : List (Option MV)} {r : List MV} {h : MH} {x y : Int32} (hd : decode cc pc = .ok (.iushr, 1))  (k : AtW p l e R s m args below meth c Q nL D dA base ad0 h0 (pc + 1) (lo) (vI ((x.toUInt32 >>> (y.toUInt32 &&& Int32.toUInt32 31)).toInt32) :: r) (h)) : AtW p l e R s m args below meth c Q nL D dA base ad0 h0 (pc) (lo) (vI y :: vI x :: r) (h) := by
  intro H locs cells slots ad ls S
  exact lv_iushr F.1 F.2.1 hd rfl (k H locs cells slots ad ls (S.stk (⟨trivial, S.ok.2.2⟩)))
theorem s_idiv {p : Program} {l : Launch} {e : Env} {R : Room} {s : State} {m : MethodId} {args : Array Value} {below : List Frame} {meth : Method} {c : Code} {Q : State → Prop} {cc : ByteArray} {nL : Nat} {own : String} {Ts : List Cond} {D : va_G} {dA : Nat → ClassId} {base : Nat} {ad0 : Nat → Nat → Nat} {h0 : MH} (F : Fix p s m args c cc nL own Ts D dA base ad0) {pc : Nat} {lo : List (Option MV)} {r : List MV} {h : MH} {x y : Int32} (hd : decode cc pc = .ok (.idiv, 1)) (hne : ¬ y = 0) (k : AtW p l e R s m args below meth c Q nL D dA base ad0 h0 (pc + 1) (lo) (vI (x / y) :: r) (h)) : AtW p l e R s m args below meth c Q nL D dA base ad0 h0 (pc) (lo) (vI y :: vI x :: r) (h) := by
  intro H locs cells slots ad ls S
  exact lv_idiv F.1 F.2.1 hd hne (k H locs cells slots ad ls (S.stk (⟨trivial, S.ok.2.2⟩)))
theorem s_irem {p : Program} {l : Launch} {e : Env} {R : Room} {s : State} {m : MethodId} {args : Array Value} {below : List Frame} {meth : Method} {c : Code} {Q : State → Prop} {cc : ByteArray} {nL : Nat} {own : String} {Ts : List Cond} {D : va_G} {dA : Nat → ClassId} {base : Nat} {ad0 : Nat → Nat → Nat} {h0 : MH} (F : Fix p s m args c cc nL own Ts D dA base ad0) {pc : Nat} {lo : List (Option MV)} {r : List MV} {h : MH} {x y : Int32} (hd : decode cc pc = .ok (.irem, 1)) (hne : ¬ y = 0) (k : AtW p l e R s m args below meth c Q nL D dA base ad0 h0 (pc + 1) (lo) (vI (x % y) :: r) (h)) : AtW p l e R s m args below meth c Q nL D dA base ad0 h0 (pc) (lo) (vI y :: vI x :: r) (h) := by
  intro H locs cells slots ad ls S
  exact lv_irem F.1 F.2.1 hd hne (by rw [irem_eq_mod]; exact k H locs cells slots ad ls (S.stk ⟨trivial, S.ok.2.2⟩))
theorem s_ladd {p : Program} {l : Launch} {e : Env} {R : Room} {s : State} {m : MethodId} {args : Array Value} {below : List Frame} {meth : Method} {c : Code} {Q : State → Prop} {cc : ByteArray} {nL : Nat} {own : String} {Ts : List Cond} {D : va_G} {dA : Nat → ClassId} {base : Nat} {ad0 : Nat → Nat → Nat} {h0 : MH} (F : Fix p s m args c cc nL own Ts D dA base ad0) {pc : Nat} {lo : List (Option MV)} {r : List MV} {h : MH} {x y : Int64} (hd : decode cc pc = .ok (.ladd, 1))  (k : AtW p l e R s m args below meth c Q nL D dA base ad0 h0 (pc + 1) (lo) (vL (x + y) :: r) (h)) : AtW p l e R s m args below meth c Q nL D dA base ad0 h0 (pc) (lo) (vL y :: vL x :: r) (h) := by
  intro H locs cells slots ad ls S
  exact lv_ladd F.1 F.2.1 hd  (k H locs cells slots ad ls (S.stk (⟨trivial, S.ok.2.2⟩)))
theorem s_lmul {p : Program} {l : Launch} {e : Env} {R : Room} {s : State} {m : MethodId} {args : Array Value} {below : List Frame} {meth : Method} {c : Code} {Q : State → Prop} {cc : ByteArray} {nL : Nat} {own : String} {Ts : List Cond} {D : va_G} {dA : Nat → ClassId} {base : Nat} {ad0 : Nat → Nat → Nat} {h0 : MH} (F : Fix p s m args c cc nL own Ts D dA base ad0) {pc : Nat} {lo : List (Option MV)} {r : List MV} {h : MH} {x y : Int64} (hd : decode cc pc = .ok (.lmul, 1))  (k : AtW p l e R s m args below meth c Q nL D dA base ad0 h0 (pc + 1) (lo) (vL (x * y) :: r) (h)) : AtW p l e R s m args below meth c Q nL D dA base ad0 h0 (pc) (lo) (vL y :: vL x :: r) (h) := by
  intro H locs cells slots ad ls S
  exact lv_lmul F.1 F.2.1 hd  (k H locs cells slots ad ls (S.stk (⟨trivial, S.ok.2.2⟩)))
theorem s_land {p : Program} {l : Launch} {e : Env} {R : Room} {s : State} {m : MethodId} {args : Array Value} {below : List Frame} {meth : Method} {c : Code} {Q : State → Prop} {cc : ByteArray} {nL : Nat} {own : String} {Ts : List Cond} {D : va_G} {dA : Nat → ClassId} {base : Nat} {ad0 : Nat → Nat → Nat} {h0 : MH} (F : Fix p s m args c cc nL own Ts D dA base ad0) {pc : Nat} {lo : List (Option MV)} {r : List MV} {h : MH} {x y : Int64} (hd : decode cc pc = .ok (.land, 1))  (k : AtW p l e R s m args below meth c Q nL D dA base ad0 h0 (pc + 1) (lo) (vL (x &&& y) :: r) (h)) : AtW p l e R s m args below meth c Q nL D dA base ad0 h0 (pc) (lo) (vL y :: vL x :: r) (h) := by
  intro H locs cells slots ad ls S
  exact lv_land F.1 F.2.1 hd  (k H locs cells slots ad ls (S.stk (⟨trivial, S.ok.2.2⟩)))
theorem s_lor {p : Program} {l : Launch} {e : Env} {R : Room} {s : State} {m : MethodId} {args : Array Value} {below : List Frame} {meth : Method} {c : Code} {Q : State → Prop} {cc : ByteArray} {nL : Nat} {own : String} {Ts : List Cond} {D : va_G} {dA : Nat → ClassId} {base : Nat} {ad0 : Nat → Nat → Nat} {h0 : MH} (F : Fix p s m args c cc nL own Ts D dA base ad0) {pc : Nat} {lo : List (Option MV)} {r : List MV} {h : MH} {x y : Int64} (hd : decode cc pc = .ok (.lor, 1))  (k : AtW p l e R s m args below meth c Q nL D dA base ad0 h0 (pc + 1) (lo) (vL (x ||| y) :: r) (h)) : AtW p l e R s m args below meth c Q nL D dA base ad0 h0 (pc) (lo) (vL y :: vL x :: r) (h) := by
  intro H locs cells slots ad ls S
  exact lv_lor F.1 F.2.1 hd  (k H locs cells slots ad ls (S.stk (⟨trivial, S.ok.2.2⟩)))
theorem s_lxor {p : Program} {l : Launch} {e : Env} {R : Room} {s : State} {m : MethodId} {args : Array Value} {below : List Frame} {meth : Method} {c : Code} {Q : State → Prop} {cc : ByteArray} {nL : Nat} {own : String} {Ts : List Cond} {D : va_G} {dA : Nat → ClassId} {base : Nat} {ad0 : Nat → Nat → Nat} {h0 : MH} (F : Fix p s m args c cc nL own Ts D dA base ad0) {pc : Nat} {lo : List (Option MV)} {r : List MV} {h : MH} {x y : Int64} (hd : decode cc pc = .ok (.lxor, 1))  (k : AtW p l e R s m args below meth c Q nL D dA base ad0 h0 (pc + 1) (lo) (vL (x ^^^ y) :: r) (h)) : AtW p l e R s m args below meth c Q nL D dA base ad0 h0 (pc) (lo) (vL y :: vL x :: r) (h) := by
  intro H locs cells slots ad ls S
  exact lv_lxor F.1 F.2.1 hd  (k H locs cells slots ad ls (S.stk (⟨trivial, S.ok.2.2⟩)))
theorem s_ldiv {p : Program} {l : Launch} {e : Env} {R : Room} {s : State} {m : MethodId} {args : Array Value} {below : List Frame} {meth : Method} {c : Code} {Q : State → Prop} {cc : ByteArray} {nL : Nat} {own : String} {Ts : List Cond} {D : va_G} {dA : Nat → ClassId} {base : Nat} {ad0 : Nat → Nat → Nat} {h0 : MH} (F : Fix p s m args c cc nL own Ts D dA base ad0) {pc : Nat} {lo : List (Option MV)} {r : List MV} {h : MH} {x y : Int64} (hd : decode cc pc = .ok (.ldiv, 1)) (hne : ¬ y = 0) (k : AtW p l e R s m args below meth c Q nL D dA base ad0 h0 (pc + 1) (lo) (vL (x / y) :: r) (h)) : AtW p l e R s m args below meth c Q nL D dA base ad0 h0 (pc) (lo) (vL y :: vL x :: r) (h) := by
  intro H locs cells slots ad ls S
  exact lv_ldiv F.1 F.2.1 hd hne (k H locs cells slots ad ls (S.stk (⟨trivial, S.ok.2.2⟩)))
theorem s_lrem {p : Program} {l : Launch} {e : Env} {R : Room} {s : State} {m : MethodId} {args : Array Value} {below : List Frame} {meth : Method} {c : Code} {Q : State → Prop} {cc : ByteArray} {nL : Nat} {own : String} {Ts : List Cond} {D : va_G} {dA : Nat → ClassId} {base : Nat} {ad0 : Nat → Nat → Nat} {h0 : MH} (F : Fix p s m args c cc nL own Ts D dA base ad0) {pc : Nat} {lo : List (Option MV)} {r : List MV} {h : MH} {x y : Int64} (hd : decode cc pc = .ok (.lrem, 1)) (hne : ¬ y = 0) (k : AtW p l e R s m args below meth c Q nL D dA base ad0 h0 (pc + 1) (lo) (vL (x % y) :: r) (h)) : AtW p l e R s m args below meth c Q nL D dA base ad0 h0 (pc) (lo) (vL y :: vL x :: r) (h) := by
  intro H locs cells slots ad ls S
  exact lv_lrem F.1 F.2.1 hd hne (by rw [lrem_mod]; exact k H locs cells slots ad ls (S.stk ⟨trivial, S.ok.2.2⟩))
theorem s_lshl {p : Program} {l : Launch} {e : Env} {R : Room} {s : State} {m : MethodId} {args : Array Value} {below : List Frame} {meth : Method} {c : Code} {Q : State → Prop} {cc : ByteArray} {nL : Nat} {own : String} {Ts : List Cond} {D : va_G} {dA : Nat → ClassId} {base : Nat} {ad0 : Nat → Nat → Nat} {h0 : MH} (F : Fix p s m args c cc nL own Ts D dA base ad0) {pc : Nat} {lo : List (Option MV)} {r : List MV} {h : MH} {x : Int64} {y : Int32} (hd : decode cc pc = .ok (.lshl, 1))  (k : AtW p l e R s m args below meth c Q nL D dA base ad0 h0 (pc + 1) (lo) (vL (x <<< (y.toInt64 &&& 63)) :: r) (h)) : AtW p l e R s m args below meth c Q nL D dA base ad0 h0 (pc) (lo) (vI y :: vL x :: r) (h) := by
  intro H locs cells slots ad ls S
  exact lv_lshl F.1 F.2.1 hd rfl (k H locs cells slots ad ls (S.stk (⟨trivial, S.ok.2.2⟩)))
theorem s_lushr {p : Program} {l : Launch} {e : Env} {R : Room} {s : State} {m : MethodId} {args : Array Value} {below : List Frame} {meth : Method} {c : Code} {Q : State → Prop} {cc : ByteArray} {nL : Nat} {own : String} {Ts : List Cond} {D : va_G} {dA : Nat → ClassId} {base : Nat} {ad0 : Nat → Nat → Nat} {h0 : MH} (F : Fix p s m args c cc nL own Ts D dA base ad0) {pc : Nat} {lo : List (Option MV)} {r : List MV} {h : MH} {x : Int64} {y : Int32} (hd : decode cc pc = .ok (.lushr, 1))  (k : AtW p l e R s m args below meth c Q nL D dA base ad0 h0 (pc + 1) (lo) (vL ((x.toUInt64 >>> (y.toInt64.toUInt64 &&& 63)).toInt64) :: r) (h)) : AtW p l e R s m args below meth c Q nL D dA base ad0 h0 (pc) (lo) (vI y :: vL x :: r) (h) := by
  intro H locs cells slots ad ls S
  exact lv_lushr F.1 F.2.1 hd rfl (k H locs cells slots ad ls (S.stk (⟨trivial, S.ok.2.2⟩)))
theorem s_lcmp {p : Program} {l : Launch} {e : Env} {R : Room} {s : State} {m : MethodId} {args : Array Value} {below : List Frame} {meth : Method} {c : Code} {Q : State → Prop} {cc : ByteArray} {nL : Nat} {own : String} {Ts : List Cond} {D : va_G} {dA : Nat → ClassId} {base : Nat} {ad0 : Nat → Nat → Nat} {h0 : MH} (F : Fix p s m args c cc nL own Ts D dA base ad0) {pc : Nat} {lo : List (Option MV)} {r : List MV} {h : MH} {x y : Int64} (hd : decode cc pc = .ok (.lcmp, 1))  (k : AtW p l e R s m args below meth c Q nL D dA base ad0 h0 (pc + 1) (lo) (vI (lg_cmp x y) :: r) (h)) : AtW p l e R s m args below meth c Q nL D dA base ad0 h0 (pc) (lo) (vL y :: vL x :: r) (h) := by
  intro H locs cells slots ad ls S
  exact W.lcmp F.1 F.2.1 hd  (k H locs cells slots ad ls (S.stk (⟨trivial, S.ok.2.2⟩)))
theorem s_ineg {p : Program} {l : Launch} {e : Env} {R : Room} {s : State} {m : MethodId} {args : Array Value} {below : List Frame} {meth : Method} {c : Code} {Q : State → Prop} {cc : ByteArray} {nL : Nat} {own : String} {Ts : List Cond} {D : va_G} {dA : Nat → ClassId} {base : Nat} {ad0 : Nat → Nat → Nat} {h0 : MH} (F : Fix p s m args c cc nL own Ts D dA base ad0) {pc : Nat} {lo : List (Option MV)} {r : List MV} {h : MH} {x : Int32} (hd : decode cc pc = .ok (.ineg, 1))  (k : AtW p l e R s m args below meth c Q nL D dA base ad0 h0 (pc + 1) (lo) (vI (-x) :: r) (h)) : AtW p l e R s m args below meth c Q nL D dA base ad0 h0 (pc) (lo) (vI x :: r) (h) := by
  intro H locs cells slots ad ls S
  exact lv_ineg F.1 F.2.1 hd  (k H locs cells slots ad ls (S.stk (⟨trivial, S.ok.2⟩)))
theorem s_lneg {p : Program} {l : Launch} {e : Env} {R : Room} {s : State} {m : MethodId} {args : Array Value} {below : List Frame} {meth : Method} {c : Code} {Q : State → Prop} {cc : ByteArray} {nL : Nat} {own : String} {Ts : List Cond} {D : va_G} {dA : Nat → ClassId} {base : Nat} {ad0 : Nat → Nat → Nat} {h0 : MH} (F : Fix p s m args c cc nL own Ts D dA base ad0) {pc : Nat} {lo : List (Option MV)} {r : List MV} {h : MH} {x : Int64} (hd : decode cc pc = .ok (.lneg, 1))  (k : AtW p l e R s m args below meth c Q nL D dA base ad0 h0 (pc + 1) (lo) (vL (-x) :: r) (h)) : AtW p l e R s m args below meth c Q nL D dA base ad0 h0 (pc) (lo) (vL x :: r) (h) := by
  intro H locs cells slots ad ls S
  exact lv_lneg F.1 F.2.1 hd  (k H locs cells slots ad ls (S.stk (⟨trivial, S.ok.2⟩)))
theorem s_i2l {p : Program} {l : Launch} {e : Env} {R : Room} {s : State} {m : MethodId} {args : Array Value} {below : List Frame} {meth : Method} {c : Code} {Q : State → Prop} {cc : ByteArray} {nL : Nat} {own : String} {Ts : List Cond} {D : va_G} {dA : Nat → ClassId} {base : Nat} {ad0 : Nat → Nat → Nat} {h0 : MH} (F : Fix p s m args c cc nL own Ts D dA base ad0) {pc : Nat} {lo : List (Option MV)} {r : List MV} {h : MH} {x : Int32} (hd : decode cc pc = .ok (.i2l, 1))  (k : AtW p l e R s m args below meth c Q nL D dA base ad0 h0 (pc + 1) (lo) (vL x.toInt64 :: r) (h)) : AtW p l e R s m args below meth c Q nL D dA base ad0 h0 (pc) (lo) (vI x :: r) (h) := by
  intro H locs cells slots ad ls S
  exact lv_i2l F.1 F.2.1 hd rfl (k H locs cells slots ad ls (S.stk (⟨trivial, S.ok.2⟩)))
theorem s_i2b {p : Program} {l : Launch} {e : Env} {R : Room} {s : State} {m : MethodId} {args : Array Value} {below : List Frame} {meth : Method} {c : Code} {Q : State → Prop} {cc : ByteArray} {nL : Nat} {own : String} {Ts : List Cond} {D : va_G} {dA : Nat → ClassId} {base : Nat} {ad0 : Nat → Nat → Nat} {h0 : MH} (F : Fix p s m args c cc nL own Ts D dA base ad0) {pc : Nat} {lo : List (Option MV)} {r : List MV} {h : MH} {x : Int32} (hd : decode cc pc = .ok (.i2b, 1))  (k : AtW p l e R s m args below meth c Q nL D dA base ad0 h0 (pc + 1) (lo) (vI x.toInt8.toInt32 :: r) (h)) : AtW p l e R s m args below meth c Q nL D dA base ad0 h0 (pc) (lo) (vI x :: r) (h) := by
  intro H locs cells slots ad ls S
  exact lv_i2b F.1 F.2.1 hd rfl (k H locs cells slots ad ls (S.stk (⟨trivial, S.ok.2⟩)))
theorem s_l2i {p : Program} {l : Launch} {e : Env} {R : Room} {s : State} {m : MethodId} {args : Array Value} {below : List Frame} {meth : Method} {c : Code} {Q : State → Prop} {cc : ByteArray} {nL : Nat} {own : String} {Ts : List Cond} {D : va_G} {dA : Nat → ClassId} {base : Nat} {ad0 : Nat → Nat → Nat} {h0 : MH} (F : Fix p s m args c cc nL own Ts D dA base ad0) {pc : Nat} {lo : List (Option MV)} {r : List MV} {h : MH} {x : Int64} (hd : decode cc pc = .ok (.l2i, 1))  (k : AtW p l e R s m args below meth c Q nL D dA base ad0 h0 (pc + 1) (lo) (vI x.toInt32 :: r) (h)) : AtW p l e R s m args below meth c Q nL D dA base ad0 h0 (pc) (lo) (vL x :: r) (h) := by
  intro H locs cells slots ad ls S
  exact lv_l2i F.1 F.2.1 hd rfl (k H locs cells slots ad ls (S.stk (⟨trivial, S.ok.2⟩)))
theorem s_pop {p : Program} {l : Launch} {e : Env} {R : Room} {s : State} {m : MethodId} {args : Array Value} {below : List Frame} {meth : Method} {c : Code} {Q : State → Prop} {cc : ByteArray} {nL : Nat} {own : String} {Ts : List Cond} {D : va_G} {dA : Nat → ClassId} {base : Nat} {ad0 : Nat → Nat → Nat} {h0 : MH} (F : Fix p s m args c cc nL own Ts D dA base ad0) {pc : Nat} {lo : List (Option MV)} {r : List MV} {h : MH} {x : Int32} (hd : decode cc pc = .ok (.pop, 1))  (k : AtW p l e R s m args below meth c Q nL D dA base ad0 h0 (pc + 1) (lo) (r) (h)) : AtW p l e R s m args below meth c Q nL D dA base ad0 h0 (pc) (lo) (vI x :: r) (h) := by
  intro H locs cells slots ad ls S
  exact lv_pop F.1 F.2.1 hd rfl (k H locs cells slots ad ls (S.stk (S.ok.2)))
theorem s_dupI {p : Program} {l : Launch} {e : Env} {R : Room} {s : State} {m : MethodId} {args : Array Value} {below : List Frame} {meth : Method} {c : Code} {Q : State → Prop} {cc : ByteArray} {nL : Nat} {own : String} {Ts : List Cond} {D : va_G} {dA : Nat → ClassId} {base : Nat} {ad0 : Nat → Nat → Nat} {h0 : MH} (F : Fix p s m args c cc nL own Ts D dA base ad0) {pc : Nat} {lo : List (Option MV)} {r : List MV} {h : MH} {x : Int32} (hd : decode cc pc = .ok (.dup, 1))  (k : AtW p l e R s m args below meth c Q nL D dA base ad0 h0 (pc + 1) (lo) (vI x :: vI x :: r) (h)) : AtW p l e R s m args below meth c Q nL D dA base ad0 h0 (pc) (lo) (vI x :: r) (h) := by
  intro H locs cells slots ad ls S
  exact lv_dup F.1 F.2.1 hd rfl (k H locs cells slots ad ls (S.stk (⟨trivial, S.ok⟩)))
theorem s_dupR {p : Program} {l : Launch} {e : Env} {R : Room} {s : State} {m : MethodId} {args : Array Value} {below : List Frame} {meth : Method} {c : Code} {Q : State → Prop} {cc : ByteArray} {nL : Nat} {own : String} {Ts : List Cond} {D : va_G} {dA : Nat → ClassId} {base : Nat} {ad0 : Nat → Nat → Nat} {h0 : MH} (F : Fix p s m args c cc nL own Ts D dA base ad0) {pc : Nat} {lo : List (Option MV)} {r : List MV} {h : MH} {v : (Nat × Nat) ⊕ ((Nat × Nat) ⊕ Unit)} (hd : decode cc pc = .ok (.dup, 1))  (k : AtW p l e R s m args below meth c Q nL D dA base ad0 h0 (pc + 1) (lo) (.inr (.inr v) :: .inr (.inr v) :: r) (h)) : AtW p l e R s m args below meth c Q nL D dA base ad0 h0 (pc) (lo) (.inr (.inr v) :: r) (h) := by
  intro H locs cells slots ad ls S
  exact lv_dup F.1 F.2.1 hd (by rcases v with v | v | v <;> rfl) (k H locs cells slots ad ls (S.stk (⟨S.ok.1, S.ok⟩)))
theorem s_dup2 {p : Program} {l : Launch} {e : Env} {R : Room} {s : State} {m : MethodId} {args : Array Value} {below : List Frame} {meth : Method} {c : Code} {Q : State → Prop} {cc : ByteArray} {nL : Nat} {own : String} {Ts : List Cond} {D : va_G} {dA : Nat → ClassId} {base : Nat} {ad0 : Nat → Nat → Nat} {h0 : MH} (F : Fix p s m args c cc nL own Ts D dA base ad0) {pc : Nat} {lo : List (Option MV)} {r : List MV} {h : MH} {x : Int32} {v : (Nat × Nat) ⊕ ((Nat × Nat) ⊕ Unit)} (hd : decode cc pc = .ok (.dup2, 1))  (k : AtW p l e R s m args below meth c Q nL D dA base ad0 h0 (pc + 1) (lo) (vI x :: .inr (.inr v) :: vI x :: .inr (.inr v) :: r) (h)) : AtW p l e R s m args below meth c Q nL D dA base ad0 h0 (pc) (lo) (vI x :: .inr (.inr v) :: r) (h) := by
  intro H locs cells slots ad ls S
  exact lv_dup2_11 F.1 F.2.1 hd rfl (by rcases v with v | v | v <;> rfl) (k H locs cells slots ad ls (S.stk (⟨trivial, S.ok.2.1, S.ok⟩)))
theorem s_iconst {p : Program} {l : Launch} {e : Env} {R : Room} {s : State} {m : MethodId} {args : Array Value} {below : List Frame} {meth : Method} {c : Code} {Q : State → Prop} {cc : ByteArray} {nL : Nat} {own : String} {Ts : List Cond} {D : va_G} {dA : Nat → ClassId} {base : Nat} {ad0 : Nat → Nat → Nat} {h0 : MH} (F : Fix p s m args c cc nL own Ts D dA base ad0) {pc : Nat} {lo : List (Option MV)} {r : List MV} {h : MH} {n : Int} {v : Int32} (hd : decode cc pc = .ok (.iconst n, 1)) (hv : Int32.ofInt n = v) (k : AtW p l e R s m args below meth c Q nL D dA base ad0 h0 (pc + 1) (lo) (vI v :: r) (h)) : AtW p l e R s m args below meth c Q nL D dA base ad0 h0 (pc) (lo) (r) (h) := by
  intro H locs cells slots ad ls S
  exact lv_iconst F.1 F.2.1 hd hv (k H locs cells slots ad ls (S.stk (⟨trivial, S.ok⟩)))
theorem s_bipush {p : Program} {l : Launch} {e : Env} {R : Room} {s : State} {m : MethodId} {args : Array Value} {below : List Frame} {meth : Method} {c : Code} {Q : State → Prop} {cc : ByteArray} {nL : Nat} {own : String} {Ts : List Cond} {D : va_G} {dA : Nat → ClassId} {base : Nat} {ad0 : Nat → Nat → Nat} {h0 : MH} (F : Fix p s m args c cc nL own Ts D dA base ad0) {pc : Nat} {lo : List (Option MV)} {r : List MV} {h : MH} {n : Int} {v : Int32} (hd : decode cc pc = .ok (.bipush n, 2)) (hv : (Int8.ofInt n).toInt32 = v) (k : AtW p l e R s m args below meth c Q nL D dA base ad0 h0 (pc + 2) (lo) (vI v :: r) (h)) : AtW p l e R s m args below meth c Q nL D dA base ad0 h0 (pc) (lo) (r) (h) := by
  intro H locs cells slots ad ls S
  exact lv_bipush F.1 F.2.1 hd hv (k H locs cells slots ad ls (S.stk (⟨trivial, S.ok⟩)))
theorem s_sipush {p : Program} {l : Launch} {e : Env} {R : Room} {s : State} {m : MethodId} {args : Array Value} {below : List Frame} {meth : Method} {c : Code} {Q : State → Prop} {cc : ByteArray} {nL : Nat} {own : String} {Ts : List Cond} {D : va_G} {dA : Nat → ClassId} {base : Nat} {ad0 : Nat → Nat → Nat} {h0 : MH} (F : Fix p s m args c cc nL own Ts D dA base ad0) {pc : Nat} {lo : List (Option MV)} {r : List MV} {h : MH} {n : Int} {v : Int32} (hd : decode cc pc = .ok (.sipush n, 3)) (hv : (Int16.ofInt n).toInt32 = v) (k : AtW p l e R s m args below meth c Q nL D dA base ad0 h0 (pc + 3) (lo) (vI v :: r) (h)) : AtW p l e R s m args below meth c Q nL D dA base ad0 h0 (pc) (lo) (r) (h) := by
  intro H locs cells slots ad ls S
  exact lv_sipush F.1 F.2.1 hd hv (k H locs cells slots ad ls (S.stk (⟨trivial, S.ok⟩)))
theorem s_lconst {p : Program} {l : Launch} {e : Env} {R : Room} {s : State} {m : MethodId} {args : Array Value} {below : List Frame} {meth : Method} {c : Code} {Q : State → Prop} {cc : ByteArray} {nL : Nat} {own : String} {Ts : List Cond} {D : va_G} {dA : Nat → ClassId} {base : Nat} {ad0 : Nat → Nat → Nat} {h0 : MH} (F : Fix p s m args c cc nL own Ts D dA base ad0) {pc : Nat} {lo : List (Option MV)} {r : List MV} {h : MH} {n : Fin 2} {v : Int64} (hd : decode cc pc = .ok (.lconst n, 1)) (hv : Int64.ofNat (n : Nat) = v) (k : AtW p l e R s m args below meth c Q nL D dA base ad0 h0 (pc + 1) (lo) (vL v :: r) (h)) : AtW p l e R s m args below meth c Q nL D dA base ad0 h0 (pc) (lo) (r) (h) := by
  intro H locs cells slots ad ls S
  exact lv_lconst F.1 F.2.1 hd hv (k H locs cells slots ad ls (S.stk (⟨trivial, S.ok⟩)))
theorem s_null {p : Program} {l : Launch} {e : Env} {R : Room} {s : State} {m : MethodId} {args : Array Value} {below : List Frame} {meth : Method} {c : Code} {Q : State → Prop} {cc : ByteArray} {nL : Nat} {own : String} {Ts : List Cond} {D : va_G} {dA : Nat → ClassId} {base : Nat} {ad0 : Nat → Nat → Nat} {h0 : MH} (F : Fix p s m args c cc nL own Ts D dA base ad0) {pc : Nat} {lo : List (Option MV)} {r : List MV} {h : MH}  (hd : decode cc pc = .ok (.aconst_null, 1))  (k : AtW p l e R s m args below meth c Q nL D dA base ad0 h0 (pc + 1) (lo) (vN :: r) (h)) : AtW p l e R s m args below meth c Q nL D dA base ad0 h0 (pc) (lo) (r) (h) := by
  intro H locs cells slots ad ls S
  exact lv_null F.1 F.2.1 hd  (k H locs cells slots ad ls (S.stk (⟨trivial, S.ok⟩)))
theorem s_ldc {p : Program} {l : Launch} {e : Env} {R : Room} {s : State} {m : MethodId} {args : Array Value} {below : List Frame} {meth : Method} {c : Code} {Q : State → Prop} {cc : ByteArray} {nL : Nat} {own : String} {Ts : List Cond} {D : va_G} {dA : Nat → ClassId} {base : Nat} {ad0 : Nat → Nat → Nat} {h0 : MH} (F : Fix p s m args c cc nL own Ts D dA base ad0) {pc : Nat} {lo : List (Option MV)} {r : List MV} {h : MH} {ix : Nat} {v : Int32} (hd : decode cc pc = .ok (.ldc ix, 2)) (hw : Cond.constant own ix v ∈ lwG) (k : AtW p l e R s m args below meth c Q nL D dA base ad0 h0 (pc + 2) (lo) (vI v :: r) (h)) : AtW p l e R s m args below meth c Q nL D dA base ad0 h0 (pc) (lo) (r) (h) := by
  intro H locs cells slots ad ls S
  exact lv_ldc F.1 F.2.1 F.2.2.2.1 (F.2.2.2.2.1 _ (F.2.2.2.2.2.1 _ hw)) hd (k H locs cells slots ad ls (S.stk ⟨trivial, S.ok⟩))
theorem s_ldcw {p : Program} {l : Launch} {e : Env} {R : Room} {s : State} {m : MethodId} {args : Array Value} {below : List Frame} {meth : Method} {c : Code} {Q : State → Prop} {cc : ByteArray} {nL : Nat} {own : String} {Ts : List Cond} {D : va_G} {dA : Nat → ClassId} {base : Nat} {ad0 : Nat → Nat → Nat} {h0 : MH} (F : Fix p s m args c cc nL own Ts D dA base ad0) {pc : Nat} {lo : List (Option MV)} {r : List MV} {h : MH} {ix : Nat} {v : Int32} (hd : decode cc pc = .ok (.ldc_w ix, 3)) (hw : Cond.constant own ix v ∈ lwG) (k : AtW p l e R s m args below meth c Q nL D dA base ad0 h0 (pc + 3) (lo) (vI v :: r) (h)) : AtW p l e R s m args below meth c Q nL D dA base ad0 h0 (pc) (lo) (r) (h) := by
  intro H locs cells slots ad ls S
  exact lv_ldcw F.1 F.2.1 F.2.2.2.1 (F.2.2.2.2.1 _ (F.2.2.2.2.2.1 _ hw)) hd (k H locs cells slots ad ls (S.stk ⟨trivial, S.ok⟩))
theorem s_ldc2 {p : Program} {l : Launch} {e : Env} {R : Room} {s : State} {m : MethodId} {args : Array Value} {below : List Frame} {meth : Method} {c : Code} {Q : State → Prop} {cc : ByteArray} {nL : Nat} {own : String} {Ts : List Cond} {D : va_G} {dA : Nat → ClassId} {base : Nat} {ad0 : Nat → Nat → Nat} {h0 : MH} (F : Fix p s m args c cc nL own Ts D dA base ad0) {pc : Nat} {lo : List (Option MV)} {r : List MV} {h : MH} {ix : Nat} {v : Int64} (hd : decode cc pc = .ok (.ldc2_w ix, 3)) (hw : Cond.constantLong own ix v ∈ lwG) (k : AtW p l e R s m args below meth c Q nL D dA base ad0 h0 (pc + 3) (lo) (vL v :: r) (h)) : AtW p l e R s m args below meth c Q nL D dA base ad0 h0 (pc) (lo) (r) (h) := by
  intro H locs cells slots ad ls S
  exact lv_ldc2 F.1 F.2.1 F.2.2.2.1 (F.2.2.2.2.1 _ (F.2.2.2.2.2.1 _ hw)) hd (k H locs cells slots ad ls (S.stk ⟨trivial, S.ok⟩))
theorem s_ldcS {p : Program} {l : Launch} {e : Env} {R : Room} {s : State} {m : MethodId} {args : Array Value} {below : List Frame} {meth : Method} {c : Code} {Q : State → Prop} {cc : ByteArray} {nL : Nat} {own : String} {Ts : List Cond} {D : va_G} {dA : Nat → ClassId} {base : Nat} {ad0 : Nat → Nat → Nat} {h0 : MH} (F : Fix p s m args c cc nL own Ts D dA base ad0) {pc : Nat} {lo : List (Option MV)} {r : List MV} {h : MH} (ho : own = RX6) (hd : decode cc pc = .ok (.ldc 79, 2)) (k : AtW p l e R s m args below meth c Q nL D dA base ad0 h0 (pc + 2) (lo) (vR 98 0 :: r) (h)) : AtW p l e R s m args below meth c Q nL D dA base ad0 h0 (pc) (lo) (r) (h) := by
  intro H locs cells slots ad ls S
  subst ho
  refine va_ldcS F.1 F.2.1 F.2.2.2.1 F.2.2.2.2.2.2.2.2.2.2.2.1 hd ?_
  have e : ad 98 0 = ad0 98 0 := S.2.2.2.2.2.2.2.1 98 0 (Or.inr (by decide))
  rw [← e]
  exact k H locs cells slots ad ls (S.stk ⟨Or.inl (by decide), S.ok⟩)
theorem s_iload {p : Program} {l : Launch} {e : Env} {R : Room} {s : State} {m : MethodId} {args : Array Value} {below : List Frame} {meth : Method} {c : Code} {Q : State → Prop} {cc : ByteArray} {nL : Nat} {own : String} {Ts : List Cond} {D : va_G} {dA : Nat → ClassId} {base : Nat} {ad0 : Nat → Nat → Nat} {h0 : MH} (F : Fix p s m args c cc nL own Ts D dA base ad0) {pc : Nat} {lo : List (Option MV)} {r : List MV} {h : MH} {a : Nat} {x : Int32} (hd : decode cc pc = .ok (.iload a, 2)) (hl : lk lo a = some (vI x)) (k : AtW p l e R s m args below meth c Q nL D dA base ad0 h0 (pc + 2) (lo) (vI x :: r) (h)) : AtW p l e R s m args below meth c Q nL D dA base ad0 h0 (pc) (lo) (r) (h) := by
  intro H locs cells slots ad ls S
  exact lv_iload F.1 F.2.1 hd  (S.2.2.2.1.2.2 a _ hl) (k H locs cells slots ad ls (S.stk ⟨trivial, S.ok⟩))
theorem s_iload_n {p : Program} {l : Launch} {e : Env} {R : Room} {s : State} {m : MethodId} {args : Array Value} {below : List Frame} {meth : Method} {c : Code} {Q : State → Prop} {cc : ByteArray} {nL : Nat} {own : String} {Ts : List Cond} {D : va_G} {dA : Nat → ClassId} {base : Nat} {ad0 : Nat → Nat → Nat} {h0 : MH} (F : Fix p s m args c cc nL own Ts D dA base ad0) {pc : Nat} {lo : List (Option MV)} {r : List MV} {h : MH} {a : Nat} {x : Int32} {i : Fin 4} (hd : decode cc pc = .ok (.iload_n i, 1)) (hi : (i : Nat) = a) (hl : lk lo a = some (vI x)) (k : AtW p l e R s m args below meth c Q nL D dA base ad0 h0 (pc + 1) (lo) (vI x :: r) (h)) : AtW p l e R s m args below meth c Q nL D dA base ad0 h0 (pc) (lo) (r) (h) := by
  intro H locs cells slots ad ls S
  exact lv_iload_n F.1 F.2.1 hd hi (S.2.2.2.1.2.2 a _ hl) (k H locs cells slots ad ls (S.stk ⟨trivial, S.ok⟩))
theorem s_lload {p : Program} {l : Launch} {e : Env} {R : Room} {s : State} {m : MethodId} {args : Array Value} {below : List Frame} {meth : Method} {c : Code} {Q : State → Prop} {cc : ByteArray} {nL : Nat} {own : String} {Ts : List Cond} {D : va_G} {dA : Nat → ClassId} {base : Nat} {ad0 : Nat → Nat → Nat} {h0 : MH} (F : Fix p s m args c cc nL own Ts D dA base ad0) {pc : Nat} {lo : List (Option MV)} {r : List MV} {h : MH} {a : Nat} {x : Int64} (hd : decode cc pc = .ok (.lload a, 2)) (hl : lk lo a = some (vL x)) (k : AtW p l e R s m args below meth c Q nL D dA base ad0 h0 (pc + 2) (lo) (vL x :: r) (h)) : AtW p l e R s m args below meth c Q nL D dA base ad0 h0 (pc) (lo) (r) (h) := by
  intro H locs cells slots ad ls S
  exact lv_lload F.1 F.2.1 hd  (S.2.2.2.1.2.2 a _ hl) (k H locs cells slots ad ls (S.stk ⟨trivial, S.ok⟩))
theorem s_lload_n {p : Program} {l : Launch} {e : Env} {R : Room} {s : State} {m : MethodId} {args : Array Value} {below : List Frame} {meth : Method} {c : Code} {Q : State → Prop} {cc : ByteArray} {nL : Nat} {own : String} {Ts : List Cond} {D : va_G} {dA : Nat → ClassId} {base : Nat} {ad0 : Nat → Nat → Nat} {h0 : MH} (F : Fix p s m args c cc nL own Ts D dA base ad0) {pc : Nat} {lo : List (Option MV)} {r : List MV} {h : MH} {a : Nat} {x : Int64} {i : Fin 4} (hd : decode cc pc = .ok (.lload_n i, 1)) (hi : (i : Nat) = a) (hl : lk lo a = some (vL x)) (k : AtW p l e R s m args below meth c Q nL D dA base ad0 h0 (pc + 1) (lo) (vL x :: r) (h)) : AtW p l e R s m args below meth c Q nL D dA base ad0 h0 (pc) (lo) (r) (h) := by
  intro H locs cells slots ad ls S
  exact lv_lload_n F.1 F.2.1 hd hi (S.2.2.2.1.2.2 a _ hl) (k H locs cells slots ad ls (S.stk ⟨trivial, S.ok⟩))
theorem s_aload {p : Program} {l : Launch} {e : Env} {R : Room} {s : State} {m : MethodId} {args : Array Value} {below : List Frame} {meth : Method} {c : Code} {Q : State → Prop} {cc : ByteArray} {nL : Nat} {own : String} {Ts : List Cond} {D : va_G} {dA : Nat → ClassId} {base : Nat} {ad0 : Nat → Nat → Nat} {h0 : MH} (F : Fix p s m args c cc nL own Ts D dA base ad0) {pc : Nat} {lo : List (Option MV)} {r : List MV} {h : MH} {a : Nat} {v : (Nat × Nat) ⊕ ((Nat × Nat) ⊕ Unit)} (hd : decode cc pc = .ok (.aload a, 2)) (hl : lk lo a = some (.inr (.inr v))) (k : AtW p l e R s m args below meth c Q nL D dA base ad0 h0 (pc + 2) (lo) (.inr (.inr v) :: r) (h)) : AtW p l e R s m args below meth c Q nL D dA base ad0 h0 (pc) (lo) (r) (h) := by
  intro H locs cells slots ad ls S
  have k2 := k H locs cells slots ad ls (S.stk ⟨S.2.2.2.2.2.1 a _ hl, S.ok⟩)
  have hl2 := S.2.2.2.1.2.2 a _ hl
  rcases v with v | v | v
  · exact lv_aload F.1 F.2.1 hd  hl2 k2
  · exact lv_aload F.1 F.2.1 hd  hl2 k2
  · exact lv_aloadN F.1 F.2.1 hd  hl2 k2
theorem s_aload_n {p : Program} {l : Launch} {e : Env} {R : Room} {s : State} {m : MethodId} {args : Array Value} {below : List Frame} {meth : Method} {c : Code} {Q : State → Prop} {cc : ByteArray} {nL : Nat} {own : String} {Ts : List Cond} {D : va_G} {dA : Nat → ClassId} {base : Nat} {ad0 : Nat → Nat → Nat} {h0 : MH} (F : Fix p s m args c cc nL own Ts D dA base ad0) {pc : Nat} {lo : List (Option MV)} {r : List MV} {h : MH} {a : Nat} {v : (Nat × Nat) ⊕ ((Nat × Nat) ⊕ Unit)} {i : Fin 4} (hd : decode cc pc = .ok (.aload_n i, 1)) (hi : (i : Nat) = a) (hl : lk lo a = some (.inr (.inr v))) (k : AtW p l e R s m args below meth c Q nL D dA base ad0 h0 (pc + 1) (lo) (.inr (.inr v) :: r) (h)) : AtW p l e R s m args below meth c Q nL D dA base ad0 h0 (pc) (lo) (r) (h) := by
  intro H locs cells slots ad ls S
  have k2 := k H locs cells slots ad ls (S.stk ⟨S.2.2.2.2.2.1 a _ hl, S.ok⟩)
  have hl2 := S.2.2.2.1.2.2 a _ hl
  rcases v with v | v | v
  · exact lv_aload_n F.1 F.2.1 hd hi hl2 k2
  · exact lv_aload_n F.1 F.2.1 hd hi hl2 k2
  · exact lv_aload_nN F.1 F.2.1 hd hi hl2 k2
theorem s_istore {p : Program} {l : Launch} {e : Env} {R : Room} {s : State} {m : MethodId} {args : Array Value} {below : List Frame} {meth : Method} {c : Code} {Q : State → Prop} {cc : ByteArray} {nL : Nat} {own : String} {Ts : List Cond} {D : va_G} {dA : Nat → ClassId} {base : Nat} {ad0 : Nat → Nat → Nat} {h0 : MH} (F : Fix p s m args c cc nL own Ts D dA base ad0) {pc : Nat} {lo : List (Option MV)} {r : List MV} {h : MH} {a : Nat} {x : Int32} (hd : decode cc pc = .ok (.istore a, 2)) (ha : a < nL) (k : AtW p l e R s m args below meth c Q nL D dA base ad0 h0 (pc + 2) (st1 lo a (vI x)) (r) (h)) : AtW p l e R s m args below meth c Q nL D dA base ad0 h0 (pc) (lo) (vI x :: r) (h) := by
  intro H locs cells slots ad ls S
  exact lv_istore F.1 F.2.1 hd  (locOk.has S.2.2.2.1) ha rfl (fun ls2 hl2 => k H locs cells slots ad ls2 ⟨S.1, S.2.1, S.2.2.1, locOk.st1 (ls := ls) (v := vI x) hl2, S.ok.2, lok1 S.2.2.2.2.2.1 (trivial), S.2.2.2.2.2.2⟩)
theorem s_istore_n {p : Program} {l : Launch} {e : Env} {R : Room} {s : State} {m : MethodId} {args : Array Value} {below : List Frame} {meth : Method} {c : Code} {Q : State → Prop} {cc : ByteArray} {nL : Nat} {own : String} {Ts : List Cond} {D : va_G} {dA : Nat → ClassId} {base : Nat} {ad0 : Nat → Nat → Nat} {h0 : MH} (F : Fix p s m args c cc nL own Ts D dA base ad0) {pc : Nat} {lo : List (Option MV)} {r : List MV} {h : MH} {a : Nat} {x : Int32} {i : Fin 4} (hd : decode cc pc = .ok (.istore_n i, 1)) (hi : (i : Nat) = a) (ha : a < nL) (k : AtW p l e R s m args below meth c Q nL D dA base ad0 h0 (pc + 1) (st1 lo a (vI x)) (r) (h)) : AtW p l e R s m args below meth c Q nL D dA base ad0 h0 (pc) (lo) (vI x :: r) (h) := by
  intro H locs cells slots ad ls S
  exact lv_istore_n F.1 F.2.1 hd hi (locOk.has S.2.2.2.1) ha rfl (fun ls2 hl2 => k H locs cells slots ad ls2 ⟨S.1, S.2.1, S.2.2.1, locOk.st1 (ls := ls) (v := vI x) hl2, S.ok.2, lok1 S.2.2.2.2.2.1 (trivial), S.2.2.2.2.2.2⟩)
theorem s_lstore {p : Program} {l : Launch} {e : Env} {R : Room} {s : State} {m : MethodId} {args : Array Value} {below : List Frame} {meth : Method} {c : Code} {Q : State → Prop} {cc : ByteArray} {nL : Nat} {own : String} {Ts : List Cond} {D : va_G} {dA : Nat → ClassId} {base : Nat} {ad0 : Nat → Nat → Nat} {h0 : MH} (F : Fix p s m args c cc nL own Ts D dA base ad0) {pc : Nat} {lo : List (Option MV)} {r : List MV} {h : MH} {a : Nat} {x : Int64} (hd : decode cc pc = .ok (.lstore a, 2)) (ha : a + 1 < nL) (k : AtW p l e R s m args below meth c Q nL D dA base ad0 h0 (pc + 2) (st2 lo a (vL x)) (r) (h)) : AtW p l e R s m args below meth c Q nL D dA base ad0 h0 (pc) (lo) (vL x :: r) (h) := by
  intro H locs cells slots ad ls S
  exact lv_lstore F.1 F.2.1 hd  (locOk.has S.2.2.2.1) ha rfl (fun ls2 hl2 => k H locs cells slots ad ls2 ⟨S.1, S.2.1, S.2.2.1, locOk.st2 (ls := ls) (v := vL x) hl2, S.ok.2, lok2 S.2.2.2.2.2.1 (trivial), S.2.2.2.2.2.2⟩)
theorem s_lstore_n {p : Program} {l : Launch} {e : Env} {R : Room} {s : State} {m : MethodId} {args : Array Value} {below : List Frame} {meth : Method} {c : Code} {Q : State → Prop} {cc : ByteArray} {nL : Nat} {own : String} {Ts : List Cond} {D : va_G} {dA : Nat → ClassId} {base : Nat} {ad0 : Nat → Nat → Nat} {h0 : MH} (F : Fix p s m args c cc nL own Ts D dA base ad0) {pc : Nat} {lo : List (Option MV)} {r : List MV} {h : MH} {a : Nat} {x : Int64} {i : Fin 4} (hd : decode cc pc = .ok (.lstore_n i, 1)) (hi : (i : Nat) = a) (ha : a + 1 < nL) (k : AtW p l e R s m args below meth c Q nL D dA base ad0 h0 (pc + 1) (st2 lo a (vL x)) (r) (h)) : AtW p l e R s m args below meth c Q nL D dA base ad0 h0 (pc) (lo) (vL x :: r) (h) := by
  intro H locs cells slots ad ls S
  exact lv_lstore_n F.1 F.2.1 hd hi (locOk.has S.2.2.2.1) ha rfl (fun ls2 hl2 => k H locs cells slots ad ls2 ⟨S.1, S.2.1, S.2.2.1, locOk.st2 (ls := ls) (v := vL x) hl2, S.ok.2, lok2 S.2.2.2.2.2.1 (trivial), S.2.2.2.2.2.2⟩)
theorem s_astore {p : Program} {l : Launch} {e : Env} {R : Room} {s : State} {m : MethodId} {args : Array Value} {below : List Frame} {meth : Method} {c : Code} {Q : State → Prop} {cc : ByteArray} {nL : Nat} {own : String} {Ts : List Cond} {D : va_G} {dA : Nat → ClassId} {base : Nat} {ad0 : Nat → Nat → Nat} {h0 : MH} (F : Fix p s m args c cc nL own Ts D dA base ad0) {pc : Nat} {lo : List (Option MV)} {r : List MV} {h : MH} {a : Nat} {v : (Nat × Nat) ⊕ ((Nat × Nat) ⊕ Unit)} (hd : decode cc pc = .ok (.astore a, 2)) (ha : a < nL) (k : AtW p l e R s m args below meth c Q nL D dA base ad0 h0 (pc + 2) (st1 lo a (.inr (.inr v))) (r) (h)) : AtW p l e R s m args below meth c Q nL D dA base ad0 h0 (pc) (lo) (.inr (.inr v) :: r) (h) := by
  intro H locs cells slots ad ls S
  rcases v with v | v | v
  · exact lv_astore F.1 F.2.1 hd  (locOk.has S.2.2.2.1) ha rfl (fun ls2 hl2 => k H locs cells slots ad ls2 ⟨S.1, S.2.1, S.2.2.1, locOk.st1 (ls := ls) (v := .inr (.inr _)) hl2, S.ok.2, lok1 S.2.2.2.2.2.1 (S.ok.1), S.2.2.2.2.2.2⟩)
  · exact lv_astore F.1 F.2.1 hd  (locOk.has S.2.2.2.1) ha rfl (fun ls2 hl2 => k H locs cells slots ad ls2 ⟨S.1, S.2.1, S.2.2.1, locOk.st1 (ls := ls) (v := .inr (.inr _)) hl2, S.ok.2, lok1 S.2.2.2.2.2.1 (S.ok.1), S.2.2.2.2.2.2⟩)
  · exact lv_astoreN F.1 F.2.1 hd  (locOk.has S.2.2.2.1) ha rfl (fun ls2 hl2 => k H locs cells slots ad ls2 ⟨S.1, S.2.1, S.2.2.1, locOk.st1 (ls := ls) (v := .inr (.inr _)) hl2, S.ok.2, lok1 S.2.2.2.2.2.1 (S.ok.1), S.2.2.2.2.2.2⟩)
theorem s_astore_n {p : Program} {l : Launch} {e : Env} {R : Room} {s : State} {m : MethodId} {args : Array Value} {below : List Frame} {meth : Method} {c : Code} {Q : State → Prop} {cc : ByteArray} {nL : Nat} {own : String} {Ts : List Cond} {D : va_G} {dA : Nat → ClassId} {base : Nat} {ad0 : Nat → Nat → Nat} {h0 : MH} (F : Fix p s m args c cc nL own Ts D dA base ad0) {pc : Nat} {lo : List (Option MV)} {r : List MV} {h : MH} {a : Nat} {v : (Nat × Nat) ⊕ ((Nat × Nat) ⊕ Unit)} {i : Fin 4} (hd : decode cc pc = .ok (.astore_n i, 1)) (hi : (i : Nat) = a) (ha : a < nL) (k : AtW p l e R s m args below meth c Q nL D dA base ad0 h0 (pc + 1) (st1 lo a (.inr (.inr v))) (r) (h)) : AtW p l e R s m args below meth c Q nL D dA base ad0 h0 (pc) (lo) (.inr (.inr v) :: r) (h) := by
  intro H locs cells slots ad ls S
  rcases v with v | v | v
  · exact lv_astore_n F.1 F.2.1 hd hi (locOk.has S.2.2.2.1) ha rfl (fun ls2 hl2 => k H locs cells slots ad ls2 ⟨S.1, S.2.1, S.2.2.1, locOk.st1 (ls := ls) (v := .inr (.inr _)) hl2, S.ok.2, lok1 S.2.2.2.2.2.1 (S.ok.1), S.2.2.2.2.2.2⟩)
  · exact lv_astore_n F.1 F.2.1 hd hi (locOk.has S.2.2.2.1) ha rfl (fun ls2 hl2 => k H locs cells slots ad ls2 ⟨S.1, S.2.1, S.2.2.1, locOk.st1 (ls := ls) (v := .inr (.inr _)) hl2, S.ok.2, lok1 S.2.2.2.2.2.1 (S.ok.1), S.2.2.2.2.2.2⟩)
  · exact lv_astore_nN F.1 F.2.1 hd hi (locOk.has S.2.2.2.1) ha rfl (fun ls2 hl2 => k H locs cells slots ad ls2 ⟨S.1, S.2.1, S.2.2.1, locOk.st1 (ls := ls) (v := .inr (.inr _)) hl2, S.ok.2, lok1 S.2.2.2.2.2.1 (S.ok.1), S.2.2.2.2.2.2⟩)
theorem s_iinc {p : Program} {l : Launch} {e : Env} {R : Room} {s : State} {m : MethodId} {args : Array Value} {below : List Frame} {meth : Method} {c : Code} {Q : State → Prop} {cc : ByteArray} {nL : Nat} {own : String} {Ts : List Cond} {D : va_G} {dA : Nat → ClassId} {base : Nat} {ad0 : Nat → Nat → Nat} {h0 : MH} (F : Fix p s m args c cc nL own Ts D dA base ad0) {pc : Nat} {lo : List (Option MV)} {r : List MV} {h : MH} {a : Nat} {n : Int} {x y : Int32} (hd : decode cc pc = .ok (.iinc a n, 3)) (hy : Int32.ofInt n = y) (ha : a < nL) (hl : lk lo a = some (vI x)) (k : AtW p l e R s m args below meth c Q nL D dA base ad0 h0 (pc + 3) (st1 lo a (vI (x + y))) (r) (h)) : AtW p l e R s m args below meth c Q nL D dA base ad0 h0 (pc) (lo) (r) (h) := by
  intro H locs cells slots ad ls S
  have q := prs_in (ad := ad) (k := 0) hl
  rw [Nat.zero_add] at q
  obtain ⟨j, hj⟩ := List.getElem?_of_mem q
  exact lv_iinc F.1 F.2.1 hd (locOk.has S.2.2.2.1) (k := j) hj (by rw [hy]) ha rfl (fun ls2 hl2 => k H locs cells slots ad ls2 ⟨S.1, S.2.1, S.2.2.1, locOk.st1 (ls := ls) (v := vI (x + y)) hl2, S.ok, lok1 S.2.2.2.2.2.1 (trivial), S.2.2.2.2.2.2⟩)
theorem s_icmp_eq {p : Program} {l : Launch} {e : Env} {R : Room} {s : State} {m : MethodId} {args : Array Value} {below : List Frame} {meth : Method} {c : Code} {Q : State → Prop} {cc : ByteArray} {nL : Nat} {own : String} {Ts : List Cond} {D : va_G} {dA : Nat → ClassId} {base : Nat} {ad0 : Nat → Nat → Nat} {h0 : MH} (F : Fix p s m args c cc nL own Ts D dA base ad0) {pc tgt : Nat} {off : Int} {lo : List (Option MV)} {r : List MV} {h : MH} {x y : Int32} (hd : decode cc pc = .ok (.if_icmp .eq off, 3)) (ht : (pc : Int) + off = (tgt : Int)) (k1 : x = y → AtW p l e R s m args below meth c Q nL D dA base ad0 h0 (tgt) (lo) (r) (h)) (k2 : ¬ x = y → AtW p l e R s m args below meth c Q nL D dA base ad0 h0 (pc + 3) (lo) (r) (h)) : AtW p l e R s m args below meth c Q nL D dA base ad0 h0 (pc) (lo) (vI y :: vI x :: r) (h) := by
  intro H locs cells slots ad ls S
  exact lv_icmp_eq F.1 F.2.1 hd ht (fun q => k1 q H locs cells slots ad ls (S.stk S.ok.2.2)) (fun q => k2 q H locs cells slots ad ls (S.stk S.ok.2.2))
theorem s_icmp_ne {p : Program} {l : Launch} {e : Env} {R : Room} {s : State} {m : MethodId} {args : Array Value} {below : List Frame} {meth : Method} {c : Code} {Q : State → Prop} {cc : ByteArray} {nL : Nat} {own : String} {Ts : List Cond} {D : va_G} {dA : Nat → ClassId} {base : Nat} {ad0 : Nat → Nat → Nat} {h0 : MH} (F : Fix p s m args c cc nL own Ts D dA base ad0) {pc tgt : Nat} {off : Int} {lo : List (Option MV)} {r : List MV} {h : MH} {x y : Int32} (hd : decode cc pc = .ok (.if_icmp .ne off, 3)) (ht : (pc : Int) + off = (tgt : Int)) (k1 : x = y → AtW p l e R s m args below meth c Q nL D dA base ad0 h0 (pc + 3) (lo) (r) (h)) (k2 : ¬ x = y → AtW p l e R s m args below meth c Q nL D dA base ad0 h0 (tgt) (lo) (r) (h)) : AtW p l e R s m args below meth c Q nL D dA base ad0 h0 (pc) (lo) (vI y :: vI x :: r) (h) := by
  intro H locs cells slots ad ls S
  exact lv_icmp_ne F.1 F.2.1 hd ht (fun q => k2 q H locs cells slots ad ls (S.stk S.ok.2.2)) (fun q => k1 (by simpa using q) H locs cells slots ad ls (S.stk S.ok.2.2))
theorem s_icmp_lt {p : Program} {l : Launch} {e : Env} {R : Room} {s : State} {m : MethodId} {args : Array Value} {below : List Frame} {meth : Method} {c : Code} {Q : State → Prop} {cc : ByteArray} {nL : Nat} {own : String} {Ts : List Cond} {D : va_G} {dA : Nat → ClassId} {base : Nat} {ad0 : Nat → Nat → Nat} {h0 : MH} (F : Fix p s m args c cc nL own Ts D dA base ad0) {pc tgt : Nat} {off : Int} {lo : List (Option MV)} {r : List MV} {h : MH} {x y : Int32} (hd : decode cc pc = .ok (.if_icmp .lt off, 3)) (ht : (pc : Int) + off = (tgt : Int)) (k1 : x < y → AtW p l e R s m args below meth c Q nL D dA base ad0 h0 (tgt) (lo) (r) (h)) (k2 : ¬ x < y → AtW p l e R s m args below meth c Q nL D dA base ad0 h0 (pc + 3) (lo) (r) (h)) : AtW p l e R s m args below meth c Q nL D dA base ad0 h0 (pc) (lo) (vI y :: vI x :: r) (h) := by
  intro H locs cells slots ad ls S
  exact lv_icmp_lt F.1 F.2.1 hd ht (fun q => k1 q H locs cells slots ad ls (S.stk S.ok.2.2)) (fun q => k2 q H locs cells slots ad ls (S.stk S.ok.2.2))
theorem s_icmp_ge {p : Program} {l : Launch} {e : Env} {R : Room} {s : State} {m : MethodId} {args : Array Value} {below : List Frame} {meth : Method} {c : Code} {Q : State → Prop} {cc : ByteArray} {nL : Nat} {own : String} {Ts : List Cond} {D : va_G} {dA : Nat → ClassId} {base : Nat} {ad0 : Nat → Nat → Nat} {h0 : MH} (F : Fix p s m args c cc nL own Ts D dA base ad0) {pc tgt : Nat} {off : Int} {lo : List (Option MV)} {r : List MV} {h : MH} {x y : Int32} (hd : decode cc pc = .ok (.if_icmp .ge off, 3)) (ht : (pc : Int) + off = (tgt : Int)) (k1 : y ≤ x → AtW p l e R s m args below meth c Q nL D dA base ad0 h0 (tgt) (lo) (r) (h)) (k2 : ¬ y ≤ x → AtW p l e R s m args below meth c Q nL D dA base ad0 h0 (pc + 3) (lo) (r) (h)) : AtW p l e R s m args below meth c Q nL D dA base ad0 h0 (pc) (lo) (vI y :: vI x :: r) (h) := by
  intro H locs cells slots ad ls S
  exact lv_icmp_ge F.1 F.2.1 hd ht (fun q => k1 q H locs cells slots ad ls (S.stk S.ok.2.2)) (fun q => k2 q H locs cells slots ad ls (S.stk S.ok.2.2))
theorem s_icmp_gt {p : Program} {l : Launch} {e : Env} {R : Room} {s : State} {m : MethodId} {args : Array Value} {below : List Frame} {meth : Method} {c : Code} {Q : State → Prop} {cc : ByteArray} {nL : Nat} {own : String} {Ts : List Cond} {D : va_G} {dA : Nat → ClassId} {base : Nat} {ad0 : Nat → Nat → Nat} {h0 : MH} (F : Fix p s m args c cc nL own Ts D dA base ad0) {pc tgt : Nat} {off : Int} {lo : List (Option MV)} {r : List MV} {h : MH} {x y : Int32} (hd : decode cc pc = .ok (.if_icmp .gt off, 3)) (ht : (pc : Int) + off = (tgt : Int)) (k1 : y < x → AtW p l e R s m args below meth c Q nL D dA base ad0 h0 (tgt) (lo) (r) (h)) (k2 : ¬ y < x → AtW p l e R s m args below meth c Q nL D dA base ad0 h0 (pc + 3) (lo) (r) (h)) : AtW p l e R s m args below meth c Q nL D dA base ad0 h0 (pc) (lo) (vI y :: vI x :: r) (h) := by
  intro H locs cells slots ad ls S
  exact lv_icmp_gt F.1 F.2.1 hd ht (fun q => k1 q H locs cells slots ad ls (S.stk S.ok.2.2)) (fun q => k2 q H locs cells slots ad ls (S.stk S.ok.2.2))
theorem s_icmp_le {p : Program} {l : Launch} {e : Env} {R : Room} {s : State} {m : MethodId} {args : Array Value} {below : List Frame} {meth : Method} {c : Code} {Q : State → Prop} {cc : ByteArray} {nL : Nat} {own : String} {Ts : List Cond} {D : va_G} {dA : Nat → ClassId} {base : Nat} {ad0 : Nat → Nat → Nat} {h0 : MH} (F : Fix p s m args c cc nL own Ts D dA base ad0) {pc tgt : Nat} {off : Int} {lo : List (Option MV)} {r : List MV} {h : MH} {x y : Int32} (hd : decode cc pc = .ok (.if_icmp .le off, 3)) (ht : (pc : Int) + off = (tgt : Int)) (k1 : x ≤ y → AtW p l e R s m args below meth c Q nL D dA base ad0 h0 (tgt) (lo) (r) (h)) (k2 : ¬ x ≤ y → AtW p l e R s m args below meth c Q nL D dA base ad0 h0 (pc + 3) (lo) (r) (h)) : AtW p l e R s m args below meth c Q nL D dA base ad0 h0 (pc) (lo) (vI y :: vI x :: r) (h) := by
  intro H locs cells slots ad ls S
  exact lv_icmp_le F.1 F.2.1 hd ht (fun q => k1 q H locs cells slots ad ls (S.stk S.ok.2.2)) (fun q => k2 q H locs cells slots ad ls (S.stk S.ok.2.2))
theorem s_if_eq {p : Program} {l : Launch} {e : Env} {R : Room} {s : State} {m : MethodId} {args : Array Value} {below : List Frame} {meth : Method} {c : Code} {Q : State → Prop} {cc : ByteArray} {nL : Nat} {own : String} {Ts : List Cond} {D : va_G} {dA : Nat → ClassId} {base : Nat} {ad0 : Nat → Nat → Nat} {h0 : MH} (F : Fix p s m args c cc nL own Ts D dA base ad0) {pc tgt : Nat} {off : Int} {lo : List (Option MV)} {r : List MV} {h : MH} {x : Int32} (hd : decode cc pc = .ok (.ifCond .eq off, 3)) (ht : (pc : Int) + off = (tgt : Int)) (k1 : x = 0 → AtW p l e R s m args below meth c Q nL D dA base ad0 h0 (tgt) (lo) (r) (h)) (k2 : ¬ x = 0 → AtW p l e R s m args below meth c Q nL D dA base ad0 h0 (pc + 3) (lo) (r) (h)) : AtW p l e R s m args below meth c Q nL D dA base ad0 h0 (pc) (lo) (vI x :: r) (h) := by
  intro H locs cells slots ad ls S
  exact lv_if_eq F.1 F.2.1 hd ht (fun q => k1 q H locs cells slots ad ls (S.stk S.ok.2)) (fun q => k2 q H locs cells slots ad ls (S.stk S.ok.2))
theorem s_if_ne {p : Program} {l : Launch} {e : Env} {R : Room} {s : State} {m : MethodId} {args : Array Value} {below : List Frame} {meth : Method} {c : Code} {Q : State → Prop} {cc : ByteArray} {nL : Nat} {own : String} {Ts : List Cond} {D : va_G} {dA : Nat → ClassId} {base : Nat} {ad0 : Nat → Nat → Nat} {h0 : MH} (F : Fix p s m args c cc nL own Ts D dA base ad0) {pc tgt : Nat} {off : Int} {lo : List (Option MV)} {r : List MV} {h : MH} {x : Int32} (hd : decode cc pc = .ok (.ifCond .ne off, 3)) (ht : (pc : Int) + off = (tgt : Int)) (k1 : x = 0 → AtW p l e R s m args below meth c Q nL D dA base ad0 h0 (pc + 3) (lo) (r) (h)) (k2 : ¬ x = 0 → AtW p l e R s m args below meth c Q nL D dA base ad0 h0 (tgt) (lo) (r) (h)) : AtW p l e R s m args below meth c Q nL D dA base ad0 h0 (pc) (lo) (vI x :: r) (h) := by
  intro H locs cells slots ad ls S
  exact lv_if_ne F.1 F.2.1 hd ht (fun q => k2 q H locs cells slots ad ls (S.stk S.ok.2)) (fun q => k1 (by simpa using q) H locs cells slots ad ls (S.stk S.ok.2))
theorem s_if_lt {p : Program} {l : Launch} {e : Env} {R : Room} {s : State} {m : MethodId} {args : Array Value} {below : List Frame} {meth : Method} {c : Code} {Q : State → Prop} {cc : ByteArray} {nL : Nat} {own : String} {Ts : List Cond} {D : va_G} {dA : Nat → ClassId} {base : Nat} {ad0 : Nat → Nat → Nat} {h0 : MH} (F : Fix p s m args c cc nL own Ts D dA base ad0) {pc tgt : Nat} {off : Int} {lo : List (Option MV)} {r : List MV} {h : MH} {x : Int32} (hd : decode cc pc = .ok (.ifCond .lt off, 3)) (ht : (pc : Int) + off = (tgt : Int)) (k1 : x < 0 → AtW p l e R s m args below meth c Q nL D dA base ad0 h0 (tgt) (lo) (r) (h)) (k2 : ¬ x < 0 → AtW p l e R s m args below meth c Q nL D dA base ad0 h0 (pc + 3) (lo) (r) (h)) : AtW p l e R s m args below meth c Q nL D dA base ad0 h0 (pc) (lo) (vI x :: r) (h) := by
  intro H locs cells slots ad ls S
  exact lv_if_lt F.1 F.2.1 hd ht (fun q => k1 q H locs cells slots ad ls (S.stk S.ok.2)) (fun q => k2 q H locs cells slots ad ls (S.stk S.ok.2))
theorem s_if_ge {p : Program} {l : Launch} {e : Env} {R : Room} {s : State} {m : MethodId} {args : Array Value} {below : List Frame} {meth : Method} {c : Code} {Q : State → Prop} {cc : ByteArray} {nL : Nat} {own : String} {Ts : List Cond} {D : va_G} {dA : Nat → ClassId} {base : Nat} {ad0 : Nat → Nat → Nat} {h0 : MH} (F : Fix p s m args c cc nL own Ts D dA base ad0) {pc tgt : Nat} {off : Int} {lo : List (Option MV)} {r : List MV} {h : MH} {x : Int32} (hd : decode cc pc = .ok (.ifCond .ge off, 3)) (ht : (pc : Int) + off = (tgt : Int)) (k1 : 0 ≤ x → AtW p l e R s m args below meth c Q nL D dA base ad0 h0 (tgt) (lo) (r) (h)) (k2 : ¬ 0 ≤ x → AtW p l e R s m args below meth c Q nL D dA base ad0 h0 (pc + 3) (lo) (r) (h)) : AtW p l e R s m args below meth c Q nL D dA base ad0 h0 (pc) (lo) (vI x :: r) (h) := by
  intro H locs cells slots ad ls S
  exact lv_if_ge F.1 F.2.1 hd ht (fun q => k1 q H locs cells slots ad ls (S.stk S.ok.2)) (fun q => k2 q H locs cells slots ad ls (S.stk S.ok.2))
theorem s_if_gt {p : Program} {l : Launch} {e : Env} {R : Room} {s : State} {m : MethodId} {args : Array Value} {below : List Frame} {meth : Method} {c : Code} {Q : State → Prop} {cc : ByteArray} {nL : Nat} {own : String} {Ts : List Cond} {D : va_G} {dA : Nat → ClassId} {base : Nat} {ad0 : Nat → Nat → Nat} {h0 : MH} (F : Fix p s m args c cc nL own Ts D dA base ad0) {pc tgt : Nat} {off : Int} {lo : List (Option MV)} {r : List MV} {h : MH} {x : Int32} (hd : decode cc pc = .ok (.ifCond .gt off, 3)) (ht : (pc : Int) + off = (tgt : Int)) (k1 : 0 < x → AtW p l e R s m args below meth c Q nL D dA base ad0 h0 (tgt) (lo) (r) (h)) (k2 : ¬ 0 < x → AtW p l e R s m args below meth c Q nL D dA base ad0 h0 (pc + 3) (lo) (r) (h)) : AtW p l e R s m args below meth c Q nL D dA base ad0 h0 (pc) (lo) (vI x :: r) (h) := by
  intro H locs cells slots ad ls S
  exact lv_if_gt F.1 F.2.1 hd ht (fun q => k1 q H locs cells slots ad ls (S.stk S.ok.2)) (fun q => k2 q H locs cells slots ad ls (S.stk S.ok.2))
theorem s_if_le {p : Program} {l : Launch} {e : Env} {R : Room} {s : State} {m : MethodId} {args : Array Value} {below : List Frame} {meth : Method} {c : Code} {Q : State → Prop} {cc : ByteArray} {nL : Nat} {own : String} {Ts : List Cond} {D : va_G} {dA : Nat → ClassId} {base : Nat} {ad0 : Nat → Nat → Nat} {h0 : MH} (F : Fix p s m args c cc nL own Ts D dA base ad0) {pc tgt : Nat} {off : Int} {lo : List (Option MV)} {r : List MV} {h : MH} {x : Int32} (hd : decode cc pc = .ok (.ifCond .le off, 3)) (ht : (pc : Int) + off = (tgt : Int)) (k1 : x ≤ 0 → AtW p l e R s m args below meth c Q nL D dA base ad0 h0 (tgt) (lo) (r) (h)) (k2 : ¬ x ≤ 0 → AtW p l e R s m args below meth c Q nL D dA base ad0 h0 (pc + 3) (lo) (r) (h)) : AtW p l e R s m args below meth c Q nL D dA base ad0 h0 (pc) (lo) (vI x :: r) (h) := by
  intro H locs cells slots ad ls S
  exact lv_if_le F.1 F.2.1 hd ht (fun q => k1 q H locs cells slots ad ls (S.stk S.ok.2)) (fun q => k2 q H locs cells slots ad ls (S.stk S.ok.2))
theorem s_goto {p : Program} {l : Launch} {e : Env} {R : Room} {s : State} {m : MethodId} {args : Array Value} {below : List Frame} {meth : Method} {c : Code} {Q : State → Prop} {cc : ByteArray} {nL : Nat} {own : String} {Ts : List Cond} {D : va_G} {dA : Nat → ClassId} {base : Nat} {ad0 : Nat → Nat → Nat} {h0 : MH} (F : Fix p s m args c cc nL own Ts D dA base ad0) {pc tgt : Nat} {off : Int} {lo : List (Option MV)} {r : List MV} {h : MH} (hd : decode cc pc = .ok (.goto off, 3)) (ht : (pc : Int) + off = (tgt : Int)) (k : AtW p l e R s m args below meth c Q nL D dA base ad0 h0 (tgt) (lo) (r) (h)) : AtW p l e R s m args below meth c Q nL D dA base ad0 h0 (pc) (lo) (r) (h) := by
  intro H locs cells slots ad ls S
  exact lv_goto F.1 F.2.1 hd ht (k H locs cells slots ad ls S)
theorem s_ifnullR {p : Program} {l : Launch} {e : Env} {R : Room} {s : State} {m : MethodId} {args : Array Value} {below : List Frame} {meth : Method} {c : Code} {Q : State → Prop} {cc : ByteArray} {nL : Nat} {own : String} {Ts : List Cond} {D : va_G} {dA : Nat → ClassId} {base : Nat} {ad0 : Nat → Nat → Nat} {h0 : MH} (F : Fix p s m args c cc nL own Ts D dA base ad0) {pc tgt : Nat} {off : Int} {lo : List (Option MV)} {r : List MV} {h : MH} {q : Nat × Nat} (hd : decode cc pc = .ok (.ifnull off, 3)) (ht : (pc : Int) + off = (tgt : Int)) (k : AtW p l e R s m args below meth c Q nL D dA base ad0 h0 (pc + 3) (lo) (r) (h)) : AtW p l e R s m args below meth c Q nL D dA base ad0 h0 (pc) (lo) (.inr (.inr (.inl q)) :: r) (h) := by
  intro H locs cells slots ad ls S
  exact lv_ifnull F.1 F.2.1 hd  (k H locs cells slots ad ls (S.stk S.ok.2))
theorem s_ifnullN {p : Program} {l : Launch} {e : Env} {R : Room} {s : State} {m : MethodId} {args : Array Value} {below : List Frame} {meth : Method} {c : Code} {Q : State → Prop} {cc : ByteArray} {nL : Nat} {own : String} {Ts : List Cond} {D : va_G} {dA : Nat → ClassId} {base : Nat} {ad0 : Nat → Nat → Nat} {h0 : MH} (F : Fix p s m args c cc nL own Ts D dA base ad0) {pc tgt : Nat} {off : Int} {lo : List (Option MV)} {r : List MV} {h : MH} {q : Unit} (hd : decode cc pc = .ok (.ifnull off, 3)) (ht : (pc : Int) + off = (tgt : Int)) (k : AtW p l e R s m args below meth c Q nL D dA base ad0 h0 (tgt) (lo) (r) (h)) : AtW p l e R s m args below meth c Q nL D dA base ad0 h0 (pc) (lo) (.inr (.inr (.inr (.inr q))) :: r) (h) := by
  intro H locs cells slots ad ls S
  exact lv_ifnullN F.1 F.2.1 hd ht (k H locs cells slots ad ls (S.stk S.ok.2))
theorem s_ifnonnullR {p : Program} {l : Launch} {e : Env} {R : Room} {s : State} {m : MethodId} {args : Array Value} {below : List Frame} {meth : Method} {c : Code} {Q : State → Prop} {cc : ByteArray} {nL : Nat} {own : String} {Ts : List Cond} {D : va_G} {dA : Nat → ClassId} {base : Nat} {ad0 : Nat → Nat → Nat} {h0 : MH} (F : Fix p s m args c cc nL own Ts D dA base ad0) {pc tgt : Nat} {off : Int} {lo : List (Option MV)} {r : List MV} {h : MH} {q : Nat × Nat} (hd : decode cc pc = .ok (.ifnonnull off, 3)) (ht : (pc : Int) + off = (tgt : Int)) (k : AtW p l e R s m args below meth c Q nL D dA base ad0 h0 (tgt) (lo) (r) (h)) : AtW p l e R s m args below meth c Q nL D dA base ad0 h0 (pc) (lo) (.inr (.inr (.inl q)) :: r) (h) := by
  intro H locs cells slots ad ls S
  exact lv_ifnonnull F.1 F.2.1 hd ht (k H locs cells slots ad ls (S.stk S.ok.2))
theorem s_ifnonnullN {p : Program} {l : Launch} {e : Env} {R : Room} {s : State} {m : MethodId} {args : Array Value} {below : List Frame} {meth : Method} {c : Code} {Q : State → Prop} {cc : ByteArray} {nL : Nat} {own : String} {Ts : List Cond} {D : va_G} {dA : Nat → ClassId} {base : Nat} {ad0 : Nat → Nat → Nat} {h0 : MH} (F : Fix p s m args c cc nL own Ts D dA base ad0) {pc tgt : Nat} {off : Int} {lo : List (Option MV)} {r : List MV} {h : MH} {q : Unit} (hd : decode cc pc = .ok (.ifnonnull off, 3)) (ht : (pc : Int) + off = (tgt : Int)) (k : AtW p l e R s m args below meth c Q nL D dA base ad0 h0 (pc + 3) (lo) (r) (h)) : AtW p l e R s m args below meth c Q nL D dA base ad0 h0 (pc) (lo) (.inr (.inr (.inr (.inr q))) :: r) (h) := by
  intro H locs cells slots ad ls S
  exact lv_ifnonnullN F.1 F.2.1 hd  (k H locs cells slots ad ls (S.stk S.ok.2))

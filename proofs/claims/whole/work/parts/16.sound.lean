/-! SOUNDNESS: the checker of instructions, and one lemma for those that go on (printed by wip/whole/emitsound.py) -/
def tbl (k : Nat) : Option Cond := (([tables_1_1, tables_1_2, tables_1_3, tables_1_4, tables_1_5, tables_1_6, tables_1_7, tables_1_8, tables_1_9, tables_1_10] : List (List Cond)).getD (k / 240) [])[k % 240]?
def tw (k : Nat) (w : Cond) : Bool := decide (tbl k = some w) && goodWord w
theorem tbl_in {k : Nat} {w : Cond} (h : tbl k = some w) : w ∈ tables_1 := by
  unfold tbl at h
  have h1 := List.mem_of_getElem? h
  rw [List.getD_eq_getElem?_getD] at h1
  cases q : ([tables_1_1, tables_1_2, tables_1_3, tables_1_4, tables_1_5, tables_1_6, tables_1_7, tables_1_8, tables_1_9, tables_1_10] : List (List Cond))[k / 240]? with
  | none => rw [q] at h1; exact absurd h1 List.not_mem_nil
  | some L =>
    rw [q] at h1
    have h2 : w ∈ ([tables_1_1, tables_1_2, tables_1_3, tables_1_4, tables_1_5, tables_1_6, tables_1_7, tables_1_8, tables_1_9, tables_1_10] : List (List Cond)).flatten := List.mem_flatten.mpr ⟨L, List.mem_of_getElem? q, h1⟩
    rw [List.flatten_cons, List.flatten_cons, List.flatten_cons, List.flatten_cons, List.flatten_cons, List.flatten_cons, List.flatten_cons, List.flatten_cons, List.flatten_cons, List.flatten_cons, List.flatten_nil, List.append_nil] at h2
    exact h2
theorem tw_in {k : Nat} {w : Cond} (h : tw k w = true) : w ∈ lwG := by
  unfold tw at h
  rw [Bool.and_eq_true, decide_eq_true_eq] at h
  exact List.mem_filter.mpr ⟨List.mem_append_right _ (tbl_in h.1), h.2⟩
def yAbs : MethodName := ⟨"java/lang/Math", "abs", "(J)J"⟩
def yMax : MethodName := ⟨"java/lang/Math", "max", "(II)I"⟩
def yMin : MethodName := ⟨"java/lang/Math", "min", "(II)I"⟩
def yCh : MethodName := ⟨"java/lang/String", "charAt", "(I)C"⟩
def plc : List (Int32 × Nat) → Nat
  | (_, p) :: _ => p
  | [] => 0
def plc2 : List (Int32 × Nat) → Nat
  | _ :: (_, p) :: _ => p
  | _ => 0
def iln : Instr → Nat
  | .bipush _ | .ldc _ | .iload _ | .lload _ | .aload _ | .istore _ | .lstore _ | .astore _ | .newarray _ => 2
  | .sipush _ | .ldc_w _ | .ldc2_w _ | .iinc _ _ | .getfield _ | .putfield _ | .new _ | .anewarray _ | .invokestatic _ | .invokevirtual _ | .invokespecial _ | .goto _ | .if_icmp _ _ | .ifCond _ _ | .ifnull _ | .ifnonnull _ => 3
  | _ => 1
/-- a field's instruction: class d, field k -/
def fldB (own : String) (idx d k pl : Nat) : Bool := Nat.ble 900000 d && (match clT[d - 900000]? with
  | some (C, T, N) => decide (k < N) && (decide ((T k).1 = C) && tw pl (.fieldLink own idx C (T k).2.1 (T k).2.2.1))
  | none => false)
theorem fldB_ok {own : String} {idx d k pl : Nat} (h : fldB own idx d k pl = true) : ∃ ci C T N, d = 900000 + ci ∧ fldOk own idx ci k C T N := by
  unfold fldB at h
  rw [Bool.and_eq_true] at h
  obtain ⟨h0, h⟩ := h
  have h0 := Nat.le_of_ble_eq_true h0
  cases q : clT[d - 900000]? with
  | none => rw [q] at h; cases h
  | some z =>
    obtain ⟨C, T, N⟩ := z
    rw [q] at h
    have h : (decide (k < N) && (decide ((T k).1 = C) && tw pl (.fieldLink own idx C (T k).2.1 (T k).2.2.1))) = true := h
    rw [Bool.and_eq_true, Bool.and_eq_true, decide_eq_true_eq, decide_eq_true_eq] at h
    exact ⟨d - 900000, C, T, N, by omega, q, h.1, h.2.1, tw_in h.2.2⟩
def fldI (T : u_T) (k : Nat) : Bool := decide (parseFieldDescriptor (T k).2.2.1 = some .int) && decide ((T k).2.2.2 = false)
def fldF (C own : String) (T : u_T) (k : Nat) : Bool := decide (C = own) && decide ((T k).2.2.2 = true)
theorem fldI_ok {T : u_T} {k : Nat} (h : fldI T k = true) : parseFieldDescriptor (T k).2.2.1 = some .int ∧ (T k).2.2.2 = false := by
  unfold fldI at h
  rw [Bool.and_eq_true, decide_eq_true_eq, decide_eq_true_eq] at h
  exact h
theorem fldF_ok {C own : String} {T : u_T} {k : Nat} (h : fldF C own T k = true) : C = own ∧ (T k).2.2.2 = true := by
  unfold fldF at h
  rw [Bool.and_eq_true, decide_eq_true_eq, decide_eq_true_eq] at h
  exact h
/-- the field is a number that may be written -/
def fldW (ci k : Nat) : Bool := match clT[ci]? with
  | some (_, T, _) => fldI T k
  | none => false
/-- a reference that a constructor sets -/
def fldV (ci k : Nat) (own : String) : Bool := match clT[ci]? with
  | some (C, T, _) => fldF C own T k
  | none => false
theorem fldW_ok {k ci : Nat} {C : String} {T : u_T} {N : Nat} (hc : clT[ci]? = some (C, T, N)) (h : fldW ci k = true) : parseFieldDescriptor (T k).2.2.1 = some .int ∧ (T k).2.2.2 = false := by
  unfold fldW at h
  rw [hc] at h
  exact fldI_ok h
theorem fldV_ok {k ci : Nat} {own : String} {C : String} {T : u_T} {N : Nat} (hc : clT[ci]? = some (C, T, N)) (h : fldV ci k own = true) : C = own ∧ (T k).2.2.2 = true := by
  unfold fldV at h
  rw [hc] at h
  exact fldF_ok h
def newB (own : String) (idx a b c pl : Nat) : Bool := Nat.ble 900000 a && (match clT[a - 900000]? with
  | some (C, _, N) => Nat.beq b (100 * (a - 900000 + 1)) && (Nat.beq c N && tw pl (.classLink own idx C))
  | none => false)
theorem newB_ok {own : String} {idx a b c pl : Nat} (h : newB own idx a b c pl = true) : ∃ ci C T N, a = 900000 + ci ∧ clT[ci]? = some (C, T, N) ∧ b = 100 * (ci + 1) ∧ c = N ∧ Cond.classLink own idx C ∈ lwG := by
  unfold newB at h
  rw [Bool.and_eq_true] at h
  obtain ⟨h0, h⟩ := h
  have h0 := Nat.le_of_ble_eq_true h0
  cases q : clT[a - 900000]? with
  | none => rw [q] at h; cases h
  | some z =>
    obtain ⟨C, T, N⟩ := z
    rw [q] at h
    have h : (Nat.beq b (100 * (a - 900000 + 1)) && (Nat.beq c N && tw pl (.classLink own idx C))) = true := h
    rw [Bool.and_eq_true, Bool.and_eq_true] at h
    exact ⟨a - 900000, C, T, N, by omega, q, Nat.eq_of_beq_eq_true h.1, Nat.eq_of_beq_eq_true h.2.1, tw_in h.2.2⟩
/-- an object's class has its name -/
def clNm (d : Nat) (y : MethodName) : Bool := Nat.ble 900000 d && (match clT[d - 900000]? with
  | some (C, _, _) => decide (C = y.cls)
  | none => false)
theorem clNm_ok {d : Nat} {y : MethodName} (h : clNm d y = true) : ∃ ci T N, d = 900000 + ci ∧ clT[ci]? = some (y.cls, T, N) := by
  unfold clNm at h
  rw [Bool.and_eq_true] at h
  obtain ⟨h0, h⟩ := h
  have h0 := Nat.le_of_ble_eq_true h0
  cases q : clT[d - 900000]? with
  | none => rw [q] at h; cases h
  | some z =>
    obtain ⟨C, T, N⟩ := z
    rw [q] at h
    have h : decide (C = y.cls) = true := h
    rw [decide_eq_true_eq] at h
    subst h
    exact ⟨d - 900000, T, N, by omega, q⟩
/-- a constructor's mask names all references -/
def maskB (d c : Nat) : Bool := (List.range (clN (d - 900000))).all fun k => Nat.beq (fkO (d - 900000) k).1 0 || c.testBit k
/-- a row of the methods' table: the method, its parameters without the receiver -/
abbrev MT : Type := ME × Nat
def typB (t : ArrayType) (a : Nat) : Bool := match t with
  | .int => isRow a 0
  | .byte => isRow a 1
  | .boolean => isRow a 2
  | .long => isRow a 3
  | _ => false
def ckR (own : String) (ini law : Bool) (nL : Nat) (mt : Nat → Option MT) (i : MI) : Bool :=
  match i with
  | (ins, cst, a, b, c, d, ts) => match ins with
    | .iconst n => decide (cst = vI (Int32.ofInt n))
    | .bipush n => decide (cst = vI (Int8.ofInt n).toInt32)
    | .sipush n => decide (cst = vI (Int16.ofInt n).toInt32)
    | .lconst n => decide (cst = vL (Int64.ofNat (n : Nat)))
    | .ldc idx => match cst with
      | .inl v => tw (plc ts) (.constant own idx v)
      | _ => decide (cst = vR 98 0) && (decide (own = RX6) && Nat.beq idx 79)
    | .ldc_w idx => match cst with
      | .inl v => tw (plc ts) (.constant own idx v)
      | _ => false
    | .ldc2_w idx => match cst with
      | .inr (.inl v) => tw (plc ts) (.constantLong own idx v)
      | _ => false
    | .aconst_null => decide (cst = vN)
    | .iload x | .lload x | .aload x => Nat.beq x a
    | .iload_n x | .lload_n x | .aload_n x => Nat.beq x a
    | .istore x | .astore x => Nat.beq x a && Nat.blt a nL
    | .istore_n x | .astore_n x => Nat.beq x a && Nat.blt a nL
    | .lstore x => Nat.beq x a && Nat.blt (a + 1) nL
    | .lstore_n x => Nat.beq x a && Nat.blt (a + 1) nL
    | .iinc x n => decide (cst = vI (Int32.ofInt n)) && (Nat.beq x a && Nat.blt a nL)
    | .arraylength => cond (Nat.beq a 1) law (Nat.blt b 4)
    | .iaload => cond (Nat.beq a 1) law true
    | .baload => Nat.beq b 1 || Nat.beq b 2
    | .aaload => (Nat.beq b 4 || Nat.beq b 5) && Nat.beq c (tgtT b)
    | .aastore => (Nat.beq b 4 || Nat.beq b 5) && Nat.beq c (tgtT b)
    | .getfield idx => match Nat.beq a 0 with
      | true => fldB own idx d c (plc ts) && (Nat.beq (fkO (d - 900000) c).1 0 && Nat.beq b (100 * (d - 900000 + 1) + c))
      | false => match Nat.beq a 1 with
        | true => fldB own idx d c (plc ts) && (Nat.beq (fkO (d - 900000) c).1 1 && Nat.beq b (fkO (d - 900000) c).2.1)
        | false => (decide (own = "PuntYard$Bill") && (Nat.beq idx 9 && (Nat.beq d 900010 && (Nat.beq b 900001 && Nat.beq c 0)))) || (fldB own idx d (plc2 ts) (plc ts) && (Nat.beq (fkO (d - 900000) (plc2 ts)).1 2 && (Nat.beq b (fkO (d - 900000) (plc2 ts)).2.1 && Nat.beq c (fkO (d - 900000) (plc2 ts)).2.2)))
    | .putfield idx => match Nat.beq a 0 with
      | true => fldB own idx d c (plc ts) && (Nat.beq (fkO (d - 900000) c).1 0 && (Nat.beq b (100 * (d - 900000 + 1) + c) && fldW (d - 900000) c))
      | false => match Nat.beq a 1 with
        | true => ini && (fldB own idx d c (plc ts) && (Nat.beq (fkO (d - 900000) c).1 1 && (Nat.beq b (fkO (d - 900000) c).2.1 && fldV (d - 900000) c own)))
        | false => ini && (fldB own idx d (c % 100) (plc ts) && (Nat.beq (fkO (d - 900000) (c % 100)).1 2 && (Nat.beq b (fkO (d - 900000) (c % 100)).2.1 && (Nat.beq (c / 100) (fkO (d - 900000) (c % 100)).2.2 && fldV (d - 900000) (c % 100) own))))
    | .new idx => newB own idx a b c (plc ts)
    | .newarray t => typB t a
    | .anewarray idx => (isRow a 4 && tw (plc ts) (.classLink own idx RX5)) || (isRow a 5 && tw (plc ts) (.classLink own idx RX9))
    | .invokestatic idx => match Nat.beq a 900 with
      | true => tw (plc ts) (.methodLink own idx arraycopyName)
      | false => match mt a with
        | some q => tw (plc ts) (.methodLink own idx q.1.1) && (Nat.beq q.1.2.2.2.2.1 0 && Nat.beq b q.2)
        | none => false
    | .invokevirtual idx => match Nat.beq a 902 with
      | true => tw (plc ts) (.methodLink own idx yCh) && (Nat.beq d 98 && (Nat.beq b 2 && Nat.beq c 1))
      | false => match mt a with
        | some q => tw (plc ts) (.methodLink own idx q.1.1) && (Nat.beq q.1.2.2.2.2.1 1 && (Nat.beq b (q.2 + 1) && clNm d q.1.1))
        | none => false
    | .invokespecial idx => match Nat.beq a 901 with
      | true => tw (plc ts) (.methodLink own idx Lib.objectInit)
      | false => match mt a with
        | some q => tw (plc ts) (.methodLink own idx q.1.1) && (Nat.beq q.1.2.2.2.2.1 2 && (Nat.beq b (q.2 + 1) && (clNm d q.1.1 && maskB d c)))
        | none => false
    | _ => true
def ckI (own : String) (ini law : Bool) (nL : Nat) (cc : ByteArray) (mt : Nat → Option MT) (pc : Nat) (i : MI) : Bool := decide (decode cc pc = .ok (i.1, iln i.1)) && ckR own ini law nL mt i
def Inv (lo : List (Option MV)) (st : List MV) (h : MH) : Prop := Wf h ∧ oks h st ∧ ∀ i v, lk lo i = some v → vok h v
abbrev PT : Type := Nat × List (Option MV) × List MV × MH
/-- from x one comes to y: whatever holds behind y holds behind x -/
def Fr (l : Launch) (own : String) (ini law : Bool) (cc : ByteArray) (nL L : Nat) (scr : Nat → Int32) (d : Nat) (x y : PT) : Prop :=
  ∀ {p : Program} {e : Env} {R : Room} {s : State} {m : MethodId} {args : Array Value} {below : List Frame} {meth : Method} {c : Code} {Q : State → Prop} {Ts : List Cond} {D : va_G} {dA : Nat → ClassId} {base : Nat} {ad0 : Nat → Nat → Nat} {h0 : MH},
    Fix p s m args c cc nL own Ts D dA base ad0 → (ini = true → meth.name = "<init>") → (law = true → ∃ b, va_X b L scr s s.heap ∧ b < base ∧ ∀ n, ad0 99 n = b) → (d + 1 ≤ R.frames ∧ 80 * d + 60 ≤ R.locals) →
    (hc y.2.2.2 ≤ hc h0 + R.cells ∧ hs y.2.2.2 ≤ hs h0 + R.slots) → AtW p l e R s m args below meth c Q nL D dA base ad0 h0 y.1 y.2.1 y.2.2.1 y.2.2.2 → AtW p l e R s m args below meth c Q nL D dA base ad0 h0 x.1 x.2.1 x.2.2.1 x.2.2.2
theorem no_some {α : Type} {x : α} {C : Prop} (h : (none : Option α) = some x) : C := by cases h
/-- java.lang.Math's own (335 abs of longs, 336 max, 337 min of ints) -/
def mathB (j : Nat) : Bool := Nat.beq j 335 || (Nat.beq j 336 || Nat.beq j 337)
def mathM (j : Nat) (as : List MV) (h : MH) : Option (Option MV × MH) := match as with
  | [.inr (.inl x)] => match Nat.beq j 335 with
    | true => some (some (vL (if 0 < x then x else -x)), h)
    | false => none
  | [.inl x, .inl y] => match Nat.beq j 336 with
    | true => some (some (vI (if x < y then y else x)), h)
    | false => match Nat.beq j 337 with
      | true => some (some (vI (if y < x then y else x)), h)
      | false => none
  | _ => none
theorem mathM_inv {j : Nat} {as : List MV} {h h1 : MH} {r : Option MV} (e : mathM j as h = some (r, h1)) : h1 = h ∧ ((j = 335 ∧ ∃ x, as = [vL x] ∧ r = some (vL (if 0 < x then x else -x))) ∨ (j = 336 ∧ ∃ x y, as = [vI x, vI y] ∧ r = some (vI (if x < y then y else x))) ∨ (j = 337 ∧ ∃ x y, as = [vI x, vI y] ∧ r = some (vI (if y < x then y else x)))) := by
  rcases as with _ | ⟨x | x | x, _ | ⟨y | y, _ | ⟨z, as⟩⟩⟩
  all_goals first
    | exact no_some e
    | skip
  · replace e : (match Nat.beq j 336 with
      | true => some (some (vI (if x < y then y else x)), h)
      | false => match Nat.beq j 337 with
        | true => some (some (vI (if y < x then y else x)), h)
        | false => none) = some (r, h1) := e
    cases e1 : Nat.beq j 336 with
    | true =>
      rw [e1] at e
      obtain ⟨a1, a2⟩ := Prod.mk.inj (Option.some.inj e)
      exact ⟨a2.symm, Or.inr (Or.inl ⟨Nat.eq_of_beq_eq_true e1, x, y, rfl, a1.symm⟩)⟩
    | false =>
      rw [e1] at e
      cases e2 : Nat.beq j 337 with
      | true =>
        rw [e2] at e
        obtain ⟨a1, a2⟩ := Prod.mk.inj (Option.some.inj e)
        exact ⟨a2.symm, Or.inr (Or.inr ⟨Nat.eq_of_beq_eq_true e2, x, y, rfl, a1.symm⟩)⟩
      | false => rw [e2] at e; exact no_some e
  · replace e : (match Nat.beq j 335 with
      | true => some (some (vL (if 0 < x then x else -x)), h)
      | false => none) = some (r, h1) := e
    cases e1 : Nat.beq j 335 with
    | true =>
      rw [e1] at e
      obtain ⟨a1, a2⟩ := Prod.mk.inj (Option.some.inj e)
      exact ⟨a2.symm, Or.inl ⟨Nat.eq_of_beq_eq_true e1, x, rfl, a1.symm⟩⟩
    | false => rw [e1] at e; exact no_some e
/-- what a call's oracle is: each answer keeps the heap's order and has its contract -/
def CalOk (l : Launch) (mt : Nat → Option MT) (d : Nat) (cal : Cal) : Prop := ∀ (j : Nat) (as : List MV) (h : MH) (r : Option MV) (h1 : MH), cal j as h = some (r, h1) → Wf h → oks h as →
  Mono h h1 ∧ Wf h1 ∧ (∀ v, r = some v → vok h1 v) ∧ (j ≠ 902 → ∃ q, mt j = some q ∧ (mathB j = false → Con l d q.1 as h r h1) ∧ (mathB j = true → mathM j as h = some (r, h1))) ∧ (j = 902 → ∃ i : Int32, as = [vR 98 0, vI i] ∧ ¬ oob i 184 ∧ r = some (vI (wordsB.getD (ix i) 0)) ∧ h1 = h ∧ 4 ≤ d)
def ChOk (l : Launch) (own : String) (ini law : Bool) (cc : ByteArray) (nL L : Nat) (scr : Nat → Int32) (d : Nat) : Prop := ∀ (pc idx : Nat) (lo : List (Option MV)) (i : Int32) (r : List MV) (h : MH), 4 ≤ d → decode cc pc = .ok (.invokevirtual idx, 3) → Cond.methodLink own idx yCh ∈ lwG → ¬ oob i 184 → cat r ≤ 8 → Fr l own ini law cc nL L scr d (pc, lo, vI i :: vR 98 0 :: r, h) (pc + 3, lo, vI (wordsB.getD (ix i) 0) :: r, h)
/-- the tables' words of each method -/
def MtOk (mt : Nat → Option MT) : Prop := (mt 902 = none ∧ (∀ q, mt 335 = some q → q.1.1 = yAbs) ∧ (∀ q, mt 336 = some q → q.1.1 = yMax) ∧ (∀ q, mt 337 = some q → q.1.1 = yMin) ∧ (∀ j q, mathB j = true → mt j = some q → q.1.2.2.2.2.1 = 0)) ∧ ∀ j q, mt j = some q → meOk q.1 q.2 ∧ (q.1.2.2.2.2.1 = 0 → Cond.static q.1.1 ∈ lwG) ∧ (q.1.2.2.2.2.1 = 1 → Cond.instanceMethod q.1.1 ∈ lwG ∧ Cond.selects q.1.1.cls q.1.1 q.1.1 ∈ lwG) ∧ (q.1.2.2.2.2.1 = 2 → Cond.instanceMethod q.1.1 ∈ lwG ∧ q.1.1.name = "<init>" ∧ q.1.2.2.2.1 = none)

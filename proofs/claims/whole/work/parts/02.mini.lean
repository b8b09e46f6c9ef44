/-! THE SMALL MACHINE: values, heap by sites, one method's blocks, runs by depth -/
abbrev MV : Type := Int32 ⊕ (Int64 ⊕ ((Nat × Nat) ⊕ ((Nat × Nat) ⊕ Unit)))
abbrev vI (x : Int32) : MV := .inl x
abbrev vL (x : Int64) : MV := .inr (.inl x)
/-- a cell that is whole: site and instance -/
abbrev vR (s n : Nat) : MV := .inr (.inr (.inl (s, n)))
/-- a cell that is being made -/
abbrev vU (s n : Nat) : MV := .inr (.inr (.inr (.inl (s, n))))
abbrev vN : MV := .inr (.inr (.inr (.inr ())))
/-- ints, longs, references, cells made, cells whole, final fields set, cells and slots made in all -/
abbrev MH : Type := (Nat → Nat → Nat → Int32) × (Nat → Nat → Nat → Int64) × (Nat → Nat → Nat → Option Nat) × (Nat → Nat) × (Nat → Nat) × (Nat → Nat → Bool) × Nat × Nat
def hI (h : MH) (s n i : Nat) : Int32 := h.1 s n i
def hJ (h : MH) (s n i : Nat) : Int64 := h.2.1 s n i
def hR (h : MH) (s n i : Nat) : Option Nat := h.2.2.1 s n i
def hC (h : MH) (s : Nat) : Nat := h.2.2.2.1 s
def hD (h : MH) (s : Nat) : Nat := h.2.2.2.2.1 s
def hZ (h : MH) (s k : Nat) : Bool := h.2.2.2.2.2.1 s k
def hc (h : MH) : Nat := h.2.2.2.2.2.2.1
def hs (h : MH) : Nat := h.2.2.2.2.2.2.2
def sI (h : MH) (s n i : Nat) (v : Int32) : MH := (fun a b c => if a = s ∧ b = n ∧ c = i then v else h.1 a b c, h.2)
def sJ (h : MH) (s n i : Nat) (v : Int64) : MH := (h.1, fun a b c => if a = s ∧ b = n ∧ c = i then v else h.2.1 a b c, h.2.2)
def sR (h : MH) (s n i : Nat) (v : Option Nat) : MH := (h.1, h.2.1, fun a b c => if a = s ∧ b = n ∧ c = i then v else h.2.2.1 a b c, h.2.2.2)
/-- copying ints between two rows -/
def cpI (h : MH) (s n p t m q len : Nat) : MH := (fun a b c => if a = t ∧ b = m ∧ q ≤ c ∧ c < q + len then h.1 s n (p + (c - q)) else h.1 a b c, h.2)
def cpJ (h : MH) (s n p t m q len : Nat) : MH := (h.1, fun a b c => if a = t ∧ b = m ∧ q ≤ c ∧ c < q + len then h.2.1 s n (p + (c - q)) else h.2.1 a b c, h.2.2)
/-- a new object of class s (its scalars have the keys w .. w + 99), N fields -/
def newO (h : MH) (s w N : Nat) : MH :=
  (fun a b c => if w ≤ a ∧ a < w + 100 ∧ b = h.2.2.2.1 s then 0 else h.1 a b c, h.2.1, h.2.2.1, fun a => if a = s then h.2.2.2.1 a + 1 else h.2.2.2.1 a, h.2.2.2.2.1, fun a k => if a = s then false else h.2.2.2.2.2.1 a k, h.2.2.2.2.2.2.1 + 1, h.2.2.2.2.2.2.2 + N)
/-- a new row at site s -/
def newA (h : MH) (s N : Nat) : MH :=
  (fun a b c => if a = s ∧ b = h.2.2.2.1 s then 0 else h.1 a b c, fun a b c => if a = s ∧ b = h.2.2.2.1 s then 0 else h.2.1 a b c, fun a b c => if a = s ∧ b = h.2.2.2.1 s then none else h.2.2.1 a b c, fun a => if a = s then h.2.2.2.1 a + 1 else h.2.2.2.1 a, h.2.2.2.2.1, h.2.2.2.2.2.1, h.2.2.2.2.2.2.1 + 1, h.2.2.2.2.2.2.2 + N)
def setZ (h : MH) (s k : Nat) : MH := (h.1, h.2.1, h.2.2.1, h.2.2.2.1, h.2.2.2.2.1, fun a b => if a = s ∧ b = k then true else h.2.2.2.2.2.1 a b, h.2.2.2.2.2.2)
def whole (h : MH) (s n : Nat) : MH := (h.1, h.2.1, h.2.2.1, h.2.2.2.1, fun a => if a = s then n + 1 else h.2.2.2.2.1 a, h.2.2.2.2.2)
abbrev Exit : Type := (Nat × List (Option MV) × List MV × MH) ⊕ (Option MV × MH)
abbrev Cal : Type := Nat → List MV → MH → Option (Option MV × MH)
/-- an instruction: as decoded; a constant; three numbers; a number for the check; the targets of a switch -/
abbrev MI : Type := Instr × MV × Nat × Nat × Nat × Nat × List (Int32 × Nat)
abbrev Blk : Type := Nat × List MI × Nat
abbrev oob (i : Int32) (n : Nat) : Prop := i < 0 ∨ n ≤ i.toNatClampNeg
abbrev ix (i : Int32) : Nat := i.toNatClampNeg
/-- of a site: is it a row of type t; its length -/
def isRow (s t : Nat) : Bool := Nat.beq (s / 100000 % 10) t && Nat.ble 1000000 s
def lenOf (s : Nat) : Nat := s % 100000
def lk : List (Option MV) → Nat → Option MV
  | [], _ => none
  | x :: _, 0 => x
  | _ :: r, i + 1 => lk r i
def isL : Option MV → Bool
  | some (.inr (.inl _)) => true
  | _ => false
/-- a local of one word -/
def st1 : List (Option MV) → Nat → MV → List (Option MV)
  | [], _, _ => []
  | _ :: r, 0, v => some v :: r
  | x :: r, i + 1, v => cond (Nat.beq i 0 && isL x) none x :: st1 r i v
/-- a local of two words -/
def st2 : List (Option MV) → Nat → MV → List (Option MV)
  | [], _, _ => []
  | _ :: _ :: r, 0, v => some v :: none :: r
  | _ :: [], 0, _ => [none]
  | x :: r, i + 1, v => cond (Nat.beq i 0 && isL x) none x :: st2 r i v
/-- words on a stack -/
def cat : List MV → Nat
  | [] => 0
  | .inr (.inl _) :: r => cat r + 2
  | _ :: r => cat r + 1
/-- the first n of a stack, turned round, and the rest -/
def spl : Nat → List MV → List MV → Option (List MV × List MV)
  | 0, acc, st => some (acc, st)
  | _ + 1, _, [] => none
  | n + 1, acc, v :: st => spl n (v :: acc) st
section Steps
variable {X : Type}
/-- the length of a row of type t -/
def aln (t s : Nat) (k : Int32 → Option X) : Option X := if isRow s t = true then k (Int32.ofNat (lenOf s)) else none
def rdI (t : Nat) (h : MH) (s n : Nat) (i : Int32) (k : Int32 → Option X) : Option X := if isRow s t = true ∧ ¬ oob i (lenOf s) then k (hI h s n (ix i)) else none
def rdJ (h : MH) (s n : Nat) (i : Int32) (k : Int64 → Option X) : Option X := if isRow s 3 = true ∧ ¬ oob i (lenOf s) then k (hJ h s n (ix i)) else none
def rdR (t : Nat) (h : MH) (s n : Nat) (i : Int32) (k : Nat → Option X) (z : Option X) : Option X := if isRow s t = true ∧ ¬ oob i (lenOf s) then (match hR h s n (ix i) with
  | some m => k m
  | none => z) else none
def rdS (L : Nat) (scr : Nat → Int32) (i : Int32) (k : Int32 → Option X) : Option X := if oob i L then none else k (scr (ix i))
def wrI (t : Nat) (h : MH) (s n : Nat) (i v : Int32) (k : MH → Option X) : Option X := if isRow s t = true ∧ ¬ oob i (lenOf s) then k (sI h s n (ix i) v) else none
def wrJ (h : MH) (s n : Nat) (i : Int32) (v : Int64) (k : MH → Option X) : Option X := if isRow s 3 = true ∧ ¬ oob i (lenOf s) then k (sJ h s n (ix i) v) else none
def wrR (t : Nat) (h : MH) (s n : Nat) (i : Int32) (v : Nat) (k : MH → Option X) : Option X := if isRow s t = true ∧ ¬ oob i (lenOf s) then k (sR h s n (ix i) (some v)) else none
def dvI (y : Int32) (k : Option X) : Option X := if y = 0 then none else k
def dvJ (y : Int64) (k : Option X) : Option X := if y = 0 then none else k
def clV (r : Option (Option MV × MH)) (k : MH → Option X) : Option X := match r with
  | some (none, h) => k h
  | _ => none
def clI (r : Option (Option MV × MH)) (k : Int32 → MH → Option X) : Option X := match r with
  | some (some (.inl x), h) => k x h
  | _ => none
def clJ (r : Option (Option MV × MH)) (k : Int64 → MH → Option X) : Option X := match r with
  | some (some (.inr (.inl x)), h) => k x h
  | _ => none
def clR (c : Nat) (r : Option (Option MV × MH)) (k : Nat → MH → Option X) : Option X := match r with
  | some (some (.inr (.inr (.inl q))), h) => if q.1 = c then k q.2 h else none
  | _ => none
/-- System.arraycopy of ints, of longs: within both rows -/
def cpyI (h : MH) (s n : Nat) (p : Int32) (t m : Nat) (q len : Int32) (k : MH → Option X) : Option X :=
  if isRow s 0 = true ∧ isRow t 0 = true ∧ ¬ (p < 0 ∨ q < 0 ∨ len < 0 ∨ lenOf s < ix p + ix len ∨ lenOf t < ix q + ix len) then k (cpI h s n (ix p) t m (ix q) (ix len)) else none
def cpyJ (h : MH) (s n : Nat) (p : Int32) (t m : Nat) (q len : Int32) (k : MH → Option X) : Option X :=
  if isRow s 3 = true ∧ isRow t 3 = true ∧ ¬ (p < 0 ∨ q < 0 ∨ len < 0 ∨ lenOf s < ix p + ix len ∨ lenOf t < ix q + ix len) then k (cpJ h s n (ix p) t m (ix q) (ix len)) else none
end Steps
def rtZ (v : Int32) (h : MH) : Option Exit := if v = 0 ∨ v = 1 then some (.inr (some (vI v), h)) else none
/-- an instruction that goes on to the next -/
def ex1 (L : Nat) (scr : Nat → Int32) (cal : Cal) (i : MI) (l : List (Option MV)) (st : List MV) (h : MH) (k : List (Option MV) → List MV → MH → Option Exit) : Option Exit :=
  match i with
  | (ins, cst, a, b, c, d, _) => match ins with
    | .iconst _ | .bipush _ | .sipush _ | .ldc _ | .ldc_w _ | .lconst _ | .ldc2_w _ | .aconst_null => k l (cst :: st) h
    | .iload _ | .iload_n _ => match lk l a with
      | some (.inl x) => k l (vI x :: st) h
      | _ => none
    | .lload _ | .lload_n _ => match lk l a with
      | some (.inr (.inl x)) => k l (vL x :: st) h
      | _ => none
    | .aload _ | .aload_n _ => match lk l a with
      | some (.inr (.inr v)) => k l (.inr (.inr v) :: st) h
      | _ => none
    | .istore _ | .istore_n _ => match st with
      | .inl x :: r => k (st1 l a (vI x)) r h
      | _ => none
    | .lstore _ | .lstore_n _ => match st with
      | .inr (.inl x) :: r => k (st2 l a (vL x)) r h
      | _ => none
    | .astore _ | .astore_n _ => match st with
      | .inr (.inr v) :: r => k (st1 l a (.inr (.inr v))) r h
      | _ => none
    | .iinc _ _ => match cst, lk l a with
      | .inl y, some (.inl x) => k (st1 l a (vI (x + y))) st h
      | _, _ => none
    | .dup => match st with
      | .inl x :: r => k l (vI x :: vI x :: r) h
      | .inr (.inr v) :: r => k l (.inr (.inr v) :: .inr (.inr v) :: r) h
      | _ => none
    | .dup2 => match st with
      | .inl x :: .inr (.inr v) :: r => k l (vI x :: .inr (.inr v) :: vI x :: .inr (.inr v) :: r) h
      | _ => none
    | .pop => match st with
      | .inl _ :: r => k l r h
      | _ => none
    | .iadd => match st with
      | .inl y :: .inl x :: r => k l (vI (x + y) :: r) h
      | _ => none
    | .isub => match st with
      | .inl y :: .inl x :: r => k l (vI (x - y) :: r) h
      | _ => none
    | .imul => match st with
      | .inl y :: .inl x :: r => k l (vI (x * y) :: r) h
      | _ => none
    | .iand => match st with
      | .inl y :: .inl x :: r => k l (vI (x &&& y) :: r) h
      | _ => none
    | .ior => match st with
      | .inl y :: .inl x :: r => k l (vI (x ||| y) :: r) h
      | _ => none
    | .ixor => match st with
      | .inl y :: .inl x :: r => k l (vI (x ^^^ y) :: r) h
      | _ => none
    | .ishl => match st with
      | .inl y :: .inl x :: r => k l (vI (x <<< (y &&& 31)) :: r) h
      | _ => none
    | .ishr => match st with
      | .inl y :: .inl x :: r => k l (vI (x >>> (y &&& 31)) :: r) h
      | _ => none
    | .iushr => match st with
      | .inl y :: .inl x :: r => k l (vI ((x.toUInt32 >>> (y.toUInt32 &&& Int32.toUInt32 31)).toInt32) :: r) h
      | _ => none
    | .ineg => match st with
      | .inl x :: r => k l (vI (-x) :: r) h
      | _ => none
    | .idiv => match st with
      | .inl y :: .inl x :: r => dvI y (k l (vI (x / y) :: r) h)
      | _ => none
    | .irem => match st with
      | .inl y :: .inl x :: r => dvI y (k l (vI (x % y) :: r) h)
      | _ => none
    | .i2l => match st with
      | .inl x :: r => k l (vL x.toInt64 :: r) h
      | _ => none
    | .i2b => match st with
      | .inl x :: r => k l (vI x.toInt8.toInt32 :: r) h
      | _ => none
    | .l2i => match st with
      | .inr (.inl x) :: r => k l (vI x.toInt32 :: r) h
      | _ => none
    | .ladd => match st with
      | .inr (.inl y) :: .inr (.inl x) :: r => k l (vL (x + y) :: r) h
      | _ => none
    | .lmul => match st with
      | .inr (.inl y) :: .inr (.inl x) :: r => k l (vL (x * y) :: r) h
      | _ => none
    | .land => match st with
      | .inr (.inl y) :: .inr (.inl x) :: r => k l (vL (x &&& y) :: r) h
      | _ => none
    | .lor => match st with
      | .inr (.inl y) :: .inr (.inl x) :: r => k l (vL (x ||| y) :: r) h
      | _ => none
    | .lxor => match st with
      | .inr (.inl y) :: .inr (.inl x) :: r => k l (vL (x ^^^ y) :: r) h
      | _ => none
    | .lneg => match st with
      | .inr (.inl x) :: r => k l (vL (-x) :: r) h
      | _ => none
    | .lshl => match st with
      | .inl y :: .inr (.inl x) :: r => k l (vL (x <<< (y.toInt64 &&& 63)) :: r) h
      | _ => none
    | .lushr => match st with
      | .inl y :: .inr (.inl x) :: r => k l (vL ((x.toUInt64 >>> (y.toInt64.toUInt64 &&& 63)).toInt64) :: r) h
      | _ => none
    | .ldiv => match st with
      | .inr (.inl y) :: .inr (.inl x) :: r => dvJ y (k l (vL (x / y) :: r) h)
      | _ => none
    | .lrem => match st with
      | .inr (.inl y) :: .inr (.inl x) :: r => dvJ y (k l (vL (x % y) :: r) h)
      | _ => none
    | .lcmp => match st with
      | .inr (.inl y) :: .inr (.inl x) :: r => k l (vI (if x < y then -1 else if y < x then 1 else 0) :: r) h
      | _ => none
    | .arraylength => match st with
      | .inr (.inr (.inl (s, _))) :: r => (match (Nat.beq a 1) with | true => ((match (Nat.beq s 99) with | true => (k l (vI (Int32.ofNat L) :: r) h) | false => none)) | false => (aln b s fun x => k l (vI x :: r) h))
      | _ => none
    | .iaload => match st with
      | .inl i :: .inr (.inr (.inl (s, n))) :: r => (match (Nat.beq a 1) with | true => ((match (Nat.beq s 99) with | true => (rdS L scr i fun x => k l (vI x :: r) h) | false => none)) | false => (rdI 0 h s n i fun x => k l (vI x :: r) h))
      | _ => none
    | .baload => match st with
      | .inl i :: .inr (.inr (.inl (s, n))) :: r => rdI b h s n i fun x => k l (vI x :: r) h
      | _ => none
    | .laload => match st with
      | .inl i :: .inr (.inr (.inl (s, n))) :: r => rdJ h s n i fun x => k l (vL x :: r) h
      | _ => none
    | .aaload => match st with
      | .inl i :: .inr (.inr (.inl (s, n))) :: r => rdR b h s n i (fun m => k l (vR c m :: r) h) (k l (vN :: r) h)
      | _ => none
    | .iastore => match st with
      | .inl x :: .inl i :: .inr (.inr (.inl (s, n))) :: r => wrI 0 h s n i x fun h => k l r h
      | _ => none
    | .bastore => match st with
      | .inl x :: .inl i :: .inr (.inr (.inl (s, n))) :: r => (match (Nat.beq b 1) with | true => (wrI 1 h s n i x.toInt8.toInt32 fun h => k l r h) | false => (wrI 2 h s n i (x &&& 1) fun h => k l r h))
      | _ => none
    | .lastore => match st with
      | .inr (.inl x) :: .inl i :: .inr (.inr (.inl (s, n))) :: r => wrJ h s n i x fun h => k l r h
      | _ => none
    | .aastore => match st with
      | .inr (.inr (.inl (t, m))) :: .inl i :: .inr (.inr (.inl (s, n))) :: r => (match (Nat.beq t c) with | true => (wrR b h s n i m fun h => k l r h) | false => none)
      | _ => none
    | .getfield _ => match st with
      | .inr (.inr (.inl (s, n))) :: r => (match (Nat.beq s d) with | true => ((match (Nat.beq a 0) with | true => (k l (vI (hI h b n 0) :: r) h) | false => ((match (Nat.beq a 1) with | true => (k l (vR b n :: r) h) | false => (k l (vR b c :: r) h))))) | false => none)
      | .inr (.inr (.inr (.inl (s, n)))) :: r => (match (Nat.beq s d && Nat.beq a 1) with | true => (if hZ h s c = true ∧ n + 1 = hC h s then k l (vR b n :: r) h else none) | false => none)
      | _ => none
    | .putfield _ => match st with
      | .inl x :: .inr (.inr (.inl (s, n))) :: r => (match (Nat.beq s d && Nat.beq a 0) with | true => (k l r (sI h b n 0 x)) | false => none)
      | .inl x :: .inr (.inr (.inr (.inl (s, n)))) :: r => (match (Nat.beq s d && Nat.beq a 0) with | true => (k l r (sI h b n 0 x)) | false => none)
      | .inr (.inr (.inl (t, m))) :: .inr (.inr (.inr (.inl (s, n)))) :: r => (match (Nat.beq s d && Nat.beq t b) with | true => (if n + 1 = hC h s then ((match (Nat.beq a 1) with | true => (if m = n then k l r (setZ h s c) else none) | false => ((match (Nat.beq a 2) with | true => (if m = c / 100 then k l r (setZ h s (c % 100)) else none) | false => none)))) else none) | false => none)
      | _ => none
    | .new _ => if hD h a = hC h a then k l (vU a (hC h a) :: st) (newO h a b c) else none
    | .newarray _ => match st with
      | .inl x :: r => if x = Int32.ofNat (lenOf a) then k l (vR a (hC h a) :: r) (newA h a (lenOf a)) else none
      | _ => none
    | .anewarray _ => match st with
      | .inl x :: r => if x = Int32.ofNat (lenOf a) then k l (vR a (hC h a) :: r) (newA h a (lenOf a)) else none
      | _ => none
    | .invokestatic _ => match Nat.beq a 900 with
      | true => match st with
        | [.inl len, .inl q, .inr (.inr (.inl (t, m))), .inl p, .inr (.inr (.inl (s, n)))] => match Nat.beq b 0 with
          | true => cpyI h s n p t m q len fun h => k l [] h
          | false => cpyJ h s n p t m q len fun h => k l [] h
        | _ => none
      | false => match spl b [] st with
        | some (as, r) => match Nat.ble (cat r) 8 with
          | true => match c with
            | 0 => clV (cal a as h) fun h => k l r h
            | 1 => clI (cal a as h) fun x h => k l (vI x :: r) h
            | 2 => clJ (cal a as h) fun x h => k l (vL x :: r) h
            | _ => none
          | false => none
        | none => none
    | .invokevirtual _ => match spl b [] st with
      | some (as, r) => match as with
        | .inr (.inr (.inl (s, n))) :: _ => match Nat.ble (cat r) 8 && Nat.beq s d with
          | true => match c with
            | 0 => clV (cal a as h) fun h => k l r h
            | 1 => clI (cal a as h) fun x h => k l (vI x :: r) h
            | 2 => clJ (cal a as h) fun x h => k l (vL x :: r) h
            | c + 3 => clR (c + 3) (cal a as h) fun m h => k l (vR (c + 3) m :: r) h
          | false => none
        | _ => none
      | none => none
    | .invokespecial _ => match Nat.beq a 901 with
      | true => match st with
        | [.inr (.inr (.inr (.inl _)))] => k l [] h
        | _ => none
      | false => match spl b [] st with
        | some (.inr (.inr (.inr (.inl (s, n)))) :: as, .inr (.inr (.inr (.inl (t, m)))) :: r) => match Nat.ble (cat r) 7 && Nat.beq s d && Nat.beq t d with
          | true => clV (cal a (vU s n :: as) h) fun h => if m = n ∧ n + 1 = hC h s ∧ n = hD h s ∧ (∀ q ∈ List.range 100, c.testBit q = true → hZ h s q = true) then k l (vR s n :: r) (whole h s n) else none
          | false => none
        | _ => none
    | _ => none
/-- no more than a word for how deep a definition stands: what uses it is unfolded ahead of rdI and its like -/
def deepW : Nat := (fun _ => 0) (fun L scr cal i l st h k => ex1 L scr cal i l st h k)
def jm (bs : List Blk) (cs : List Nat) (t : Nat) (l : List (Option MV)) (st : List MV) (h : MH) (k : List MI → Nat → Option Exit) : Option Exit :=
  (fun (_ : Nat) => match cs.any fun q => Nat.beq q t with
    | true => some (.inl (t, l, st, h))
    | false => match bs[t]? with
      | some (_, is, nb) => k is nb
      | none => none) deepW
def swt (x : Int32) (dflt : Option Exit) (f : Nat → Option Exit) : List (Int32 × Nat) → Option Exit
  | [] => dflt
  | (c, t) :: r => if x = c then f t else swt x dflt f r
/-- from an instruction on, up to a cut or a return -/
def den (L : Nat) (scr : Nat → Int32) (cal : Cal) (bs : List Blk) (cs : List Nat) : Nat → List MI → Nat → List (Option MV) → List MV → MH → Option Exit
  | 0, _, _, _, _, _ => none
  | k + 1, [], nb, l, st, h => jm bs cs nb l st h fun is nb => den L scr cal bs cs k is nb l st h
  | k + 1, i :: is, nb, l, st, h => match i with
    | (ins, _, a, b, _, _, ts) => match ins with
      | .goto _ => jm bs cs a l st h fun is nb => den L scr cal bs cs k is nb l st h
      | .if_icmp q _ => match st with
        | .inl y :: .inl x :: r => match q with
          | .eq => if x = y then jm bs cs a l r h fun is nb => den L scr cal bs cs k is nb l r h else den L scr cal bs cs k is nb l r h
          | .ne => if x = y then den L scr cal bs cs k is nb l r h else jm bs cs a l r h fun is nb => den L scr cal bs cs k is nb l r h
          | .lt => if x < y then jm bs cs a l r h fun is nb => den L scr cal bs cs k is nb l r h else den L scr cal bs cs k is nb l r h
          | .ge => if y ≤ x then jm bs cs a l r h fun is nb => den L scr cal bs cs k is nb l r h else den L scr cal bs cs k is nb l r h
          | .gt => if y < x then jm bs cs a l r h fun is nb => den L scr cal bs cs k is nb l r h else den L scr cal bs cs k is nb l r h
          | .le => if x ≤ y then jm bs cs a l r h fun is nb => den L scr cal bs cs k is nb l r h else den L scr cal bs cs k is nb l r h
        | _ => none
      | .ifCond q _ => match st with
        | .inl x :: r => match q with
          | .eq => if x = 0 then jm bs cs a l r h fun is nb => den L scr cal bs cs k is nb l r h else den L scr cal bs cs k is nb l r h
          | .ne => if x = 0 then den L scr cal bs cs k is nb l r h else jm bs cs a l r h fun is nb => den L scr cal bs cs k is nb l r h
          | .lt => if x < 0 then jm bs cs a l r h fun is nb => den L scr cal bs cs k is nb l r h else den L scr cal bs cs k is nb l r h
          | .ge => if 0 ≤ x then jm bs cs a l r h fun is nb => den L scr cal bs cs k is nb l r h else den L scr cal bs cs k is nb l r h
          | .gt => if 0 < x then jm bs cs a l r h fun is nb => den L scr cal bs cs k is nb l r h else den L scr cal bs cs k is nb l r h
          | .le => if x ≤ 0 then jm bs cs a l r h fun is nb => den L scr cal bs cs k is nb l r h else den L scr cal bs cs k is nb l r h
        | _ => none
      | .ifnull _ => match st with
        | .inr (.inr (.inr (.inr _))) :: r => jm bs cs a l r h fun is nb => den L scr cal bs cs k is nb l r h
        | .inr (.inr (.inl _)) :: r => den L scr cal bs cs k is nb l r h
        | _ => none
      | .ifnonnull _ => match st with
        | .inr (.inr (.inr (.inr _))) :: r => den L scr cal bs cs k is nb l r h
        | .inr (.inr (.inl _)) :: r => jm bs cs a l r h fun is nb => den L scr cal bs cs k is nb l r h
        | _ => none
      | .tableswitch _ _ _ _ => match st with
        | .inl x :: r => swt x (jm bs cs a l r h fun is nb => den L scr cal bs cs k is nb l r h) (fun t => jm bs cs t l r h fun is nb => den L scr cal bs cs k is nb l r h) ts
        | _ => none
      | .ireturn => match st with
        | [.inl x] => (match (Nat.beq a 1) with | true => (rtZ x h) | false => (some (.inr (some (vI x), h))))
        | _ => none
      | .lreturn => match st with
        | [.inr (.inl x)] => some (.inr (some (vL x), h))
        | _ => none
      | .areturn => match st with
        | [.inr (.inr (.inl (s, n)))] => (match (Nat.beq s b) with | true => (some (.inr (some (vR s n), h))) | false => none)
        | _ => none
      | .return_ => match st with
        | [] => some (.inr (none, h))
        | _ => none
      | _ => ex1 L scr cal i l st h fun l st h => den L scr cal bs cs k is nb l st h
def dn (L : Nat) (scr : Nat → Int32) (cal : Cal) (bs : List Blk) (cs : List Nat) (t : Nat) (l : List (Option MV)) (st : List MV) (h : MH) : Option Exit := match bs[t]? with
  | some (_, is, nb) => den L scr cal bs cs 4000 is nb l st h
  | none => none
/-- from a cut on, to the return: at most N cuts -/
def sem (L : Nat) (scr : Nat → Int32) (cal : Cal) (bs : List Blk) (cs : List Nat) : Nat → Nat → List (Option MV) → List MV → MH → Option (Option MV × MH)
  | 0, _, _, _, _ => none
  | N + 1, t, l, st, h => match dn L scr cal bs cs t l st h with
    | some (.inl (t, l, st, h)) => sem L scr cal bs cs N t l st h
    | some (.inr r) => some r
    | none => none
/-- operands, short -/
abbrev o0 : MV × Nat × Nat × Nat × Nat × List (Int32 × Nat) := (vN, 0, 0, 0, 0, [])
abbrev oA (a : Nat) : MV × Nat × Nat × Nat × Nat × List (Int32 × Nat) := (vN, a, 0, 0, 0, [])
abbrev oC (v : MV) : MV × Nat × Nat × Nat × Nat × List (Int32 × Nat) := (v, 0, 0, 0, 0, [])

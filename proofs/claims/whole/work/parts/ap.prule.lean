/-! RULES, read from tokens -/
def bdP {A B : Type} (x : A ⊕ Nat) (f : A → B ⊕ Nat) : B ⊕ Nat := match x with
  | .inl a => f a
  | .inr g => .inr g
/-- a number from lo to hi -/
def pNum (lo hi : Nat) : List (Nat × Nat) → (List (Nat × Nat) × Nat) ⊕ Nat
  | (t, g) :: r => if isNm lo hi t = true then .inl (r, t - 1000) else .inr g
  | [] => .inr 0
/-- a word or a sign -/
def pTk (k : Nat) : List (Nat × Nat) → List (Nat × Nat) ⊕ Nat
  | (t, g) :: r => if t = k then .inl r else .inr g
  | [] => .inr 0
/-- numbers said; and rules: how many, and of each its sort, part, bounds and condition -/
abbrev LSt : Type := (Nat → Nat) × Nat × (Nat → (Nat × Nat × Nat × Nat) × Phi)
def addR (S : LSt) (s p a b : Nat) (φ : Phi) : LSt := (S.1, S.2.1 + 1, fun j => if j = S.2.1 then ((s, p, a, b), φ) else S.2.2 j)
def setN (S : LSt) (i x : Nat) : LSt := (upN S.1 i x, S.2)
abbrev PR : Type := (List (Nat × Nat) × LSt) ⊕ Nat
def pPrice (S : LSt) (l : List (Nat × Nat)) : PR := bdP (pNum 0 3 l) fun k => bdP (pNum 0 999 k.1) fun x => bdP (pTk 16 x.1) fun r => bdP (pNum 1 240 r) fun y => .inl (y.1, setN (setN S k.2 x.2) (4 + k.2) y.2)
def pDeposit (S : LSt) (l : List (Nat × Nat)) : PR := bdP (pNum 0 3 l) fun k => bdP (pNum 0 999 k.1) fun x => .inl (x.1, setN S (8 + k.2) x.2)
def pLate (S : LSt) (l : List (Nat × Nat)) : PR := bdP (pNum 0 999 l) fun x => bdP (pTk 16 x.1) fun r => bdP (pNum 1 240 r) fun y => bdP (pTk 18 y.1) fun r => bdP (pNum 0 240 r) fun z => .inl (z.1, setN (setN (setN S 12 x.2) 13 y.2) 14 z.2)
def pRight (S : LSt) (l : List (Nat × Nat)) : PR := bdP (pNum 0 9 l) fun w => bdP (pNum 0 3 w.1) fun k => bdP (pNum 1 240 k.1) fun x => .inl (x.1, setN S (20 + 4 * w.2 + k.2) x.2)
def pOneN (i hi : Nat) (S : LSt) (l : List (Nat × Nat)) : PR := bdP (pNum 0 hi l) fun x => .inl (x.1, setN S i x.2)
def pBusy (S : LSt) (l : List (Nat × Nat)) : PR := bdP (pNum 0 719 l) fun a => bdP (pTk 17 a.1) fun r => bdP (pNum a.2 719 r) fun b => bdP (pNum 0 100 b.1) fun p => .inl (p.1, addR S 0 p.2 a.2 b.2 (fun _ => true))
def pHarm (S : LSt) (l : List (Nat × Nat)) : PR := bdP (pNum 0 100 l) fun p => match p.1 with
  | (19, _) :: r => bdP (pAny (pOne 8) r) fun c => .inl (c.1, addR S 1 p.2 0 0 c.2)
  | r => .inl (r, addR S 1 p.2 1 0 (fun _ => true))
def pShutR (S : LSt) (l : List (Nat × Nat)) : PR := bdP (pTk 19 l) fun r => bdP (pAny (pOne 8) r) fun c => .inl (c.1, addR S 2 0 0 0 c.2)
def pRule (S : LSt) : List (Nat × Nat) → PR
  | [] => .inr 0
  | (t, g) :: r => if t = 8 then pPrice S r else if t = 9 then pBusy S r else if t = 10 then pDeposit S r else if t = 11 then pLate S r else if t = 1 then pOneN 15 100 S r else if t = 12 then pRight S r else if t = 13 then pOneN 16 999 S r else if t = 14 then pHarm S r else if t = 15 then pShutR S r else .inr g
/-- a law: at most k rules more, each with its sign behind it -/
def pLaw : Nat → LSt → List (Nat × Nat) → LSt ⊕ Nat
  | _, _, [] => .inr 0
  | 0, S, (t, g) :: _ => if t = 4000 then .inl S else .inr g
  | k + 1, S, (t, g) :: r => if t = 4000 then .inl S else bdP (pRule S ((t, g) :: r)) fun x => bdP (pTk 59 x.1) fun r2 => pLaw k x.2 r2

/-! the analyser: values as a known number plus an offset, each number between bounds; what cells are known to hold; calls inlined or by summaries -/
abbrev aA : Type := Nat × Int
abbrev aV : Type := (Bool × aA) ⊕ Nat
abbrev aE : Type := Int × Int × Bool × Nat × aA × aA
abbrev aM : Type := List (Nat × (Nat ⊕ aA) × aA)
abbrev aX : Type := List aE × aM × List (aA × aA)
abbrev aF : Type := Nat × Nat × List (Option aV) × List aV
abbrev aS : Type := aX × List aF
abbrev aP : Type := (Bool × Int × Int × Bool) ⊕ Nat
/-- an end: the answer, and cells that are so then -/
abbrev aO : Type := Option (Bool × Int × Int × Bool) × List (Nat × Nat × Int × Int)
/-- a summary: arguments, cells that must be so, the ends, what may be written, the depth -/
abbrev aY : Type := List aP × List (Nat × Nat × Int × Int) × List aO × List (Nat × Nat × Nat) × Nat
/-- what is so at a loop's head: locals, cells, the locals or cells that rise (true) or fall, and its place among the loops -/
abbrev aH : Type := List (Option aP) × List (Nat × Nat × Int × Int) × List ((Nat ⊕ (Nat × Nat)) × Bool) × Nat
def iMin : Int := -2147483648
def iMax : Int := 2147483647
def lMin : Int := -9223372036854775808
def lMax : Int := 9223372036854775807
def iOk (lo hi : Int) : Bool := decide (iMin ≤ lo) && decide (hi ≤ iMax)
def lOk (lo hi : Int) : Bool := decide (lMin ≤ lo) && decide (hi ≤ lMax)
/-! what the cells may hold: by cell, by place -/
def cTy (j : Nat) : Int × Int := bif Nat.blt j 30 then (0, 3) else bif Nat.beq j 57 then (0, 4) else bif Nat.beq j 58 then (0, 14) else bif Nat.beq j 59 then (0, 3) else (iMin, iMax)
def isC (q : Nat) : Bool := Nat.beq q 63 || Nat.beq q 64 || Nat.beq q 65 || Nat.beq q 67 || Nat.beq q 68 || Nat.beq q 72
def oTy (q j : Nat) : Int × Int :=
  bif Nat.beq q 12 then (iMin, 40)
  else bif Nat.beq q 60 then (0, 40)
  else bif Nat.beq q 13 then (bif Nat.beq j 1 then (0, 120) else (iMin, iMax))
  else bif Nat.beq q 52 then (bif Nat.beq j 1 then (0, 16) else (iMin, iMax))
  else bif Nat.beq q 58 then (bif Nat.beq j 5 then (0, 120) else bif Nat.beq j 7 then (0, 120) else bif Nat.beq j 12 then (0, 24) else bif Nat.beq j 25 then (0, 16) else (iMin, iMax))
  else bif (Nat.beq q 15 || Nat.beq q 23 || Nat.beq q 31 || Nat.beq q 39) && Nat.beq j 0 then (0, 1)
  else (iMin, iMax)
def tTy (q j : Nat) : Int × Int := bif isC q then cTy (j % 62) else oTy q j
def tHull (q : Nat) : Nat → Nat → Int × Int
  | a, 0 => tTy q a
  | a, n + 1 => let r := tHull q (a + 1) n; let t := tTy q a; (min t.1 r.1, max t.2 r.2)
def tMeet (q : Nat) : Nat → Nat → Int × Int
  | a, 0 => tTy q a
  | a, n + 1 => let r := tMeet q (a + 1) n; let t := tTy q a; (max t.1 r.1, min t.2 r.2)
def tFlat (q : Nat) : Bool := !(isC q || Nat.beq q 12 || Nat.beq q 60 || Nat.beq q 13 || Nat.beq q 52 || Nat.beq q 58 || Nat.beq q 15 || Nat.beq q 23 || Nat.beq q 31 || Nat.beq q 39)
def tyR (q a b : Nat) : Int × Int := bif tFlat q then (iMin, iMax) else bif isC q && Nat.ble 61 (b - a) then (iMin, iMax) else tHull q a (b - a)
def tyW (q a b : Nat) : Int × Int := bif tFlat q then (iMin, iMax) else bif isC q && Nat.ble 61 (b - a) then (0, 3) else tMeet q a (b - a)
/-! numbers -/
def aGet (x : aX) (i : Nat) : aE := x.1.getD i (0, -1, false, 0, (0, 0), (0, 0))
def aLo (x : aX) (a : aA) : Int := (aGet x a.1).1 + a.2
def aHi (x : aX) (a : aA) : Int := (aGet x a.1).2.1 + a.2
def aHas (x : aX) (a : aA) : Bool := Nat.blt a.1 x.1.length
/-- a new number -/
def aNew (x : aX) (lo hi : Int) (nz : Bool) (t : Nat) (a b : aA) : aX × aA := ((x.1 ++ [(lo, hi, nz, t, a, b)], x.2), (x.1.length, 0))
def aTop (x : aX) : aX × aA := aNew x iMin iMax false 0 (0, 0) (0, 0)
def aConst (x : aX) (n : Int) : aX × aA := aNew x n n false 0 (0, 0) (0, 0)
/-- a number's bounds made closer; none: it can't be -/
def aSet (x : aX) (i : Nat) (lo hi : Int) (z : Bool) : Option aX :=
  let e := aGet x i
  let z' := z || e.2.2.1
  let lo1 := max e.1 lo
  let hi1 := min e.2.1 hi
  let lo2 := bif z' && decide (lo1 = 0) then 1 else lo1
  let hi2 := bif z' && decide (hi1 = 0) then -1 else hi1
  bif decide (hi2 < lo2) then none else some (x.1.set i (lo2, hi2, z', e.2.2.2), x.2)
/-- at least k -/
def aGe (x : aX) (a : aA) (k : Int) : Option aX := match aSet x a.1 (k - a.2) (max (k - a.2) (aGet x a.1).2.1) false with
  | none => none
  | some y => let e := aGet x a.1
    bif Nat.beq e.2.2.2.1 1 then
      let p := e.2.2.2.2.1
      let q := e.2.2.2.2.2
      match aSet y q.1 (aGet y q.1).1 (aHi y p - (k - a.2) - q.2) false with
      | none => none
      | some y => aSet y p.1 (aLo y q + (k - a.2) - p.2) (aGet y p.1).2.1 false
    else some y
/-- at most k -/
def aLe (x : aX) (a : aA) (k : Int) : Option aX := aSet x a.1 (min (k - a.2) (aGet x a.1).1) (k - a.2) false
def aFact (x : aX) (a b : aA) : aX := (x.1, x.2.1, (a, b) :: x.2.2)
def aKnown (x : aX) (a b : aA) : Bool := x.2.2.any fun q => Nat.beq q.1.1 a.1 && decide (q.1.2 = a.2) && Nat.beq q.2.1 b.1 && decide (q.2.2 = b.2)
def oBind {α β : Type} (o : Option α) (f : α → Option β) : Option β := match o with
  | none => none
  | some a => f a
/-- a < b -/
def aLt (x : aX) (a b : aA) : Option aX := bif Nat.beq a.1 b.1 then (bif decide (a.2 < b.2) then some x else none) else
  oBind (aLe x a (aHi x b - 1)) fun y => oBind (aGe y b (aLo y a + 1)) fun z => some (aFact z a b)
/-- a ≤ b -/
def aLLe (x : aX) (a b : aA) : Option aX := bif Nat.beq a.1 b.1 then (bif decide (a.2 ≤ b.2) then some x else none) else
  bif aKnown x b a then none else oBind (aLe x a (aHi x b)) fun y => aGe y b (aLo y a)
def aEq (x : aX) (a b : aA) : Option aX := bif Nat.beq a.1 b.1 then (bif decide (a.2 = b.2) then some x else none) else
  oBind (aLLe x a b) fun y => aLLe y b a
/-- a is not k -/
def aNk (x : aX) (a : aA) (k : Int) : Option aX :=
  bif decide (aLo x a = k) then aGe x a (k + 1) else bif decide (aHi x a = k) then aLe x a (k - 1) else bif decide (k - a.2 = 0) then aSet x a.1 (aGet x a.1).1 (aGet x a.1).2.1 true else some x
def aNe (x : aX) (a b : aA) : Option aX := bif Nat.beq a.1 b.1 then (bif decide (a.2 = b.2) then none else some x) else
  bif decide (aLo x b = aHi x b) then aNk x a (aLo x b) else bif decide (aLo x a = aHi x a) then aNk x b (aLo x a) else some x
def aCnd (c : Jvm.ClassFile.Cond) (x : aX) (a b : aA) : Option aX := match c with
  | .eq => aEq x a b
  | .ne => aNe x a b
  | .lt => aLt x a b
  | .ge => aLLe x b a
  | .gt => aLt x b a
  | .le => aLLe x a b
def aNeg (c : Jvm.ClassFile.Cond) : Jvm.ClassFile.Cond := match c with
  | .eq => .ne
  | .ne => .eq
  | .lt => .ge
  | .ge => .lt
  | .gt => .le
  | .le => .gt
/-! arithmetic of ints (l = false) and longs -/
def rOk (l : Bool) (lo hi : Int) : Bool := bif l then lOk lo hi else iOk lo hi
def aTopL (l : Bool) (x : aX) : aX × aA := bif l then aNew x lMin lMax false 0 (0, 0) (0, 0) else aTop x
def aAdd (l : Bool) (x : aX) (a b : aA) : aX × aA :=
  bif !rOk l (aLo x a + aLo x b) (aHi x a + aHi x b) then aTopL l x
  else bif decide (aLo x b = aHi x b) then (x, (a.1, a.2 + aLo x b))
  else bif decide (aLo x a = aHi x a) then (x, (b.1, b.2 + aLo x a))
  else aNew x (aLo x a + aLo x b) (aHi x a + aHi x b) false 3 a b
def aSub (l : Bool) (x : aX) (a b : aA) : aX × aA :=
  bif !rOk l (aLo x a - aHi x b) (aHi x a - aLo x b) then aTopL l x
  else bif decide (aLo x b = aHi x b) then (x, (a.1, a.2 - aLo x b))
  else aNew x (aLo x a - aHi x b) (aHi x a - aLo x b) false 1 a b
def min4 (a b c d : Int) : Int := min (min a b) (min c d)
def max4 (a b c d : Int) : Int := max (max a b) (max c d)
def aMul (l : Bool) (x : aX) (a b : aA) : aX × aA :=
  let lo := min4 (aLo x a * aLo x b) (aLo x a * aHi x b) (aHi x a * aLo x b) (aHi x a * aHi x b)
  let hi := max4 (aLo x a * aLo x b) (aLo x a * aHi x b) (aHi x a * aLo x b) (aHi x a * aHi x b)
  bif !rOk l lo hi then aTopL l x
  else aNew x lo hi false (bif decide (aLo x a = 62) && decide (aHi x a = 62) then 4 else 0) (0, 0) (0, 0)
def aNz (x : aX) (b : aA) : Bool := decide (0 < aLo x b) || decide (aHi x b < 0) || ((aGet x b.1).2.2.1 && decide (b.2 = 0))
def aDiv (l : Bool) (x : aX) (a b : aA) : Option (aX × aA) :=
  bif !aNz x b then none
  else bif decide (0 ≤ aLo x a) && decide (0 < aLo x b) && decide (aLo x b = aHi x b) then some (aNew x (aLo x a / aLo x b) (aHi x a / aLo x b) false 0 (0, 0) (0, 0))
  else some (aTopL l x)
def aRem (l : Bool) (x : aX) (a b : aA) : Option (aX × aA) :=
  bif !aNz x b then none
  else bif decide (0 < aLo x b) && decide (aLo x b = aHi x b) then some (aNew x (bif decide (0 ≤ aLo x a) then 0 else 1 - aLo x b) (aLo x b - 1) false 0 (0, 0) (0, 0))
  else some (aTopL l x)
/-! cells -/
def aMemK (x : aX) (q s : Nat) : Option aA := match x.2.1.find? (fun e => Nat.beq e.1 q && (match e.2.1 with
    | .inl s' => Nat.beq s' s
    | .inr _ => false)) with
  | some e => some e.2.2
  | none => none
def aSame (x : aX) (i j : aA) : Bool := (Nat.beq i.1 j.1 && decide (i.2 = j.2)) || (decide (aLo x i = aHi x i) && decide (aLo x j = aHi x j) && decide (aLo x i = aLo x j) && aHas x i && aHas x j)
def aMemI (x : aX) (q : Nat) (ix : aA) : Option aA := match x.2.1.find? (fun e => Nat.beq e.1 q && (match e.2.1 with
    | .inl _ => false
    | .inr j => aSame x j ix)) with
  | some e => some e.2.2
  | none => none
def aPutM (x : aX) (q : Nat) (k : Nat ⊕ aA) (v : aA) : aX := (x.1, (q, k, v) :: x.2.1, x.2.2)
def aKeep (x : aX) (f : (Nat × (Nat ⊕ aA) × aA) → Bool) : aX := (x.1, x.2.1.filter f, x.2.2)
/-- the places of an entry lie apart from a .. b of the cell q -/
def aFar (x : aX) (q : Nat) (a b : Int) (e : Nat × (Nat ⊕ aA) × aA) : Bool := !(Nat.beq e.1 q) || (match e.2.1 with
  | .inl s => decide ((s : Int) < a) || decide (b < (s : Int))
  | .inr j => decide (aHi x j < a) || decide (b < aLo x j))
/-- two indexes that are alike by 62 -/
def aNorm (x : aX) (i : aA) : aA := let e := aGet x i.1
  bif Nat.beq e.2.2.2.1 3 && Nat.beq (aGet x e.2.2.2.2.1.1).2.2.2.1 4 && decide (e.2.2.2.2.1.2 = 0) then (e.2.2.2.2.2.1, e.2.2.2.2.2.2 + i.2) else i
def aMod (x : aX) (i j : aA) : Bool := Nat.beq (aNorm x i).1 (aNorm x j).1 && decide (((aNorm x i).2 - (aNorm x j).2) % 62 = 0)
def wIn (W : List (Nat × Nat × Nat)) (q a b : Nat) : Bool := W.any fun w => Nat.beq w.1 q && Nat.ble w.2.1 a && Nat.ble b w.2.2

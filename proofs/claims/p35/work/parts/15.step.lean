def aSt1 (L : List (Option aV)) (k : Nat) (v : aV) : List (Option aV) := match k with
  | 0 => L.set 0 (some v)
  | j + 1 => match L[j]? with
    | some (some (.inl (true, _))) => (L.set j none).set (j + 1) (some v)
    | _ => L.set (j + 1) (some v)
def aSt2 (L : List (Option aV)) (k : Nat) (v : aV) : List (Option aV) := (aSt1 L k v).set (k + 1) none
abbrev aR : Type := Option (aX × List (Option aV) × List aV)
def aPu (l : Bool) (p : aX × aA) (L : List (Option aV)) (S : List aV) : aR := some (p.1, L, .inl (l, p.2) :: S)
def aPo (l : Bool) (p : Option (aX × aA)) (L : List (Option aV)) (S : List aV) : aR := match p with
  | some p => aPu l p L S
  | none => none
def aLd (l : Bool) (x : aX) (L : List (Option aV)) (k : Nat) (S : List aV) : aR := match L[k]? with
  | some (some (.inl (l', a))) => bif l == l' then some (x, L, .inl (l, a) :: S) else none
  | _ => none
def aBin (f : aX → aA → aA → aX × aA) (x : aX) (L : List (Option aV)) (S : List aV) : aR := match S with
  | .inl (false, b) :: .inl (false, a) :: r => aPu false (f x a b) L r
  | _ => none
def aBiO (f : aX → aA → aA → Option (aX × aA)) (x : aX) (L : List (Option aV)) (S : List aV) : aR := match S with
  | .inl (false, b) :: .inl (false, a) :: r => aPo false (f x a b) L r
  | _ => none
def aLin (f : aX → aA → aA → aX × aA) (x : aX) (L : List (Option aV)) (S : List aV) : aR := match S with
  | .inl (true, b) :: .inl (true, a) :: r => aPu true (f x a b) L r
  | _ => none
def aLiO (f : aX → aA → aA → Option (aX × aA)) (x : aX) (L : List (Option aV)) (S : List aV) : aR := match S with
  | .inl (true, b) :: .inl (true, a) :: r => aPo true (f x a b) L r
  | _ => none
def aUn (x : aX) (L : List (Option aV)) (S : List aV) : aR := match S with
  | .inl (false, _) :: r => aPu false (aTop x) L r
  | _ => none
def aSti (l : Bool) (x : aX) (L : List (Option aV)) (k : Nat) (S : List aV) : aR := match S with
  | .inl (l', a) :: r => bif l == l' then (bif l then (bif Nat.blt (k + 1) L.length then some (x, aSt2 L k (.inl (true, a)), r) else none) else (bif Nat.blt k L.length then some (x, aSt1 L k (.inl (false, a)), r) else none)) else none
  | _ => none
def aSta (x : aX) (L : List (Option aV)) (k : Nat) (S : List aV) : aR := match S with
  | .inr q :: r => bif Nat.blt k L.length then some (x, aSt1 L k (.inr q), r) else none
  | _ => none
def aLda (x : aX) (L : List (Option aV)) (k : Nat) (S : List aV) : aR := match L[k]? with
  | some (some (.inr q)) => some (x, L, .inr q :: S)
  | _ => none
def aInc (x : aX) (L : List (Option aV)) (k : Nat) (n : Int) (S : List aV) : aR := match L[k]? with
  | some (some (.inl (false, a))) => bif iOk n n then (bif iOk (aLo x a + n) (aHi x a + n) then some (x, aSt1 L k (.inl (false, (a.1, a.2 + n))), S) else some ((aTop x).1, aSt1 L k (.inl (false, (aTop x).2)), S)) else none
  | _ => none
def aGetF (o k : Nat) (x : aX) (L : List (Option aV)) (S : List aV) : aR := match S with
  | .inr q :: r => match zFld o k with
    | some (c, s) => match lay[q]? with
      | some (.inl (c', fs)) => bif Nat.beq c' c then match fs[s]? with
        | some none => match aMemK x q s with
          | some a => some (x, L, .inl (false, a) :: r)
          | none => let p := aNew x (tTy q s).1 (tTy q s).2 false 0 (0, 0) (0, 0)
            some (aPutM p.1 q (.inl s) p.2, L, .inl (false, p.2) :: r)
        | some (some q') => some (x, L, .inr q' :: r)
        | none => none
        else none
      | _ => none
    | none => none
  | _ => none
def aPutF (W : List (Nat × Nat × Nat)) (o k : Nat) (x : aX) (L : List (Option aV)) (S : List aV) : aR := match S with
  | .inl (false, a) :: .inr q :: r => match zFld o k with
    | some (c, s) => match lay[q]? with
      | some (.inl (c', fs)) => bif Nat.beq c' c then match fs[s]? with
        | some none => bif decide ((tTy q s).1 ≤ aLo x a) && decide (aHi x a ≤ (tTy q s).2) && aHas x a && wIn W q s s && (!zIsB c s || (decide (0 ≤ aLo x a) && decide (aHi x a ≤ 1))) then
            some (aPutM (aKeep x (aFar x q s s)) q (.inl s) a, L, r) else none
        | _ => none
        else none
      | _ => none
    | none => none
  | _ => none
def aIal (x : aX) (L : List (Option aV)) (S : List aV) : aR := match S with
  | .inl (false, ix) :: .inr q :: r => match lay[q]? with
    | some (.inr (.inl n)) => bif decide (0 ≤ aLo x ix) && decide (aHi x ix < (n : Int)) && aHas x ix then match aMemI x q ix with
        | some a => some (x, L, .inl (false, a) :: r)
        | none => let t := tyR q (aLo x ix).toNat (aHi x ix).toNat
          let p := aNew x t.1 t.2 false (bif isC q then 2 else 0) ix (0, 0)
          some (aPutM p.1 q (.inr ix) p.2, L, .inl (false, p.2) :: r)
      else none
    | some _ => none
    | none => bif (Nat.beq q 900 || Nat.beq q 901 || Nat.beq q 902) && decide (0 ≤ aLo x ix) && decide (aHi x ix < 6) && aHas x ix then aPu false (aNew x 0 24 false 0 (0, 0) (0, 0)) L r else none
  | _ => none
def aIas (W : List (Nat × Nat × Nat)) (x : aX) (L : List (Option aV)) (S : List aV) : aR := match S with
  | .inl (false, v) :: .inl (false, ix) :: .inr q :: r => match lay[q]? with
    | some (.inr (.inl n)) =>
      let a := (aLo x ix).toNat
      let b := (aHi x ix).toNat
      let t := tyW q a b
      bif decide (0 ≤ aLo x ix) && decide (aHi x ix < (n : Int)) && aHas x ix && aHas x v && wIn W q a b && ((decide (t.1 ≤ aLo x v) && decide (aHi x v ≤ t.2)) || (isC q && Nat.beq (aGet x v.1).2.2.2.1 2 && decide (v.2 = 0) && aMod x (aGet x v.1).2.2.2.2.1 ix)) then
        some (aPutM (aKeep x (aFar x q (aLo x ix) (aHi x ix))) q (.inr ix) v, L, r)
      else none
    | _ => none
  | _ => none
def aLal (x : aX) (L : List (Option aV)) (S : List aV) : aR := match S with
  | .inl (false, ix) :: .inr q :: r => match lay[q]? with
    | some (.inr (.inr (.inl n))) => bif decide (0 ≤ aLo x ix) && decide (aHi x ix < (n : Int)) && aHas x ix then aPu true (aTopL true x) L r else none
    | _ => none
  | _ => none
def aLas (x : aX) (L : List (Option aV)) (S : List aV) : aR := match S with
  | .inl (true, _) :: .inl (false, ix) :: .inr q :: r => match lay[q]? with
    | some (.inr (.inr (.inl n))) => bif decide (0 ≤ aLo x ix) && decide (aHi x ix < (n : Int)) && aHas x ix then some (x, L, r) else none
    | _ => none
  | _ => none
def aCat1 (v : aV) : Bool := match v with
  | .inl (true, _) => false
  | _ => true
/-- the instructions that go on in one way -/
def aI (W : List (Nat × Nat × Nat)) (o : Nat) (i : Instr) (x : aX) (L : List (Option aV)) (S : List aV) : aR := match i with
  | .iconst n => bif iOk n n then aPu false (aConst x n) L S else none
  | .bipush n => bif decide (-128 ≤ n) && decide (n ≤ 127) then aPu false (aConst x n) L S else none
  | .sipush n => bif decide (-32768 ≤ n) && decide (n ≤ 32767) then aPu false (aConst x n) L S else none
  | .lconst n => aPu true (aConst x ((n : Nat) : Int)) L S
  | .ldc k => match zFind k (zKT.getD o []) with
    | some (v, _) => aPu false (aConst x v.toInt) L S
    | none => none
  | .ldc_w k => match zFind k (zKT.getD o []) with
    | some (v, _) => aPu false (aConst x v.toInt) L S
    | none => none
  | .ldc2_w k => match zFind k (zJT.getD o []) with
    | some (v, _) => aPu true (aConst x v.toInt) L S
    | none => none
  | .iload k => aLd false x L k S
  | .iload_n k => aLd false x L k S
  | .lload k => aLd true x L k S
  | .lload_n k => aLd true x L k S
  | .aload k => aLda x L k S
  | .aload_n k => aLda x L k S
  | .istore k => aSti false x L k S
  | .istore_n k => aSti false x L k S
  | .lstore k => aSti true x L k S
  | .lstore_n k => aSti true x L k S
  | .astore k => aSta x L k S
  | .astore_n k => aSta x L k S
  | .iinc k n => aInc x L k n S
  | .iadd => aBin (aAdd false) x L S
  | .isub => aBin (aSub false) x L S
  | .imul => aBin (aMul false) x L S
  | .idiv => aBiO (aDiv false) x L S
  | .irem => aBiO (aRem false) x L S
  | .iand => aBin (fun x _ _ => aTop x) x L S
  | .ior => aBin (fun x _ _ => aTop x) x L S
  | .ixor => aBin (fun x _ _ => aTop x) x L S
  | .ishl => aBin (fun x _ _ => aTop x) x L S
  | .ishr => aBin (fun x _ _ => aTop x) x L S
  | .iushr => aBin (fun x _ _ => aTop x) x L S
  | .ineg => aUn x L S
  | .i2b => aUn x L S
  | .i2s => aUn x L S
  | .i2l => match S with
    | .inl (false, a) :: r => some (x, L, .inl (true, a) :: r)
    | _ => none
  | .l2i => match S with
    | .inl (true, a) :: r => bif iOk (aLo x a) (aHi x a) && aHas x a then some (x, L, .inl (false, a) :: r) else aPu false (aTop x) L r
    | _ => none
  | .lneg => match S with
    | .inl (true, _) :: r => aPu true (aTopL true x) L r
    | _ => none
  | .lcmp => match S with
    | .inl (true, _) :: .inl (true, _) :: r => aPu false (aTop x) L r
    | _ => none
  | .ladd => aLin (aAdd true) x L S
  | .lsub => aLin (aSub true) x L S
  | .lmul => aLin (aMul true) x L S
  | .ldiv => aLiO (aDiv true) x L S
  | .lrem => aLiO (aRem true) x L S
  | .dup => match S with
    | v :: r => bif aCat1 v then some (x, L, v :: v :: r) else none
    | _ => none
  | .dup2 => match S with
    | v :: w :: r => bif aCat1 v && aCat1 w then some (x, L, v :: w :: v :: w :: r) else none
    | _ => none
  | .pop => match S with
    | v :: r => bif aCat1 v then some (x, L, r) else none
    | _ => none
  | .getfield k => aGetF o k x L S
  | .putfield k => aPutF W o k x L S
  | .getstatic k => match zFind k (zGT.getD o []) with
    | some (j, _) => some (x, L, .inr (900 + j) :: S)
    | none => none
  | .iaload => aIal x L S
  | .arraylength => match S with
    | .inr q :: r => match lay[q]? with
      | some (.inr (.inl n)) => bif iOk (n : Int) (n : Int) then aPu false (aConst x (n : Int)) L r else none
      | _ => none
    | _ => none
  | .iastore => aIas W x L S
  | .laload => aLal x L S
  | .lastore => aLas x L S
  | _ => none
/-! the ways that an instruction goes on -/
abbrev aN : Type := Option (List aS)
def aWay (x : Option aX) (t : Option Nat) (M : Nat) (L : List (Option aV)) (S : List aV) (r : List aF) : aN := match t with
  | none => none
  | some t => match x with
    | none => some []
    | some x => some [(x, (M, t, L, S) :: r)]
def aBoth (a b : aN) : aN := match a, b with
  | some a, some b => some (a ++ b)
  | _, _ => none
def aIs (x : aX) (a : aA) (k : Int) : Option aX := oBind (aGe x a k) fun y => aLe y a k
def aTab (x : aX) (a : aA) (M pc : Nat) (L : List (Option aV)) (S : List aV) (r : List aF) (k : Int) : List Int → aN
  | [] => some []
  | off :: os => aBoth (aWay (aIs x a k) (zTgt pc off) M L S r) (aTab x a M pc L S r (k + 1) os)
def aLkp (x : aX) (a : aA) (M pc : Nat) (L : List (Option aV)) (S : List aV) (r : List aF) : List (Int × Int) → aN
  | [] => some []
  | p :: ps => aBoth (aWay (aIs x a p.1) (zTgt pc p.2) M L S r) (aLkp x a M pc L S r ps)
def aPick (x : aX) (a : aA) (M pc : Nat) (L : List (Option aV)) (S : List aV) (r : List aF) (k : Int) : List Nat → List aS
  | [] => []
  | q :: qs => (match aIs x a k with
    | none => []
    | some y => [(y, (M, pc, L, .inr q :: S) :: r)]) ++ aPick x a M pc L S r (k + 1) qs
def aJ (W : List (Nat × Nat × Nat)) (o : Nat) (i : Instr) (x : aX) (M pc : Nat) (L : List (Option aV)) (S : List aV) (r : List aF) : aN := match i with
  | .goto off => aWay (some x) (zTgt pc off) M L S r
  | .ifCond c off => match S with
    | .inl (false, a) :: s => let p := aConst x 0
      match zTgt pc off with
      | none => none
      | some t => aBoth (aWay (aCnd c p.1 a p.2) (some t) M L s r) (aWay (aCnd (aNeg c) p.1 a p.2) (some (pc + 3)) M L s r)
    | _ => none
  | .if_icmp c off => match S with
    | .inl (false, b) :: .inl (false, a) :: s => match zTgt pc off with
      | none => none
      | some t => aBoth (aWay (aCnd c x a b) (some t) M L s r) (aWay (aCnd (aNeg c) x a b) (some (pc + 3)) M L s r)
    | _ => none
  | .tableswitch d lo hi offs => match S with
    | .inl (false, a) :: s => bif decide (hi - lo + 1 = (offs.toList.length : Int)) then aBoth (aTab x a M pc L s r lo offs.toList) (aBoth (aWay (aLe x a (lo - 1)) (zTgt pc d) M L s r) (aWay (aGe x a (hi + 1)) (zTgt pc d) M L s r)) else none
    | _ => none
  | .lookupswitch d ps => match S with
    | .inl (false, a) :: s => bif (ps.toList.zip (ps.toList.drop 1)).all (fun (a, next) => a.1 < next.1) then aBoth (aLkp x a M pc L s r ps.toList) (aWay (some x) (zTgt pc d) M L s r) else none
    | _ => none
  | .aaload => match S with
    | .inl (false, ix) :: .inr q :: s => match lay[q]? with
      | some (.inr (.inr (.inr (_, ks)))) => bif decide (0 ≤ aLo x ix) && decide (aHi x ix < (ks.length : Int)) && aHas x ix then some (aPick x ix M (pc + 1) L s r 0 ks) else none
      | _ => none
    | _ => none
  | i => match aI W o i x L S with
    | some (x', L', S') => some [(x', (M, pc + zLen i, L', S') :: r)]
    | none => none
/-! calls -/
def aMkM : List (Nat × Nat × Int × Int) → aX → aX
  | [], x => x
  | (q, s, lo, hi) :: r, x => match lay[q]? with
    | some (.inl _) => let p := aNew x (max lo (tTy q s).1) (min hi (tTy q s).2) false 0 (0, 0) (0, 0)
      aMkM r (aPutM p.1 q (.inl s) p.2)
    | _ => let c := aConst x (s : Int)
      let p := aNew c.1 (max lo (tTy q s).1) (min hi (tTy q s).2) false 0 (0, 0) (0, 0)
      aMkM r (aPutM p.1 q (.inr c.2) p.2)
def aIn (x : aX) (v : aV) (p : aP) : Bool := match v, p with
  | .inl (l, a), .inl (l', lo, hi, nz) => (l == l') && decide (lo ≤ aLo x a) && decide (aHi x a ≤ hi) && aHas x a && (!nz || aNz x a)
  | .inr q, .inr q' => Nat.beq q q'
  | _, _ => false
def aIns (x : aX) : List aV → List aP → Bool
  | [], [] => true
  | v :: vs, p :: ps => aIn x v p && aIns x vs ps
  | _, _ => false
/-- what is known of a cell's place -/
def aCell (x : aX) (q s : Nat) (lo hi : Int) : Bool := (decide (lo ≤ (tTy q s).1) && decide ((tTy q s).2 ≤ hi)) || x.2.1.any fun e => Nat.beq e.1 q && (match e.2.1 with
    | .inl s' => Nat.beq s' s
    | .inr j => decide (aLo x j = (s : Int)) && decide (aHi x j = (s : Int)) && aHas x j) && decide (lo ≤ aLo x e.2.2) && decide (aHi x e.2.2 ≤ hi) && aHas x e.2.2
def aCells (x : aX) (l : List (Nat × Nat × Int × Int)) : Bool := l.all fun e => aCell x e.1 e.2.1 e.2.2.1 e.2.2.2
def aSum (T : List (Nat × aY)) (M d : Nat) (x : aX) (as : List aV) : Option aY := match T.find? (fun e => Nat.beq e.1 M && Nat.blt e.2.2.2.2.2 d && aIns x as e.2.1 && aCells x e.2.2.1) with
  | some e => some e.2
  | none => none
def aEnt (as : List aV) (n : Nat) : List (Option aV) := (as.flatMap fun v => match v with
    | .inl (true, a) => [some (.inl (true, a)), none]
    | v => [some v]) ++ List.replicate (n - (as.flatMap fun v => match v with
    | .inl (true, a) => [some (.inl (true, a)), none]
    | v => [some v] : List (Option aV)).length) none
def aCatS (S : List aV) : Nat := match S with
  | [] => 0
  | v :: r => (bif aCat1 v then 1 else 2) + aCatS r
def aRecv (o : Nat) (as : List aV) : Bool := match as with
  | .inr q :: _ => match lay[q]? with
    | some (.inl (c, _)) => Nat.beq (zVw.getD o 99) c
    | _ => false
  | _ => false
def aCall (T : List (Nat × aY)) (inl : List Nat) (W : List (Nat × Nat × Nat)) (o : Nat) (vir : Bool) (k d : Nat) (x : aX) (M pc : Nat) (L : List (Option aV)) (S : List aV) (r : List aF) : aN :=
  match zFind k (zQT.getD o []) with
  | none => none
  | some (M', st, _) => bif st == vir then none else match zP[M']? with
    | none => none
    | some e =>
      let n := zn e + vir.toNat
      let as := (S.take n).reverse
      let rest := S.drop n
      bif Nat.blt S.length n || Nat.blt 8 (aCatS rest) || (vir && !aRecv (zo e) as) || Nat.blt (zx e) (aCatS (S.take n)) || Nat.beq d 0 then none
      else match aSum T M' d x as with
        | some y => bif y.2.2.2.1.all (fun w => wIn W w.1 w.2.1 w.2.2) then
            let x1 := aKeep x (fun e => y.2.2.2.1.all fun w => aFar x w.1 w.2.1 w.2.2 e)
            some (y.2.2.1.map fun z => match z.1 with
            | none => (aMkM z.2 x1, (M, pc + 3, L, rest) :: r)
            | some (l, lo, hi, nz) => let p := aNew x1 lo hi nz 0 (0, 0) (0, 0)
              (aMkM z.2 p.1, (M, pc + 3, L, .inl (l, p.2) :: rest) :: r))
          else none
        | none => bif inl.any (Nat.beq M') then some [(x, (M', 0, aEnt as (zx e), []) :: (M, pc + 3, L, rest) :: r)] else none
def aCopy (W : List (Nat × Nat × Nat)) (x : aX) (M pc : Nat) (L : List (Option aV)) (S : List aV) (r : List aF) : aN := match S with
  | .inl (false, n) :: .inl (false, dp) :: .inr q1 :: .inl (false, sp) :: .inr q0 :: s => match lay[q0]?, lay[q1]? with
    | some (.inr (.inl n0)), some (.inr (.inl n1)) => bif decide (0 ≤ aLo x n) && decide (0 ≤ aLo x dp) && decide (0 ≤ aLo x sp) && decide (aHi x sp + aHi x n ≤ (n0 : Int)) && decide (aHi x dp + aHi x n ≤ (n1 : Int)) && aHas x n && aHas x dp && aHas x sp && !Nat.blt 8 (aCatS s) && tFlat q0 && tFlat q1 && wIn W q1 0 n1 then
        some [(aKeep x (fun e => !Nat.beq e.1 q1), (M, pc + 3, L, s) :: r)] else none
    | _, _ => none
  | _ => none
def aStep (T : List (Nat × aY)) (inl : List Nat) (W : List (Nat × Nat × Nat)) (D : Nat) (i : Instr) (o : Nat) (x : aX) (M pc : Nat) (L : List (Option aV)) (S : List aV) (r : List aF) : aN := match i with
  | .invokestatic k => match zFind k (zAT.getD o []) with
    | some _ => aCopy W x M pc L S r
    | none => aCall T inl W o false k (D - r.length) x M pc L S r
  | .invokevirtual k => aCall T inl W o true k (D - r.length) x M pc L S r
  | i => aJ W o i x M pc L S r
/-! heads -/
def aMemC (x : aX) (q s : Nat) : Option aA := match x.2.1.find? (fun e => Nat.beq e.1 q && (match e.2.1 with
    | .inl s' => Nat.beq s' s
    | .inr j => decide (aLo x j = (s : Int)) && decide (aHi x j = (s : Int)) && aHas x j)) with
  | some e => some e.2.2
  | none => none
def aRk (x : aX) (L : List (Option aV)) (k : (Nat ⊕ (Nat × Nat)) × Bool) : Option (aA × Bool) := match k.1 with
  | .inl j => match L[j]? with
    | some (some (.inl (false, a))) => some (a, k.2)
    | _ => none
  | .inr (q, s) => match aMemC x q s with
    | some a => some (a, k.2)
    | none => none
def aRks (x : aX) (L : List (Option aV)) : List ((Nat ⊕ (Nat × Nat)) × Bool) → Option (List (aA × Bool))
  | [] => some []
  | k :: ks => oBind (aRk x L k) fun a => oBind (aRks x L ks) fun l => some (a :: l)
def aDec : List (aA × Bool) → List (aA × Bool) → Bool
  | [], _ :: _ => true
  | a :: s, b :: t => Nat.beq a.1.1 b.1.1 && (a.2 == b.2) && (bif decide (a.1.2 = b.1.2) then aDec s t else bif a.2 then decide (a.1.2 < b.1.2) else decide (b.1.2 < a.1.2))
  | _, _ => false
def aLoc (x : aX) : List (Option aV) → List (Option aP) → Bool
  | [], [] => true
  | _ :: L, none :: P => aLoc x L P
  | some v :: L, some p :: P => aIn x v p && aLoc x L P
  | _, _ => false
def aArr (rk : Option (Nat × List (aA × Bool))) (x : aX) (L : List (Option aV)) (h : aH) : Bool := aLoc x L h.1 && aCells x h.2.1 && (match rk with
  | none => true
  | some s => Nat.blt s.1 h.2.2.2 || (Nat.beq s.1 h.2.2.2 && (match aRks x L h.2.2.1 with
    | some t => aDec s.2 t
    | none => false)))
def aRetOk (ret : Option FieldType) (i : Instr) (x : aX) (S : List aV) : Option (Option aV) := match i with
  | .ireturn => match S, ret with
    | [.inl (false, a)], some .int => some (some (.inl (false, a)))
    | [.inl (false, a)], some .boolean => bif decide (0 ≤ aLo x a) && decide (aHi x a ≤ 1) && aHas x a then some (some (.inl (false, a))) else none
    | _, _ => none
  | .lreturn => match S, ret with
    | [.inl (true, a)], some .long => some (some (.inl (true, a)))
    | _, _ => none
  | .return_ => match S, ret with
    | [], none => some none
    | _, _ => none
  | _ => none
def aPostOk (post : List aO) (x : aX) (rv : Option aV) : Bool := post.any fun z => (match rv, z.1 with
  | none, none => true
  | some v, some p => aIn x v (.inl p)
  | _, _ => false) && aCells x z.2
def aIsRet : Instr → Bool
  | .ireturn => true
  | .lreturn => true
  | .return_ => true
  | _ => false
def ana (T : List (Nat × aY)) (inl : List Nat) (W : List (Nat × Nat × Nat)) (D : Nat) (hs : List (Nat × List aH)) (post : List aO) (rk : Option (Nat × List (aA × Bool))) : Nat → Bool → aS → Bool
  | 0, _, _ => false
  | n + 1, first, (x, fs) => match fs with
    | [] => false
    | (M, pc, L, S) :: r => match zP[M]? with
      | none => false
      | some e => match (bif first || !r.isEmpty then none else zFind pc hs) with
        | some invs => S.isEmpty && invs.any (aArr rk x L)
        | none => match zFind pc (zk e) with
          | none => false
          | some i => bif aIsRet i then match aRetOk (zr e) i x S with
              | none => false
              | some rv => match r with
                | [] => aPostOk post x rv
                | (M', pc', L', S') :: r' => ana T inl W D hs post rk n false (x, (M', pc', L', rv.toList ++ S') :: r')
            else match aStep T inl W D i (zo e) x M pc L S r with
              | none => false
              | some l => l.all fun s => ana T inl W D hs post rk n false s
/-! a summary holds: from the entry, and from every head -/
def aMkL : List (Option aP) → aX → aX × List (Option aV)
  | [], x => (x, [])
  | none :: P, x => let q := aMkL P x; (q.1, none :: q.2)
  | some (.inr r) :: P, x => let q := aMkL P x; (q.1, some (.inr r) :: q.2)
  | some (.inl (l, lo, hi, nz)) :: P, x => let p := aNew x lo hi nz 0 (0, 0) (0, 0)
    let q := aMkL P p.1
    (q.1, some (.inl (l, p.2)) :: q.2)
def aX0 : aX := ([], [], [])
def aPre (as : List aP) : List (Option aP) := as.flatMap fun p => match p with
  | .inl (true, q) => [some (.inl (true, q)), none]
  | p => [some p]
def aChk (T : List (Nat × aY)) (inl : List Nat) (M : Nat) (y : aY) (hs : List (Nat × List aH)) (fuel : Nat) : Bool := match zP[M]? with
  | none => false
  | some e =>
    let P := aPre y.1
    let m := aMkL (P ++ List.replicate (zx e - P.length) none) (aMkM y.2.1 aX0)
    ana T inl y.2.2.2.1 y.2.2.2.2 hs y.2.2.1 none fuel false (m.1, [(M, 0, m.2, [])]) &&
    hs.all fun h => h.2.all fun v =>
      let m := aMkL v.1 (aMkM v.2.1 aX0)
      match aRks m.1 m.2 v.2.2.1 with
      | none => false
      | some rk => Nat.blt v.2.2.2 100 && ana T inl y.2.2.2.1 y.2.2.2.2 hs y.2.2.1 (some (v.2.2.2, rk)) fuel true (m.1, [(M, h.1, m.2, [])])

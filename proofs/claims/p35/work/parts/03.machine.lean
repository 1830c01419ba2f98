/-! the pure machine: what the code does to locals, stack and the numbers in the cells -/
abbrev zH : Type := (Nat → Nat → Int32) × (Nat → Nat → Int64)
abbrev zLo : Type := List (Option Value)
abbrev zF : Type := zLo × List Value × zH
abbrev zSc : Type := Option (Nat × (Nat → Int32))
def zFind {α : Type} (k : Nat) : List (Nat × α) → Option α
  | [] => none
  | q :: r => bif Nat.beq q.1 k then some q.2 else zFind k r
theorem zFind_mem {α : Type} {k : Nat} {v : α} : ∀ {l : List (Nat × α)}, zFind k l = some v → (k, v) ∈ l
  | [], h => by cases h
  | q :: r, h => by
    unfold zFind at h
    cases hb : Nat.beq q.1 k with
    | true =>
      rw [hb] at h
      have e : q.1 = k := Nat.eq_of_beq_eq_true hb
      cases h
      rw [← e]
      exact List.mem_cons_self
    | false =>
      rw [hb] at h
      exact List.mem_cons_of_mem _ (zFind_mem h)
abbrev zy (e : zE) : MethodName := e.1.1
abbrev zb (e : zE) : ByteArray := e.1.2.1
abbrev zx (e : zE) : Nat := e.1.2.2.1
abbrev zr (e : zE) : Option FieldType := e.1.2.2.2.1
abbrev zn (e : zE) : Nat := e.1.2.2.2.2.1
abbrev zo (e : zE) : Nat := e.1.2.2.2.2.2
abbrev zk (e : zE) : List (Nat × Instr) := e.2.2
def zLen : Instr → Nat
  | .aload _ => 2
  | .iload _ => 2
  | .lload _ => 2
  | .astore _ => 2
  | .istore _ => 2
  | .lstore _ => 2
  | .bipush _ => 2
  | .ldc _ => 2
  | .sipush _ => 3
  | .getfield _ => 3
  | .putfield _ => 3
  | .getstatic _ => 3
  | .invokevirtual _ => 3
  | .invokestatic _ => 3
  | .iinc _ _ => 3
  | .ifCond _ _ => 3
  | .if_icmp _ _ => 3
  | .goto _ => 3
  | .ldc_w _ => 3
  | .ldc2_w _ => 3
  | _ => 1
def zSw : Instr → Bool
  | .tableswitch .. => true
  | .lookupswitch .. => true
  | _ => false
def zChk (b : ByteArray) (l : List (Nat × Instr)) : Bool := l.all fun q => match decode b q.1 with
  | .ok (j, n) => decide (j = q.2) && (zSw j || n == zLen j)
  | _ => false
def zs0 (j : Nat) : Int32 := [0, 0, 1, 1, 0, 4].getD j 0
def zs1 (j : Nat) : Int32 := [10, 11, 12, 11, 13, 14].getD j 0
def zs2 (j : Nat) : Int32 := [20, 21, 24, 22, 23, 23].getD j 0
/-- a row of ints that may be read: of the cells, of the statics (900 ..), the script (800) -/
def zRow (E : zSc) (q : Nat) (h : zH) : Option (Nat × (Nat → Int32)) := match lay[q]? with
  | some (.inr (.inl n)) => some (n, h.1 q)
  | some _ => none
  | none => bif Nat.beq q 900 then some (6, zs0) else bif Nat.beq q 901 then some (6, zs1) else bif Nat.beq q 902 then some (6, zs2) else bif Nat.beq q 800 then E else none
def zSt1 (L : zLo) (k : Nat) (v : Value) : zLo := match k with
  | 0 => L.set 0 (some v)
  | j + 1 => match L[j]? with
    | some (some (.long _)) => (L.set j none).set (j + 1) (some v)
    | some (some (.double _)) => (L.set j none).set (j + 1) (some v)
    | _ => L.set (j + 1) (some v)
def zSt2 (L : zLo) (k : Nat) (v : Value) : zLo := (zSt1 L k v).set (k + 1) none
def zBin (f : Int32 → Int32 → Int32) (L : zLo) (S : List Value) (h : zH) : Option zF := match S with
  | .int y :: .int x :: r => some (L, .int (f x y) :: r, h)
  | _ => none
def zBiD (f : Int32 → Int32 → Int32) (L : zLo) (S : List Value) (h : zH) : Option zF := match S with
  | .int y :: .int x :: r => if y = 0 then none else some (L, .int (f x y) :: r, h)
  | _ => none
def zLin (f : Int64 → Int64 → Int64) (L : zLo) (S : List Value) (h : zH) : Option zF := match S with
  | .long y :: .long x :: r => some (L, .long (f x y) :: r, h)
  | _ => none
def zLiD (f : Int64 → Int64 → Int64) (L : zLo) (S : List Value) (h : zH) : Option zF := match S with
  | .long y :: .long x :: r => if y = 0 then none else some (L, .long (f x y) :: r, h)
  | _ => none
def zUn (f : Int32 → Int32) (L : zLo) (S : List Value) (h : zH) : Option zF := match S with
  | .int x :: r => some (L, .int (f x) :: r, h)
  | _ => none
def zLdi (L : zLo) (k : Nat) (S : List Value) (h : zH) : Option zF := match L[k]? with
  | some (some (.int x)) => some (L, .int x :: S, h)
  | _ => none
def zLdl (L : zLo) (k : Nat) (S : List Value) (h : zH) : Option zF := match L[k]? with
  | some (some (.long x)) => some (L, .long x :: S, h)
  | _ => none
def zLda (L : zLo) (k : Nat) (S : List Value) (h : zH) : Option zF := match L[k]? with
  | some (some (.ref x)) => some (L, .ref x :: S, h)
  | _ => none
def zSti (L : zLo) (k : Nat) (S : List Value) (h : zH) : Option zF := match S with
  | .int x :: r => bif Nat.blt k L.length then some (zSt1 L k (.int x), r, h) else none
  | _ => none
def zStl (L : zLo) (k : Nat) (S : List Value) (h : zH) : Option zF := match S with
  | .long x :: r => bif Nat.blt (k + 1) L.length then some (zSt2 L k (.long x), r, h) else none
  | _ => none
def zSta (L : zLo) (k : Nat) (S : List Value) (h : zH) : Option zF := match S with
  | .ref x :: r => bif Nat.blt k L.length then some (zSt1 L k (.ref x), r, h) else none
  | _ => none
def zInc (L : zLo) (k : Nat) (n : Int) (S : List Value) (h : zH) : Option zF := match L[k]? with
  | some (some (.int x)) => some (zSt1 L k (.int (x + Int32.ofInt n)), S, h)
  | _ => none
/-- the field that a number of the pool links: class and slot -/
def zFld (o k : Nat) : Option (Nat × Nat) := match zFind k (zFT.getD o []) with
  | some (c, s, _) => some (c, s)
  | none => none
/-- the only fields of one bit -/
def zIsB (c s : Nat) : Bool := Nat.beq c 2 && Nat.beq s 0
def zGet (o k : Nat) (L : zLo) (S : List Value) (h : zH) : Option zF := match S with
  | .ref q :: r => match zFld o k with
    | some (c, s) => match lay[q]? with
      | some (.inl (c', fs)) => bif Nat.beq c' c then match fs[s]? with
        | some none => some (L, .int (h.1 q s) :: r, h)
        | some (some q') => some (L, .ref q' :: r, h)
        | none => none
        else none
      | _ => none
    | none => none
  | _ => none
def zSet (h : zH) (q j : Nat) (x : Int32) : zH := (va_up h.1 q (upd (h.1 q) j x), h.2)
def zPut (o k : Nat) (L : zLo) (S : List Value) (h : zH) : Option zF := match S with
  | .int x :: .ref q :: r => match zFld o k with
    | some (c, s) => match lay[q]? with
      | some (.inl (c', fs)) => bif Nat.beq c' c then match fs[s]? with
        | some none => bif zIsB c s then (if x = 0 ∨ x = 1 then some (L, r, zSet h q s x) else none) else some (L, r, zSet h q s x)
        | _ => none
        else none
      | _ => none
    | none => none
  | _ => none
def zIal (E : zSc) (L : zLo) (S : List Value) (h : zH) : Option zF := match S with
  | .int i :: .ref q :: r => match zRow E q h with
    | some (n, f) => if i < 0 ∨ n ≤ i.toNatClampNeg then none else some (L, .int (f i.toNatClampNeg) :: r, h)
    | none => none
  | _ => none
def zAle (E : zSc) (L : zLo) (S : List Value) (h : zH) : Option zF := match S with
  | .ref q :: r => match zRow E q h with
    | some (n, _) => some (L, .int (Int32.ofNat n) :: r, h)
    | none => none
  | _ => none
def zIas (L : zLo) (S : List Value) (h : zH) : Option zF := match S with
  | .int x :: .int i :: .ref q :: r => match lay[q]? with
    | some (.inr (.inl n)) => if i < 0 ∨ n ≤ i.toNatClampNeg then none else some (L, r, zSet h q i.toNatClampNeg x)
    | _ => none
  | _ => none
def zLal (L : zLo) (S : List Value) (h : zH) : Option zF := match S with
  | .int i :: .ref q :: r => match lay[q]? with
    | some (.inr (.inr (.inl n))) => if i < 0 ∨ n ≤ i.toNatClampNeg then none else some (L, .long (h.2 q i.toNatClampNeg) :: r, h)
    | _ => none
  | _ => none
def zLas (L : zLo) (S : List Value) (h : zH) : Option zF := match S with
  | .long x :: .int i :: .ref q :: r => match lay[q]? with
    | some (.inr (.inr (.inl n))) => if i < 0 ∨ n ≤ i.toNatClampNeg then none else some (L, r, (h.1, va_up h.2 q (vp_updL (h.2 q) i.toNatClampNeg x)))
    | _ => none
  | _ => none
def zAal (L : zLo) (S : List Value) (h : zH) : Option zF := match S with
  | .int i :: .ref q :: r => match lay[q]? with
    | some (.inr (.inr (.inr (_, ks)))) => if i < 0 ∨ ks.length ≤ i.toNatClampNeg then none else match ks[i.toNatClampNeg]? with
      | some q' => some (L, .ref q' :: r, h)
      | none => none
    | _ => none
  | _ => none
def zDup (L : zLo) (S : List Value) (h : zH) : Option zF := match S with
  | v :: r => bif Nat.beq v.category 1 then some (L, v :: v :: r, h) else none
  | _ => none
def zDup2 (L : zLo) (S : List Value) (h : zH) : Option zF := match S with
  | v :: w :: r => bif Nat.beq v.category 1 && Nat.beq w.category 1 then some (L, v :: w :: v :: w :: r, h) else none
  | _ => none
def zPop (L : zLo) (S : List Value) (h : zH) : Option zF := match S with
  | v :: r => bif Nat.beq v.category 1 then some (L, r, h) else none
  | _ => none
def zPop2 (L : zLo) (S : List Value) (h : zH) : Option zF := match S with
  | v :: r => bif Nat.beq v.category 2 then some (L, r, h) else none
  | _ => none
def zI (E : zSc) (o : Nat) (i : Instr) (L : zLo) (S : List Value) (h : zH) : Option zF := match i with
  | .iconst n => some (L, .int (Int32.ofInt n) :: S, h)
  | .bipush n => some (L, .int (Int8.ofInt n).toInt32 :: S, h)
  | .sipush n => some (L, .int (Int16.ofInt n).toInt32 :: S, h)
  | .lconst n => some (L, .long (Int64.ofNat (n : Nat)) :: S, h)
  | .ldc k => match zFind k (zKT.getD o []) with
    | some (v, _) => some (L, .int v :: S, h)
    | none => none
  | .ldc_w k => match zFind k (zKT.getD o []) with
    | some (v, _) => some (L, .int v :: S, h)
    | none => none
  | .ldc2_w k => match zFind k (zJT.getD o []) with
    | some (v, _) => some (L, .long v :: S, h)
    | none => none
  | .iload k => zLdi L k S h
  | .iload_n k => zLdi L k S h
  | .lload k => zLdl L k S h
  | .lload_n k => zLdl L k S h
  | .aload k => zLda L k S h
  | .aload_n k => zLda L k S h
  | .istore k => zSti L k S h
  | .istore_n k => zSti L k S h
  | .lstore k => zStl L k S h
  | .lstore_n k => zStl L k S h
  | .astore k => zSta L k S h
  | .astore_n k => zSta L k S h
  | .iinc k n => zInc L k n S h
  | .iadd => zBin (fun x y => x + y) L S h
  | .isub => zBin (fun x y => x - y) L S h
  | .imul => zBin (fun x y => x * y) L S h
  | .iand => zBin (fun x y => x &&& y) L S h
  | .ior => zBin (fun x y => x ||| y) L S h
  | .ixor => zBin (fun x y => x ^^^ y) L S h
  | .ishl => zBin (fun x y => x <<< (y &&& 31)) L S h
  | .ishr => zBin (fun x y => x >>> (y &&& 31)) L S h
  | .iushr => zBin (fun x y => (x.toUInt32 >>> (y.toUInt32 &&& Int32.toUInt32 31)).toInt32) L S h
  | .idiv => zBiD (fun x y => x / y) L S h
  | .irem => zBiD (fun x y => x - x / y * y) L S h
  | .ineg => zUn (fun x => -x) L S h
  | .i2b => zUn (fun x => x.toInt8.toInt32) L S h
  | .i2s => zUn (fun x => x.toInt16.toInt32) L S h
  | .i2l => match S with
    | .int x :: r => some (L, .long x.toInt64 :: r, h)
    | _ => none
  | .l2i => match S with
    | .long x :: r => some (L, .int x.toInt32 :: r, h)
    | _ => none
  | .lneg => match S with
    | .long x :: r => some (L, .long (-x) :: r, h)
    | _ => none
  | .lcmp => match S with
    | .long y :: .long x :: r => some (L, .int (lg_cmp x y) :: r, h)
    | _ => none
  | .ladd => zLin (fun x y => x + y) L S h
  | .lsub => zLin (fun x y => x - y) L S h
  | .lmul => zLin (fun x y => x * y) L S h
  | .ldiv => zLiD (fun x y => x / y) L S h
  | .lrem => zLiD (fun x y => x - x / y * y) L S h
  | .dup => zDup L S h
  | .dup2 => zDup2 L S h
  | .pop => zPop L S h
  | .pop2 => zPop2 L S h
  | .getfield k => zGet o k L S h
  | .putfield k => zPut o k L S h
  | .getstatic k => match zFind k (zGT.getD o []) with
    | some (j, _) => some (L, .ref (900 + j) :: S, h)
    | none => none
  | .iaload => zIal E L S h
  | .arraylength => zAle E L S h
  | .iastore => zIas L S h
  | .laload => zLal L S h
  | .lastore => zLas L S h
  | .aaload => zAal L S h
  | _ => none
/-! branches -/
def zTgt (pc : Nat) (off : Int) : Option Nat := if 0 ≤ (pc : Int) + off then some ((pc : Int) + off).toNat else none
def zc1 (c : Jvm.ClassFile.Cond) (x : Int32) : Bool := match c with
  | .eq => decide (x = 0)
  | .ne => !decide (x = 0)
  | .lt => decide (x < 0)
  | .ge => decide (0 ≤ x)
  | .gt => decide (0 < x)
  | .le => decide (x ≤ 0)
def zc2 (c : Jvm.ClassFile.Cond) (x y : Int32) : Bool := match c with
  | .eq => decide (x = y)
  | .ne => !decide (x = y)
  | .lt => decide (x < y)
  | .ge => decide (y ≤ x)
  | .gt => decide (y < x)
  | .le => decide (x ≤ y)
def zGo (t : Option Nat) (L : zLo) (S : List Value) (h : zH) : Option (Nat × zF) := match t with
  | some t => some (t, L, S, h)
  | none => none
def zS (E : zSc) (o pc : Nat) (i : Instr) (L : zLo) (S : List Value) (h : zH) : Option (Nat × zF) := match i with
  | .ifCond c off => match S with
    | .int x :: r => match zTgt pc off with
      | some t => some (bif zc1 c x then t else pc + 3, L, r, h)
      | none => none
    | _ => none
  | .if_icmp c off => match S with
    | .int y :: .int x :: r => match zTgt pc off with
      | some t => some (bif zc2 c x y then t else pc + 3, L, r, h)
      | none => none
    | _ => none
  | .goto off => zGo (zTgt pc off) L S h
  | .tableswitch d lo hi offs => match S with
    | .int x :: r => if x.toInt < lo ∨ hi < x.toInt then zGo (zTgt pc d) L r h else match offs[(x.toInt - lo).toNat]? with
      | some off => zGo (zTgt pc off) L r h
      | none => none
    | _ => none
  | .lookupswitch d ps => match S with
    | .int x :: r => if (ps.toList.zip (ps.toList.drop 1)).all (fun (a, next) => a.1 < next.1) = true then zGo (zTgt pc (Op.lookupswitch.offset ps.toList d x.toInt)) L r h else none
    | _ => none
  | i => match zI E o i L S h with
    | some f => some (pc + zLen i, f)
    | none => none
/-! calls -/
def zCat (S : List Value) : Nat := (S.map fun v => v.category).sum
def zEnt (as : List Value) (n : Nat) : zLo := (as.flatMap fun v => if v.category = 2 then [some v, none] else [some v]) ++ List.replicate (n - (as.flatMap fun v => if v.category = 2 then [some v, none] else [some v] : zLo).length) none
def zVw : List Nat := [0, 1, 2, 3, 99, 4, 99, 5, 6, 7, 8]
def zRecv (o : Nat) (as : List Value) : Bool := match as with
  | .ref q :: _ => match lay[q]? with
    | some (.inl (c, _)) => Nat.beq (zVw.getD o 99) c
    | _ => false
  | _ => false
def zCallK (rec : Nat → zLo → zH → Option (Option Value × zH)) (o : Nat) (vir : Bool) (k : Nat) (S : List Value) (h : zH) : Option (List Value × zH) :=
  match zFind k (zQT.getD o []) with
  | none => none
  | some (M', st, _) => bif st == vir then none else match zP[M']? with
    | none => none
    | some e => if S.length < zn e + vir.toNat ∨ 8 < zCat (S.drop (zn e + vir.toNat)) ∨ (vir = true ∧ zRecv (zo e) (S.take (zn e + vir.toNat)).reverse = false) ∨ zx e < ((S.take (zn e + vir.toNat)).flatMap fun v => if v.category = 2 then [some v, none] else [some v] : zLo).length then none
      else match rec M' (zEnt (S.take (zn e + vir.toNat)).reverse (zx e)) h with
        | none => none
        | some (rv, h') => some (rv.toList ++ S.drop (zn e + vir.toNat), h')
def zCopy (S : List Value) (h : zH) : Option (List Value × zH) := match S with
  | .int n :: .int dp :: .ref q1 :: .int sp :: .ref q0 :: r => match lay[q0]?, lay[q1]? with
    | some (.inr (.inl n0)), some (.inr (.inl n1)) => if sp < 0 ∨ dp < 0 ∨ n < 0 ∨ n0 < sp.toNatClampNeg + n.toNatClampNeg ∨ n1 < dp.toNatClampNeg + n.toNatClampNeg ∨ 8 < zCat r then none
      else some (r, (va_up h.1 q1 (va_cpy (h.1 q0) (h.1 q1) sp.toNatClampNeg dp.toNatClampNeg n.toNatClampNeg), h.2))
    | _, _ => none
  | _ => none
def zOne (E : zSc) (rec : Nat → zLo → zH → Option (Option Value × zH)) (o : Nat) (pc : Nat) (i : Instr) (L : zLo) (S : List Value) (h : zH) : Option (Nat × zF) := match i with
  | .invokestatic k => match zFind k (zAT.getD o []) with
    | some _ => match zCopy S h with
      | some r => some (pc + 3, L, r)
      | none => none
    | none => match zCallK rec o false k S h with
      | some r => some (pc + 3, L, r)
      | none => none
  | .invokevirtual k => match zCallK rec o true k S h with
    | some r => some (pc + 3, L, r)
    | none => none
  | i => zS E o pc i L S h
def zRet (ret : Option FieldType) (i : Instr) (S : List Value) : Option (Option Value) := match i with
  | .ireturn => match S, ret with
    | [.int v], some .int => some (some (.int v))
    | [.int v], some .boolean => if v = 0 ∨ v = 1 then some (some (.int v)) else none
    | _, _ => none
  | .lreturn => match S, ret with
    | [.long v], some .long => some (some (.long v))
    | _, _ => none
  | .return_ => match S, ret with
    | [], none => some none
    | _, _ => none
  | _ => none
def zRun : Nat → Nat → Nat → Nat → zLo → List Value → zH → Option (Option Value × zH)
  | 0, _, _, _, _, _, _ => none
  | n + 1, d, M, pc, L, S, h => match zP[M]? with
    | none => none
    | some e => match zFind pc (zk e) with
      | none => none
      | some i => match zRet (zr e) i S with
        | some rv => some (rv, h)
        | none => match zOne none (match d with
            | 0 => fun _ _ _ => none
            | d' + 1 => fun M' L' h' => zRun n d' M' 0 L' [] h') (zo e) pc i L S h with
          | none => none
          | some (pc', L', S', h') => zRun n d M pc' L' S' h'

/-! by hand: bitsOf, divisor, the greater and the lesser -/
section ZHand
variable {d M pc : Nat} {e : zE} {i : Instr} {L : zLo} {S : List Value} {h : zH} {Q : Option Value → zH → Prop}
theorem zwM_ret {rv : Option Value} (hM : zP[M]? = some e) (hf : zFind pc (zk e) = some i) (hr : zRet (zr e) i S = some rv) (hq : Q rv h) : zwM d M pc L S h Q := ⟨e, hM, zw_ret hf hr hq⟩
theorem zwM_if {c : Jvm.ClassFile.Cond} {off : Int} {t : Nat} {x : Int32} (hM : zP[M]? = some e) (hf : zFind pc (zk e) = some (.ifCond c off)) (ht : zTgt pc off = some t) (h1 : zc1 c x = true → zwM d M t L S h Q) (h2 : zc1 c x = false → zwM d M (pc + 3) L S h Q) : zwM d M pc L (.int x :: S) h Q := by
  have hs : zS none (zo e) pc (.ifCond c off) L (.int x :: S) h = some (bif zc1 c x then t else pc + 3, L, S, h) := by
    unfold zS
    dsimp only
    rw [ht]
  refine zwM_one hM hf rfl hs (fun _ => rfl) ?_
  cases hc : zc1 c x with
  | true => exact h1 hc
  | false => exact h2 hc
theorem zwM_icmp {c : Jvm.ClassFile.Cond} {off : Int} {t : Nat} {x y : Int32} (hM : zP[M]? = some e) (hf : zFind pc (zk e) = some (.if_icmp c off)) (ht : zTgt pc off = some t) (h1 : zc2 c x y = true → zwM d M t L S h Q) (h2 : zc2 c x y = false → zwM d M (pc + 3) L S h Q) : zwM d M pc L (.int y :: .int x :: S) h Q := by
  have hs : zS none (zo e) pc (.if_icmp c off) L (.int y :: .int x :: S) h = some (bif zc2 c x y then t else pc + 3, L, S, h) := by
    unfold zS
    dsimp only
    rw [ht]
  refine zwM_one hM hf rfl hs (fun _ => rfl) ?_
  cases hc : zc2 c x y with
  | true => exact h1 hc
  | false => exact h2 hc
theorem zm_ofM {x : zE} {as : List Value} (hM : zP[M]? = some x) (hw : zwM d M 0 (zEnt as (zx x)) [] h Q) : zm d M as h Q := by
  obtain ⟨e, he, hw⟩ := hw
  cases hM.symm.trans he
  exact zm_of hM hw
theorem zwM_lrem {x y : Int64} (hM : zP[M]? = some e) (hf : zFind pc (zk e) = some .lrem) (hy : ¬ y = 0) (hw : zwM d M (pc + 1) L (.long (x - x / y * y) :: S) h Q) : zwM d M pc L (.long y :: .long x :: S) h Q := by
  have hs : zS none (zo e) pc .lrem L (.long y :: .long x :: S) h = some (pc + 1, L, .long (x - x / y * y) :: S, h) := by
    show (match (if y = 0 then none else some (L, Value.long (x - x / y * y) :: S, h) : Option zF) with
      | some f => some (pc + 1, f)
      | none => none) = _
    rw [if_neg hy]
  exact zwM_one hM hf rfl hs (fun _ => rfl) hw
theorem lgc {y : Int64} : (zc1 .eq (lg_cmp y (Int64.ofNat 0)) = true → y.toInt = 0) ∧ (zc1 .eq (lg_cmp y (Int64.ofNat 0)) = false → y.toInt ≠ 0) := by
  have e0 : (Int64.ofNat 0).toInt = 0 := by decide
  unfold lg_cmp zc1
  dsimp only
  by_cases h1 : Int64.ofNat 0 < y
  · have h1' := Int64.lt_iff_toInt_lt.mp h1
    simp only [h1, if_true]
    exact ⟨(fun q => by cases q), fun _ => by omega⟩
  · by_cases h2 : y = Int64.ofNat 0
    · subst h2
      simp only [h1, if_false]
      exact ⟨fun _ => e0, fun q => by simp at q⟩
    · have h3 : y.toInt ≠ 0 := fun z => h2 (Int64.toInt_inj.mp (z.trans e0.symm))
      rw [if_neg h1, if_neg h2]
      exact ⟨fun q => absurd q (by decide), fun _ => h3⟩
end ZHand
theorem and_less {s : Int32} {n : Nat} (hne : s ≠ 0) (hs : s.toBitVec.toNat ≤ n + 1) : (s &&& (s - Int32.ofInt 1)).toBitVec.toNat ≤ n := by
  have e1 : (s &&& (s - Int32.ofInt 1)).toBitVec = s.toBitVec &&& (s.toBitVec - 1#32) := rfl
  rw [e1, BitVec.toNat_and]
  have h0 : s.toBitVec.toNat ≠ 0 := fun z => hne (Int32.toBitVec_inj.mp (BitVec.eq_of_toNat_eq (by simpa using z)))
  have hlt := s.toBitVec.isLt
  have e2 : (s.toBitVec - 1#32).toNat = s.toBitVec.toNat - 1 := by
    rw [BitVec.toNat_sub]
    simp only [BitVec.toNat_ofNat]
    omega
  rw [e2]
  have := Nat.and_le_right (n := s.toBitVec.toNat) (m := s.toBitVec.toNat - 1)
  omega

theorem bits_loop (d : Nat) (h : zH) (u : Int32) : ∀ (n : Nat) (m s : Int32), s.toBitVec.toNat ≤ n → zwM d 123 4 [some (.int u), some (.int m), some (.int s)] [] h (fun rv h' => h' = h ∧ ∃ r : Int32, rv = some (.int r)) := by
  intro n
  induction n with
  | zero =>
    intro m s hs
    have e : s = 0 := Int32.toBitVec_inj.mp (BitVec.eq_of_toNat_eq (by simpa using hs))
    subst e
    refine zwM_one (i := .iload_n 2) (e := zm_123) rfl rfl rfl rfl (fun _ => rfl) ?_
    show zwM d 123 5 [some (.int u), some (.int m), some (.int 0)] [.int 0] h _
    refine zwM_if (e := zm_123) rfl rfl (t := 20) rfl (fun _ => ?_) (fun hc => absurd hc (by decide))
    show zwM d 123 20 [some (.int u), some (.int m), some (.int 0)] [] h _
    refine zwM_one (i := .iload_n 1) (e := zm_123) rfl rfl rfl rfl (fun _ => rfl) ?_
    show zwM d 123 21 [some (.int u), some (.int m), some (.int 0)] [.int m] h _
    exact zwM_ret (e := zm_123) (i := .ireturn) rfl rfl rfl ⟨rfl, m, rfl⟩
  | succ n ih =>
    intro m s hs
    refine zwM_one (i := .iload_n 2) (e := zm_123) rfl rfl rfl rfl (fun _ => rfl) ?_
    show zwM d 123 5 [some (.int u), some (.int m), some (.int s)] [.int s] h _
    refine zwM_if (e := zm_123) rfl rfl (t := 20) rfl (fun _ => ?_) (fun hc => ?_)
    · show zwM d 123 20 [some (.int u), some (.int m), some (.int s)] [] h _
      refine zwM_one (i := .iload_n 1) (e := zm_123) rfl rfl rfl rfl (fun _ => rfl) ?_
      show zwM d 123 21 [some (.int u), some (.int m), some (.int s)] [.int m] h _
      exact zwM_ret (e := zm_123) (i := .ireturn) rfl rfl rfl ⟨rfl, m, rfl⟩
    · show zwM d 123 8 [some (.int u), some (.int m), some (.int s)] [] h _
      refine zwM_one (i := .iinc 1 1) (e := zm_123) rfl rfl rfl rfl (fun _ => rfl) ?_
      show zwM d 123 11 [some (.int u), some (.int (m + Int32.ofInt 1)), some (.int s)] [] h _
      refine zwM_one (i := .iload_n 2) (e := zm_123) rfl rfl rfl rfl (fun _ => rfl) ?_
      show zwM d 123 12 [some (.int u), some (.int (m + Int32.ofInt 1)), some (.int s)] [.int s] h _
      refine zwM_one (i := .iload_n 2) (e := zm_123) rfl rfl rfl rfl (fun _ => rfl) ?_
      show zwM d 123 13 [some (.int u), some (.int (m + Int32.ofInt 1)), some (.int s)] [.int s, .int s] h _
      refine zwM_one (i := .iconst 1) (e := zm_123) rfl rfl rfl rfl (fun _ => rfl) ?_
      show zwM d 123 14 [some (.int u), some (.int (m + Int32.ofInt 1)), some (.int s)] [.int (Int32.ofInt 1), .int s, .int s] h _
      refine zwM_one (i := .isub) (e := zm_123) rfl rfl rfl rfl (fun _ => rfl) ?_
      show zwM d 123 15 [some (.int u), some (.int (m + Int32.ofInt 1)), some (.int s)] [.int (s - (Int32.ofInt 1)), .int s] h _
      refine zwM_one (i := .iand) (e := zm_123) rfl rfl rfl rfl (fun _ => rfl) ?_
      show zwM d 123 16 [some (.int u), some (.int (m + Int32.ofInt 1)), some (.int s)] [.int (s &&& (s - (Int32.ofInt 1)))] h _
      refine zwM_one (i := .istore_n 2) (e := zm_123) rfl rfl rfl rfl (fun _ => rfl) ?_
      show zwM d 123 17 [some (.int u), some (.int (m + Int32.ofInt 1)), some (.int (s &&& (s - (Int32.ofInt 1))))] [] h _
      refine zwM_one (i := .goto (-13)) (e := zm_123) rfl rfl rfl rfl (fun _ => rfl) ?_
      show zwM d 123 4 [some (.int u), some (.int (m + Int32.ofInt 1)), some (.int (s &&& (s - (Int32.ofInt 1))))] [] h _
      refine ih _ _ ?_
      have hne : s ≠ 0 := fun z => by rw [z] at hc; cases hc
      exact and_less hne hs
theorem bits_ok (d : Nat) (h : zH) (u : Int32) : zm d 123 [.int u] h (fun rv h' => h' = h ∧ ∃ r : Int32, rv = some (.int r)) := by
  have hw : zwM d 123 0 [some (.int u), none, none] [] h (fun rv h' => h' = h ∧ ∃ r : Int32, rv = some (.int r)) := by
    refine zwM_one (i := .iconst 0) (e := zm_123) rfl rfl rfl rfl (fun _ => rfl) ?_
    show zwM d 123 1 [some (.int u), none, none] [.int (Int32.ofInt 0)] h _
    refine zwM_one (i := .istore_n 1) (e := zm_123) rfl rfl rfl rfl (fun _ => rfl) ?_
    show zwM d 123 2 [some (.int u), some (.int (Int32.ofInt 0)), none] [] h _
    refine zwM_one (i := .iload_n 0) (e := zm_123) rfl rfl rfl rfl (fun _ => rfl) ?_
    show zwM d 123 3 [some (.int u), some (.int (Int32.ofInt 0)), none] [.int u] h _
    refine zwM_one (i := .istore_n 2) (e := zm_123) rfl rfl rfl rfl (fun _ => rfl) ?_
    show zwM d 123 4 [some (.int u), some (.int (Int32.ofInt 0)), some (.int u)] [] h _
    exact bits_loop d h u _ _ _ (Nat.le_refl _)
  exact zm_ofM (x := zm_123) rfl hw
theorem tmod_abs {a m : Int} (hm : m ≠ 0) : (a.tmod m).natAbs < m.natAbs := by
  rw [Int.natAbs_tmod]
  exact Nat.mod_lt _ (by omega)

theorem div_loop (d : Nat) (h : zH) (a b : Int64) : ∀ (n : Nat) (x y : Int64) (r : Option Value), y.toInt.natAbs ≤ n → (x.toInt ≠ 0 ∨ y.toInt ≠ 0) → zwM d 194 17 [some (.long a), none, some (.long b), none, some (.long x), none, some (.long y), none, r, none] [] h (fun rv h' => h' = h ∧ ∃ g : Int64, rv = some (.long g) ∧ g.toInt ≠ 0) := by
  intro n
  induction n with
  | zero =>
    intro x y r hn hxy
    refine zwM_one (i := .lload 6) (e := zm_194) rfl rfl rfl rfl (fun _ => rfl) ?_
    show zwM d 194 19 [some (.long a), none, some (.long b), none, some (.long x), none, some (.long y), none, r, none] [.long y] h _
    refine zwM_one (i := .lconst 0) (e := zm_194) rfl rfl rfl rfl (fun _ => rfl) ?_
    show zwM d 194 20 [some (.long a), none, some (.long b), none, some (.long x), none, some (.long y), none, r, none] [.long (Int64.ofNat 0), .long y] h _
    refine zwM_one (i := .lcmp) (e := zm_194) rfl rfl rfl rfl (fun _ => rfl) ?_
    show zwM d 194 21 [some (.long a), none, some (.long b), none, some (.long x), none, some (.long y), none, r, none] [.int (lg_cmp y (Int64.ofNat 0))] h _
    refine zwM_if (e := zm_194) rfl rfl (t := 42) rfl (fun _ => ?_) (fun hc => absurd (lgc.2 hc) (by omega))
    show zwM d 194 42 [some (.long a), none, some (.long b), none, some (.long x), none, some (.long y), none, r, none] [] h _
    refine zwM_one (i := .lload 4) (e := zm_194) rfl rfl rfl rfl (fun _ => rfl) ?_
    show zwM d 194 44 [some (.long a), none, some (.long b), none, some (.long x), none, some (.long y), none, r, none] [.long x] h _
    exact zwM_ret (e := zm_194) (i := .lreturn) rfl rfl rfl ⟨rfl, x, rfl, by omega⟩
  | succ n ih =>
    intro x y r hn hxy
    refine zwM_one (i := .lload 6) (e := zm_194) rfl rfl rfl rfl (fun _ => rfl) ?_
    show zwM d 194 19 [some (.long a), none, some (.long b), none, some (.long x), none, some (.long y), none, r, none] [.long y] h _
    refine zwM_one (i := .lconst 0) (e := zm_194) rfl rfl rfl rfl (fun _ => rfl) ?_
    show zwM d 194 20 [some (.long a), none, some (.long b), none, some (.long x), none, some (.long y), none, r, none] [.long (Int64.ofNat 0), .long y] h _
    refine zwM_one (i := .lcmp) (e := zm_194) rfl rfl rfl rfl (fun _ => rfl) ?_
    show zwM d 194 21 [some (.long a), none, some (.long b), none, some (.long x), none, some (.long y), none, r, none] [.int (lg_cmp y (Int64.ofNat 0))] h _
    refine zwM_if (e := zm_194) rfl rfl (t := 42) rfl (fun hc => ?_) (fun hc => ?_)
    · have hy := lgc.1 hc
      show zwM d 194 42 [some (.long a), none, some (.long b), none, some (.long x), none, some (.long y), none, r, none] [] h _
      refine zwM_one (i := .lload 4) (e := zm_194) rfl rfl rfl rfl (fun _ => rfl) ?_
      show zwM d 194 44 [some (.long a), none, some (.long b), none, some (.long x), none, some (.long y), none, r, none] [.long x] h _
      exact zwM_ret (e := zm_194) (i := .lreturn) rfl rfl rfl ⟨rfl, x, rfl, by omega⟩
    · have hy := lgc.2 hc
      show zwM d 194 24 [some (.long a), none, some (.long b), none, some (.long x), none, some (.long y), none, r, none] [] h _
      refine zwM_one (i := .lload 4) (e := zm_194) rfl rfl rfl rfl (fun _ => rfl) ?_
      show zwM d 194 26 [some (.long a), none, some (.long b), none, some (.long x), none, some (.long y), none, r, none] [.long x] h _
      refine zwM_one (i := .lload 6) (e := zm_194) rfl rfl rfl rfl (fun _ => rfl) ?_
      show zwM d 194 28 [some (.long a), none, some (.long b), none, some (.long x), none, some (.long y), none, r, none] [.long y, .long x] h _
      refine zwM_lrem (e := zm_194) rfl rfl (i64_ne0 hy) ?_
      show zwM d 194 29 [some (.long a), none, some (.long b), none, some (.long x), none, some (.long y), none, r, none] [.long (x - x / y * y)] h _
      refine zwM_one (i := .lstore 8) (e := zm_194) rfl rfl rfl rfl (fun _ => rfl) ?_
      show zwM d 194 31 [some (.long a), none, some (.long b), none, some (.long x), none, some (.long y), none, some (.long (x - x / y * y)), none] [] h _
      refine zwM_one (i := .lload 6) (e := zm_194) rfl rfl rfl rfl (fun _ => rfl) ?_
      show zwM d 194 33 [some (.long a), none, some (.long b), none, some (.long x), none, some (.long y), none, some (.long (x - x / y * y)), none] [.long y] h _
      refine zwM_one (i := .lstore 4) (e := zm_194) rfl rfl rfl rfl (fun _ => rfl) ?_
      show zwM d 194 35 [some (.long a), none, some (.long b), none, some (.long y), none, some (.long y), none, some (.long (x - x / y * y)), none] [] h _
      refine zwM_one (i := .lload 8) (e := zm_194) rfl rfl rfl rfl (fun _ => rfl) ?_
      show zwM d 194 37 [some (.long a), none, some (.long b), none, some (.long y), none, some (.long y), none, some (.long (x - x / y * y)), none] [.long (x - x / y * y)] h _
      refine zwM_one (i := .lstore 6) (e := zm_194) rfl rfl rfl rfl (fun _ => rfl) ?_
      show zwM d 194 39 [some (.long a), none, some (.long b), none, some (.long y), none, some (.long (x - x / y * y)), none, some (.long (x - x / y * y)), none] [] h _
      refine zwM_one (i := .goto (-22)) (e := zm_194) rfl rfl rfl rfl (fun _ => rfl) ?_
      show zwM d 194 17 [some (.long a), none, some (.long b), none, some (.long y), none, some (.long (x - x / y * y)), none, some (.long (x - x / y * y)), none] [] h _
      refine ih _ _ _ ?_ (Or.inl hy)
      rw [Jvm.Kit.i64_rem]
      have := tmod_abs (a := x.toInt) hy
      omega
theorem div_ok (d : Nat) (h : zH) (a b : Int64) (hb : b.toInt ≠ 0) : zm d 194 [.long a, .long b] h (fun rv h' => h' = h ∧ ∃ g : Int64, rv = some (.long g) ∧ g.toInt ≠ 0) := by
  have hw : zwM d 194 0 [some (.long a), none, some (.long b), none, none, none, none, none, none, none] [] h (fun rv h' => h' = h ∧ ∃ g : Int64, rv = some (.long g) ∧ g.toInt ≠ 0) := by
    refine zwM_one (i := .lload_n 0) (e := zm_194) rfl rfl rfl rfl (fun _ => rfl) ?_
    show zwM d 194 1 [some (.long a), none, some (.long b), none, none, none, none, none, none, none] [.long a] h _
    refine zwM_one (i := .lconst 0) (e := zm_194) rfl rfl rfl rfl (fun _ => rfl) ?_
    show zwM d 194 2 [some (.long a), none, some (.long b), none, none, none, none, none, none, none] [.long (Int64.ofNat 0), .long a] h _
    refine zwM_one (i := .lcmp) (e := zm_194) rfl rfl rfl rfl (fun _ => rfl) ?_
    show zwM d 194 3 [some (.long a), none, some (.long b), none, none, none, none, none, none, none] [.int (lg_cmp a (Int64.ofNat 0))] h _
    have fin : ∀ x : Int64, zwM d 194 12 [some (.long a), none, some (.long b), none, none, none, none, none, none, none] [.long x] h (fun rv h' => h' = h ∧ ∃ g : Int64, rv = some (.long g) ∧ g.toInt ≠ 0) := by
      intro x
      refine zwM_one (i := .lstore 4) (e := zm_194) rfl rfl rfl rfl (fun _ => rfl) ?_
      show zwM d 194 14 [some (.long a), none, some (.long b), none, some (.long x), none, none, none, none, none] [] h _
      refine zwM_one (i := .lload_n 2) (e := zm_194) rfl rfl rfl rfl (fun _ => rfl) ?_
      show zwM d 194 15 [some (.long a), none, some (.long b), none, some (.long x), none, none, none, none, none] [.long b] h _
      refine zwM_one (i := .lstore 6) (e := zm_194) rfl rfl rfl rfl (fun _ => rfl) ?_
      show zwM d 194 17 [some (.long a), none, some (.long b), none, some (.long x), none, some (.long b), none, none, none] [] h _
      exact div_loop d h a b _ x b none (Nat.le_refl _) (Or.inr hb)
    refine zwM_if (e := zm_194) rfl rfl (t := 11) rfl (fun _ => ?_) (fun _ => ?_)
    · show zwM d 194 11 [some (.long a), none, some (.long b), none, none, none, none, none, none, none] [] h _
      refine zwM_one (i := .lload_n 0) (e := zm_194) rfl rfl rfl rfl (fun _ => rfl) ?_
      show zwM d 194 12 [some (.long a), none, some (.long b), none, none, none, none, none, none, none] [.long a] h _
      exact fin a
    · show zwM d 194 6 [some (.long a), none, some (.long b), none, none, none, none, none, none, none] [] h _
      refine zwM_one (i := .lload_n 0) (e := zm_194) rfl rfl rfl rfl (fun _ => rfl) ?_
      show zwM d 194 7 [some (.long a), none, some (.long b), none, none, none, none, none, none, none] [.long a] h _
      refine zwM_one (i := .lneg) (e := zm_194) rfl rfl rfl rfl (fun _ => rfl) ?_
      show zwM d 194 8 [some (.long a), none, some (.long b), none, none, none, none, none, none, none] [.long (-a)] h _
      refine zwM_one (i := .goto 4) (e := zm_194) rfl rfl rfl rfl (fun _ => rfl) ?_
      show zwM d 194 12 [some (.long a), none, some (.long b), none, none, none, none, none, none, none] [.long (-a)] h _
      exact fin (-a)
  exact zm_ofM (x := zm_194) rfl hw
theorem greater_ok (d : Nat) (h : zH) (a b : Int32) : zm d 197 [.int a, .int b] h (fun rv h' => h' = h ∧ rv = some (.int (if b < a then a else b))) := by
  have hw : zwM d 197 0 [some (.int a), some (.int b)] [] h (fun rv h' => h' = h ∧ rv = some (.int (if b < a then a else b))) := by
    refine zwM_one (i := .iload_n 0) (e := zm_197) rfl rfl rfl rfl (fun _ => rfl) ?_
    show zwM d 197 1 [some (.int a), some (.int b)] [.int a] h _
    refine zwM_one (i := .iload_n 1) (e := zm_197) rfl rfl rfl rfl (fun _ => rfl) ?_
    show zwM d 197 2 [some (.int a), some (.int b)] [.int b, .int a] h _
    refine zwM_icmp (e := zm_197) rfl rfl (t := 9) rfl (fun hc => ?_) (fun hc => ?_)
    · show zwM d 197 9 [some (.int a), some (.int b)] [] h _
      refine zwM_one (i := .iload_n 1) (e := zm_197) rfl rfl rfl rfl (fun _ => rfl) ?_
      show zwM d 197 10 [some (.int a), some (.int b)] [.int b] h _
      exact zwM_ret (e := zm_197) (i := .ireturn) rfl rfl rfl ⟨rfl, congrArg (fun z => some (Value.int z)) (if_neg (fun z => by have := of_decide_eq_true hc; rw [Int32.le_iff_toInt_le] at this; rw [Int32.lt_iff_toInt_lt] at z; omega)).symm⟩
    · show zwM d 197 5 [some (.int a), some (.int b)] [] h _
      refine zwM_one (i := .iload_n 0) (e := zm_197) rfl rfl rfl rfl (fun _ => rfl) ?_
      show zwM d 197 6 [some (.int a), some (.int b)] [.int a] h _
      refine zwM_one (i := .goto 4) (e := zm_197) rfl rfl rfl rfl (fun _ => rfl) ?_
      show zwM d 197 10 [some (.int a), some (.int b)] [.int a] h _
      exact zwM_ret (e := zm_197) (i := .ireturn) rfl rfl rfl ⟨rfl, congrArg (fun z => some (Value.int z)) (if_pos (by have := of_decide_eq_false hc; rw [Int32.le_iff_toInt_le] at this; rw [Int32.lt_iff_toInt_lt]; omega)).symm⟩
  exact zm_ofM (x := zm_197) rfl hw
theorem lesser_ok (d : Nat) (h : zH) (a b : Int32) : zm d 198 [.int a, .int b] h (fun rv h' => h' = h ∧ rv = some (.int (if a < b then a else b))) := by
  have hw : zwM d 198 0 [some (.int a), some (.int b)] [] h (fun rv h' => h' = h ∧ rv = some (.int (if a < b then a else b))) := by
    refine zwM_one (i := .iload_n 0) (e := zm_198) rfl rfl rfl rfl (fun _ => rfl) ?_
    show zwM d 198 1 [some (.int a), some (.int b)] [.int a] h _
    refine zwM_one (i := .iload_n 1) (e := zm_198) rfl rfl rfl rfl (fun _ => rfl) ?_
    show zwM d 198 2 [some (.int a), some (.int b)] [.int b, .int a] h _
    refine zwM_icmp (e := zm_198) rfl rfl (t := 9) rfl (fun hc => ?_) (fun hc => ?_)
    · show zwM d 198 9 [some (.int a), some (.int b)] [] h _
      refine zwM_one (i := .iload_n 1) (e := zm_198) rfl rfl rfl rfl (fun _ => rfl) ?_
      show zwM d 198 10 [some (.int a), some (.int b)] [.int b] h _
      exact zwM_ret (e := zm_198) (i := .ireturn) rfl rfl rfl ⟨rfl, congrArg (fun z => some (Value.int z)) (if_neg (fun z => by have := of_decide_eq_true hc; rw [Int32.le_iff_toInt_le] at this; rw [Int32.lt_iff_toInt_lt] at z; omega)).symm⟩
    · show zwM d 198 5 [some (.int a), some (.int b)] [] h _
      refine zwM_one (i := .iload_n 0) (e := zm_198) rfl rfl rfl rfl (fun _ => rfl) ?_
      show zwM d 198 6 [some (.int a), some (.int b)] [.int a] h _
      refine zwM_one (i := .goto 4) (e := zm_198) rfl rfl rfl rfl (fun _ => rfl) ?_
      show zwM d 198 10 [some (.int a), some (.int b)] [.int a] h _
      exact zwM_ret (e := zm_198) (i := .ireturn) rfl rfl rfl ⟨rfl, congrArg (fun z => some (Value.int z)) (if_pos (by have := of_decide_eq_false hc; rw [Int32.le_iff_toInt_le] at this; rw [Int32.lt_iff_toInt_lt]; omega)).symm⟩
  exact zm_ofM (x := zm_198) rfl hw

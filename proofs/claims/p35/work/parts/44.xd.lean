/-! bits of numbers (its first family out of kit/laws/BITS.to-paste) -/
def bt (x : Int32) (i : Nat) : Bool := x.toBitVec.getLsbD i
theorem b_ext {x y : Int32} (h : ∀ i, i < 32 → bt x i = bt y i) : x = y := Int32.toBitVec_inj.mp (BitVec.eq_of_getLsbD_eq (fun i hi => h i hi))
theorem b_or (x y : Int32) (i : Nat) : bt (x ||| y) i = (bt x i || bt y i) := by unfold bt; rw [Int32.toBitVec_or, BitVec.getLsbD_or]
theorem b_and (x y : Int32) (i : Nat) : bt (x &&& y) i = (bt x i && bt y i) := by unfold bt; rw [Int32.toBitVec_and, BitVec.getLsbD_and]
theorem b_xor (x y : Int32) (i : Nat) : bt (x ^^^ y) i = (bt x i ^^ bt y i) := by unfold bt; rw [Int32.toBitVec_xor, BitVec.getLsbD_xor]
theorem b_big {x : Int32} {i : Nat} (h : 32 ≤ i) : bt x i = false := BitVec.getLsbD_of_ge _ _ h
theorem b_m1 : ∀ i, i < 32 → bt (-1) i = true := by decide +kernel
theorem b_0 (i : Nat) : bt 0 i = false := BitVec.getLsbD_zero
theorem s_l : ∀ n, n < 32 → ((nI n &&& 31).toBitVec.smod 32).toNat = n := by decide +kernel
theorem s_u : ∀ n, n < 32 → (((nI n).toUInt32 &&& Int32.toUInt32 31).toBitVec % 32).toNat = n := by decide +kernel
theorem b_shl (n : Nat) (hn : n < 32) (x : Int32) {i : Nat} (hi : i < 32) : bt (x <<< (nI n &&& 31)) i = (decide (n ≤ i) && bt x (i - n)) := by
  unfold bt
  rw [Int32.toBitVec_shiftLeft]
  show (x.toBitVec <<< ((nI n &&& 31).toBitVec.smod 32).toNat).getLsbD i = _
  rw [s_l n hn, BitVec.getLsbD_shiftLeft]
  rcases Nat.lt_or_ge i n with h | h
  · simp [h, Nat.not_le.mpr h]
  · simp [hi, h, Nat.not_lt.mpr h]
theorem b_ushr (n : Nat) (hn : n < 32) (x : Int32) (i : Nat) : bt ((x.toUInt32 >>> ((nI n).toUInt32 &&& Int32.toUInt32 31)).toInt32) i = bt x (n + i) := by
  show (x.toUInt32 >>> ((nI n).toUInt32 &&& Int32.toUInt32 31)).toBitVec.getLsbD i = x.toUInt32.toBitVec.getLsbD (n + i)
  rw [UInt32.toBitVec_shiftRight]
  show (x.toUInt32.toBitVec >>> (((nI n).toUInt32 &&& Int32.toUInt32 31).toBitVec % 32).toNat).getLsbD i = _
  rw [s_u n hn, BitVec.getLsbD_ushiftRight]
theorem b_sshr (n : Nat) (hn : n < 32) (x : Int32) {i : Nat} (hi : i < 32) : bt (x >>> (nI n &&& 31)) i = if n + i < 32 then bt x (n + i) else bt x 31 := by
  unfold bt
  rw [Int32.toBitVec_shiftRight]
  show (x.toBitVec.sshiftRight ((nI n &&& 31).toBitVec.smod 32).toNat).getLsbD i = _
  rw [s_l n hn, BitVec.getLsbD_sshiftRight, BitVec.msb_eq_getLsbD_last]
  simp [hi]
theorem kcm16913 : (Int32.ofInt (-16913)).toInt = (-16913) := by decide
theorem kcm1058 : (Int32.ofInt (-1058)).toInt = (-1058) := by decide
theorem kc_7 : (Int32.ofInt 7).toInt = 7 := by decide
theorem kc_11 : (Int32.ofInt 11).toInt = 11 := by decide
theorem kc_13 : (Int32.ofInt 13).toInt = 13 := by decide
theorem kc_14 : (Int32.ofInt 14).toInt = 14 := by decide
theorem kc_21 : (Int32.ofInt 21).toInt = 21 := by decide
theorem kc_22 : (Int32.ofInt 22).toInt = 22 := by decide
theorem kc_23 : (Int32.ofInt 23).toInt = 23 := by decide
theorem kc_30 : (Int32.ofInt 30).toInt = 30 := by decide
theorem kc_44 : (Int32.ofInt 44).toInt = 44 := by decide
theorem kc_45 : (Int32.ofInt 45).toInt = 45 := by decide
theorem kc_63 : (Int32.ofInt 63).toInt = 63 := by decide
theorem kc_97 : (Int32.ofInt 97).toInt = 97 := by decide
theorem kc_99 : (Int32.ofInt 99).toInt = 99 := by decide
theorem kc_101 : (Int32.ofInt 101).toInt = 101 := by decide
theorem kc_103 : (Int32.ofInt 103).toInt = 103 := by decide
theorem kc_108 : (Int32.ofInt 108).toInt = 108 := by decide
theorem kc_109 : (Int32.ofInt 109).toInt = 109 := by decide
theorem kc_110 : (Int32.ofInt 110).toInt = 110 := by decide
theorem kc_1000 : (Int32.ofInt 1000).toInt = 1000 := by decide
theorem kc_32767 : (Int32.ofInt 32767).toInt = 32767 := by decide
theorem x_nI {x : Int32} {k : Nat} (e : x.toInt = (k : Int)) (hk : k < 2147483648) : x = nI k := Int32.toInt_inj.mp (by rw [e, nI_toInt hk])
theorem bt_shl {x y : Int32} {k i : Nat} (e : y.toInt = (k : Int)) (hk : k < 32) (hi : i < 32) : bt (x <<< (y &&& 31)) i = (decide (k ≤ i) && bt x (i - k)) := by
  rw [x_nI e (by omega)]
  exact b_shl k hk x hi
theorem bt_shr {x y : Int32} {k i : Nat} (e : y.toInt = (k : Int)) (hk : k < 32) (hi : i < 32) : bt (x >>> (y &&& 31)) i = if k + i < 32 then bt x (k + i) else bt x 31 := by
  rw [x_nI e (by omega)]
  exact b_sshr k hk x hi
theorem bt_0 (i : Nat) : bt (Int32.ofInt 0) i = false := b_0 i
theorem bt_1 {i : Nat} (hi : i < 32) : bt (Int32.ofInt 1) i = decide (i = 0) := (by decide +kernel : ∀ i, i < 32 → bt (Int32.ofInt 1) i = decide (i = 0)) i hi
theorem bt_m1 {i : Nat} (hi : i < 32) : bt (Int32.ofInt (-1)) i = true := (by decide +kernel : ∀ i, i < 32 → bt (Int32.ofInt (-1)) i = true) i hi
theorem bt_all {i : Nat} (hi : i < 32) : bt (Int32.ofInt 32767) i = decide (i < 15) := (by decide +kernel : ∀ i, i < 32 → bt (Int32.ofInt 32767) i = decide (i < 15)) i hi
theorem bt_not {x : Int32} {i : Nat} (hi : i < 32) : bt (x ^^^ Int32.ofInt (-1)) i = !bt x i := by
  rw [b_xor, bt_m1 hi]
  cases bt x i <;> rfl
theorem bt_1shl {y : Int32} {k i : Nat} (e : y.toInt = (k : Int)) (hk : k < 32) (hi : i < 32) : bt (Int32.ofInt 1 <<< (y &&& 31)) i = decide (i = k) := by
  rw [bt_shl e hk hi, bt_1 (by omega)]
  by_cases h : k ≤ i
  · rw [decide_eq_true h, Bool.true_and]
    by_cases h2 : i = k
    · rw [decide_eq_true h2, decide_eq_true (by omega)]
    · rw [decide_eq_false h2, decide_eq_false (by omega)]
  · rw [decide_eq_false h, Bool.false_and, decide_eq_false (by omega)]
/-- one bit, as a number -/
theorem bt_at {x y : Int32} {k : Nat} (e : y.toInt = (k : Int)) (hk : k < 32) : (x >>> (y &&& 31)) &&& Int32.ofInt 1 = if bt x k then Int32.ofInt 1 else Int32.ofInt 0 := by
  apply b_ext
  intro i hi
  rw [b_and, bt_shr e hk hi, bt_1 hi]
  by_cases h0 : i = 0
  · subst h0
    rw [if_pos (by omega), Nat.add_zero]
    cases bt x k
    · rw [if_neg (by decide), bt_0]; rfl
    · rw [if_pos rfl, bt_1 hi]; rfl
  · rw [decide_eq_false h0, Bool.and_false]
    cases bt x k
    · rw [if_neg (by decide), bt_0]
    · rw [if_pos rfl, bt_1 hi, decide_eq_false h0]
theorem bt_has {x y : Int32} {k : Nat} (e : y.toInt = (k : Int)) (hk : k < 32) : ((x >>> (y &&& 31)) &&& Int32.ofInt 1).toInt = if bt x k then 1 else 0 := by
  rw [bt_at e hk]
  cases bt x k <;> rfl
/-! sets of cells -/
def mkm (p : Nat → Bool) : Nat → Int32
  | 0 => Int32.ofInt 0
  | k + 1 => mkm p k ||| (if p k then Int32.ofInt 1 <<< (nI k &&& 31) else Int32.ofInt 0)
theorem nI_I {k : Nat} (hk : k < 2147483648) : (nI k).toInt = (k : Int) := nI_toInt hk
theorem mkm_bt (p : Nat → Bool) : ∀ (n : Nat), n ≤ 32 → ∀ i, i < 32 → bt (mkm p n) i = (decide (i < n) && p i)
  | 0, _, i, hi => by
    rw [show mkm p 0 = Int32.ofInt 0 from rfl, bt_0, decide_eq_false (by omega), Bool.false_and]
  | n + 1, hn, i, hi => by
    rw [show mkm p (n + 1) = mkm p n ||| (if p n then Int32.ofInt 1 <<< (nI n &&& 31) else Int32.ofInt 0) from rfl, b_or, mkm_bt p n (by omega) i hi]
    cases hp : p n with
    | true =>
      rw [if_pos rfl, bt_1shl (nI_I (by omega)) (by omega) hi]
      by_cases h1 : i < n
      · rw [decide_eq_true h1, decide_eq_true (show i < n + 1 by omega), decide_eq_false (show ¬ i = n by omega), Bool.or_false]
      · by_cases h2 : i = n
        · rw [decide_eq_true h2, decide_eq_true (show i < n + 1 by omega), h2, hp]
          simp
        · rw [decide_eq_false h1, decide_eq_false h2, decide_eq_false (show ¬ i < n + 1 by omega)]
          simp
    | false =>
      rw [if_neg (by decide), bt_0, Bool.or_false]
      by_cases h1 : i < n
      · rw [decide_eq_true h1, decide_eq_true (show i < n + 1 by omega)]
      · by_cases h2 : i = n
        · rw [decide_eq_true (show i < n + 1 by omega), h2, hp]
          simp
        · rw [decide_eq_false h1, decide_eq_false (show ¬ i < n + 1 by omega)]
theorem mkm_eq {x : Int32} {p : Nat → Bool} {n : Nat} (hn : n ≤ 32) (h : ∀ i, i < 32 → bt x i = (decide (i < n) && p i)) : x = mkm p n := b_ext (fun i hi => by rw [h i hi, mkm_bt p n hn i hi])
theorem mkm_congr {p q : Nat → Bool} {n : Nat} (hn : n ≤ 32) (h : ∀ i, i < n → p i = q i) : mkm p n = mkm q n := mkm_eq hn (fun i hi => by
  rw [mkm_bt p n hn i hi]
  by_cases h1 : i < n
  · rw [h i h1]
  · rw [decide_eq_false h1, Bool.false_and, Bool.false_and])
theorem mkm_1 {x y : Int32} {p : Nat → Bool} {k : Nat} (ex : x = mkm p k) (e : y.toInt = (k : Int)) (hk : k < 32) (hp : p k = true) : x ||| (Int32.ofInt 1 <<< (y &&& 31)) = mkm p (k + 1) := by
  rw [ex, show mkm p (k + 1) = mkm p k ||| (if p k then Int32.ofInt 1 <<< (nI k &&& 31) else Int32.ofInt 0) from rfl, if_pos hp, x_nI e (by omega)]
theorem mkm_0 {x : Int32} {p : Nat → Bool} {k : Nat} (ex : x = mkm p k) (hp : p k = false) : x ||| Int32.ofInt 0 = mkm p (k + 1) := by
  rw [ex, show mkm p (k + 1) = mkm p k ||| (if p k then Int32.ofInt 1 <<< (nI k &&& 31) else Int32.ofInt 0) from rfl, hp]
  rfl
theorem mkm_nil (p : Nat → Bool) : Int32.ofInt 0 = mkm p 0 := rfl
/-! planes: two bits a cell -/
def pl (m : Int32) (f : Nat → Int) : Prop := ∀ c, c < 15 → bt m c = decide (f c % 2 = 1) ∧ bt m (15 + c) = decide (f c / 2 % 2 = 1)
theorem pl_congr {m : Int32} {f g : Nat → Int} (h : pl m f) (e : ∀ c, c < 15 → f c = g c) : pl m g := fun c hc => by
  rw [← e c hc]
  exact h c hc
theorem oI15 {y : Int32} {k : Nat} (e : y.toInt = (k : Int)) (hk : k < 15) : (Int32.ofInt 15 + y).toInt = ((15 + k : Nat) : Int) := by
  rw [wk_add kc_15 e (by omega) (by omega)]
  omega
theorem srt4 (a b : Bool) : ((if a then Int32.ofInt 1 else Int32.ofInt 0) ||| ((if b then Int32.ofInt 1 else Int32.ofInt 0) <<< (Int32.ofInt 1 &&& 31))).toInt = (if a then 1 else 0) + (if b then 2 else 0) := by
  cases a <;> cases b <;> decide
theorem q_48 {h : zH} {Q : Option Value → zH → Prop} {m y : Int32} {f : Nat → Int} {c : Nat} (hp : pl m f) (e : y.toInt = (c : Int)) (hc : c < 15) (f0 : 0 ≤ f c) (f3 : f c ≤ 3) (H : ∀ v : Int32, v.toInt = f c → Q (some (.int v)) h) : zqm 48 [.int m, .int y] h Q := by
  refine s_48 m y (H _ ?_)
  rw [bt_at e (by omega), bt_at (oI15 e hc) (by omega), srt4, (hp c hc).1, (hp c hc).2]
  have : f c = 0 ∨ f c = 1 ∨ f c = 2 ∨ f c = 3 := by omega
  rcases this with z | z | z | z <;> rw [z] <;> decide
theorem q_49 {h : zH} {Q : Option Value → zH → Prop} (m y s : Int32) (c : Nat) (e : y.toInt = (c : Int)) (hc : c < 15) (H : ∀ v : Int32, (∀ i, i < 32 → bt v i = if i = c then bt s 0 else if i = 15 + c then bt s 1 else bt m i) → Q (some (.int v)) h) : zqm 49 [.int m, .int y, .int s] h Q := by
  refine s_49 m y s (H _ (fun i hi => ?_))
  have e15 := oI15 e hc
  rw [b_or, b_or, b_and, bt_not hi, b_or, bt_1shl e (by omega) hi, bt_1shl e15 (by omega) hi, bt_shl e (by omega) hi, bt_shl e15 (by omega) hi, b_and, b_and, bt_shr kc_1 (k := 1) (by omega) (by omega), bt_1 (i := i - c) (by omega), bt_1 (i := i - (15 + c)) (by omega)]
  by_cases h1 : i = c
  · subst h1
    rw [if_pos rfl, decide_eq_true rfl, decide_eq_true (Nat.le_refl i), Nat.sub_self, decide_eq_false (show ¬ 15 + i ≤ i by omega), decide_eq_false (show ¬ i = 15 + i by omega), decide_eq_true (rfl : (0 : Nat) = 0)]
    simp
  · rw [if_neg h1]
    by_cases h2 : i = 15 + c
    · subst h2
      rw [if_pos rfl, decide_eq_true (rfl : 15 + c = 15 + c), Nat.sub_self, decide_eq_true (Nat.le_refl (15 + c)), decide_eq_true (rfl : (0 : Nat) = 0), decide_eq_false (show ¬ 15 + c - c = 0 by omega), if_pos (show 1 + 0 < 32 by omega)]
      simp
    · rw [if_neg h2, decide_eq_false h1, decide_eq_false h2]
      have a1 : (decide (c ≤ i) && (bt s (i - c) && decide (i - c = 0))) = false := by
        by_cases z : c ≤ i
        · rw [decide_eq_false (show ¬ i - c = 0 by omega)]; simp
        · rw [decide_eq_false z]; rfl
      have a2 : ∀ b : Bool, (decide (15 + c ≤ i) && (b && decide (i - (15 + c) = 0))) = false := fun b => by
        by_cases z : 15 + c ≤ i
        · rw [decide_eq_false (show ¬ i - (15 + c) = 0 by omega)]; simp
        · rw [decide_eq_false z]; rfl
      rw [a1, a2]
      simp
theorem bt_srt {s : Int32} (h0 : 0 ≤ s.toInt) (h3 : s.toInt ≤ 3) : bt s 0 = decide (s.toInt % 2 = 1) ∧ bt s 1 = decide (s.toInt / 2 % 2 = 1) := by
  have e : s = nI s.toInt.toNat := x_nI (by omega) (by omega)
  have : s.toInt.toNat = 0 ∨ s.toInt.toNat = 1 ∨ s.toInt.toNat = 2 ∨ s.toInt.toNat = 3 := by omega
  rcases this with z | z | z | z <;> (rw [z] at e; subst e; decide)
/-- a cell drawn anew -/
theorem pl_upd {m v s : Int32} {f : Nat → Int} {c : Nat} (hp : pl m f) (hc : c < 15) (h0 : 0 ≤ s.toInt) (h3 : s.toInt ≤ 3) (hb : ∀ i, i < 32 → bt v i = if i = c then bt s 0 else if i = 15 + c then bt s 1 else bt m i) : pl v (fun d => if d = c then s.toInt else f d) := by
  intro d hd
  have hs := bt_srt h0 h3
  rw [hb d (by omega), hb (15 + d) (by omega)]
  by_cases h : d = c
  · rw [if_pos h, if_neg (show ¬ 15 + d = c by omega), if_pos (by omega), show (fun d => if d = c then s.toInt else f d) d = s.toInt from if_pos h]
    exact hs
  · rw [if_neg h, if_neg (show ¬ d = 15 + c by omega), if_neg (show ¬ 15 + d = c by omega), if_neg (by omega), show (fun d => if d = c then s.toInt else f d) d = f d from if_neg h]
    exact hp d hd

/-! how many bits a set has (its first rows out of kit/laws/BITS.to-paste) -/
theorem nx_and (a b : Nat) : nI a &&& nI b = nI (a &&& b) := by
  apply Int32.toBitVec_inj.1
  show BitVec.ofNat 32 a &&& BitVec.ofNat 32 b = BitVec.ofNat 32 (a &&& b)
  apply BitVec.eq_of_getLsbD_eq
  intro i hi
  simp [hi]
theorem nx_cnt : ∀ j : Fin 32, (UInt32.ofNat j.val &&& Int32.toUInt32 31).toNat % 32 = j.val := by decide +kernel
theorem nx_ush {k j : Nat} (hk : k < 65536) (hj : j < 32) : ((nI k).toUInt32 >>> ((nI j).toUInt32 &&& Int32.toUInt32 31)).toInt32 = nI (k >>> j) := by
  have hs : k >>> j ≤ k := by
    rw [Nat.shiftRight_eq_div_pow]
    exact Nat.div_le_self _ _
  have e2 : UInt32.ofNat k >>> (UInt32.ofNat j &&& Int32.toUInt32 31) = UInt32.ofNat (k >>> j) := by
    apply UInt32.toNat_inj.1
    have h1 : (UInt32.ofNat k).toNat = k := Nat.mod_eq_of_lt (by omega)
    have h2 : (UInt32.ofNat (k >>> j)).toNat = k >>> j := Nat.mod_eq_of_lt (by omega)
    rw [UInt32.toNat_shiftRight, nx_cnt ⟨j, hj⟩, h1, h2]
  show (UInt32.ofNat k >>> (UInt32.ofNat j &&& Int32.toUInt32 31)).toInt32 = _
  rw [e2]
  rfl
def bcA (m : Nat) : Nat := Nat.sub m (Nat.land (Nat.shiftRight m 1) 1431655765)
def bcB (a : Nat) : Nat := Nat.add (Nat.land a 858993459) (Nat.land (Nat.shiftRight a 2) 858993459)
def bcC (b : Nat) : Nat := Nat.land (Nat.add b (Nat.shiftRight b 4)) 252645135
def bcD (c : Nat) : Nat := Nat.add c (Nat.shiftRight c 8)
def bcE (d : Nat) : Nat := Nat.add d (Nat.shiftRight d 16)
def bcN (m : Nat) : Nat := Nat.land (bcE (bcD (bcC (bcB (bcA m))))) 63
def bcOk (m : Nat) : Bool := Nat.blt (bcB (bcA m)) 65536 && Nat.blt (bcC (bcB (bcA m))) 65536 && Nat.blt (bcD (bcC (bcB (bcA m)))) 65536 && Nat.blt (bcE (bcD (bcC (bcB (bcA m))))) 65536 && Nat.beq (bcN m) (Nat.add (bcN (Nat.div m 2)) (Nat.mod m 2)) && (Nat.beq m 0 || Nat.beq (Nat.add (bcN (Nat.land m (Nat.sub m 1))) 1) (bcN m)) && Nat.ble (Nat.land (Nat.shiftRight m 1) 1431655765) m
set_option maxRecDepth 100000 in
theorem bcAll : ((List.range 181).all fun i => (List.range 182).all fun j => bcOk (Nat.add (Nat.mul 182 i) j)) = true := by decide +kernel
theorem bcOk_t {m : Nat} (h : m < 32768) : bcOk m = true := by
  have h1 := List.all_eq_true.mp bcAll (m / 182) (List.mem_range.mpr (by omega))
  have h2 := List.all_eq_true.mp h1 (m % 182) (List.mem_range.mpr (by omega))
  have e : Nat.add (Nat.mul 182 (m / 182)) (m % 182) = m := Nat.div_add_mod m 182
  rw [e] at h2
  exact h2
theorem bc_facts {m : Nat} (h : m < 32768) : bcB (bcA m) < 65536 ∧ bcC (bcB (bcA m)) < 65536 ∧ bcD (bcC (bcB (bcA m))) < 65536 ∧ bcE (bcD (bcC (bcB (bcA m)))) < 65536 ∧ bcN m = bcN (m / 2) + m % 2 ∧ (m = 0 ∨ bcN (m &&& (m - 1)) + 1 = bcN m) ∧ (m >>> 1 &&& 1431655765) ≤ m := by
  have hk := bcOk_t h
  unfold bcOk at hk
  simp only [Bool.and_eq_true, Bool.or_eq_true] at hk
  obtain ⟨⟨⟨⟨⟨⟨k1, k2⟩, k3⟩, k4⟩, k5⟩, k6⟩, k7⟩ := hk
  refine ⟨bltT k1, bltT k2, bltT k3, bltT k4, Nat.eq_of_beq_eq_true k5, ?_, Nat.le_of_ble_eq_true k7⟩
  rcases k6 with k6 | k6
  · exact Or.inl (Nat.eq_of_beq_eq_true k6)
  · exact Or.inr (Nat.eq_of_beq_eq_true k6)
theorem cnt_sh (p : Nat → Bool) : ∀ k, cnt p (k + 1) = (if p 0 then 1 else 0) + cnt (fun i => p (i + 1)) k
  | 0 => by show 0 + _ = _ + 0; rw [Nat.zero_add, Nat.add_zero]
  | k + 1 => by
    show cnt p (k + 1) + (if p (k + 1) then 1 else 0) = _ + (cnt (fun i => p (i + 1)) k + (if p (k + 1) then 1 else 0))
    rw [cnt_sh p k]
    omega
theorem bc_pop : ∀ (k m : Nat), k ≤ 15 → m < 2 ^ k → bcN m = cnt (fun i => m.testBit i) k
  | 0, m, _, h => by
    have : m = 0 := by omega
    subst this
    rfl
  | k + 1, m, hk, h => by
    have h15 : m < 32768 := Nat.lt_of_lt_of_le h (by
      have := Nat.pow_le_pow_right (show 0 < 2 by decide) hk
      exact this)
    rw [(bc_facts h15).2.2.2.2.1, cnt_sh, bc_pop k (m / 2) (by omega) (by rw [Nat.pow_succ] at h; omega)]
    have e : (fun i => m.testBit (i + 1)) = fun i => (m / 2).testBit i := by
      funext i
      exact Nat.testBit_succ m i
    rw [e, Nat.testBit_zero]
    by_cases z : m % 2 = 1
    · rw [decide_eq_true z, if_pos rfl]; omega
    · rw [decide_eq_false z, if_neg (by decide)]; omega
theorem cnt_congr {p q : Nat → Bool} : ∀ {n : Nat}, (∀ i, i < n → p i = q i) → cnt p n = cnt q n
  | 0, _ => rfl
  | n + 1, h => by
    show cnt p n + (if p n then 1 else 0) = cnt q n + (if q n then 1 else 0)
    rw [cnt_congr (fun i hi => h i (by omega)), h n (by omega)]
/-- a set of cells, as a number -/
theorem set_n {x : Int32} {p : Nat → Bool} (e : x = mkm p 15) : ∃ m, m < 32768 ∧ x = nI m ∧ bcN m = cnt p 15 := by
  have hx : x = nI x.toBitVec.toNat := by
    apply Int32.toBitVec_inj.1
    show x.toBitVec = BitVec.ofNat 32 x.toBitVec.toNat
    simp
  have hb : ∀ i, i < 32 → x.toBitVec.toNat.testBit i = (decide (i < 15) && p i) := fun i hi => by
    rw [← mkm_bt p 15 (by omega) i hi, ← e]
    rfl
  have hm : x.toBitVec.toNat < 2 ^ 15 := by
    apply Nat.lt_pow_two_of_testBit
    intro i hi
    by_cases z : i < 32
    · rw [hb i z, decide_eq_false (by omega), Bool.false_and]
    · exact Nat.testBit_lt_two_pow (Nat.lt_of_lt_of_le x.toBitVec.isLt (Nat.pow_le_pow_right (by decide) (by omega)))
  refine ⟨x.toBitVec.toNat, hm, hx, ?_⟩
  rw [bc_pop 15 _ (Nat.le_refl _) hm]
  exact cnt_congr (fun i hi => by rw [hb i (by omega), decide_eq_true hi, Bool.true_and])
theorem ush {k j : Nat} {w : Int32} (ew : w = nI j) (hk : k < 65536) (hj : j < 32) : (((nI k).toUInt32 >>> (w.toUInt32 &&& Int32.toUInt32 31)).toInt32) = nI (k >>> j) := by
  subst ew
  exact nx_ush hk hj
theorem nI_sb {a b : Nat} (h : b ≤ a) (ha : a < 2147483648) : nI a - nI b = nI (a - b) := by
  apply Int32.toInt_inj.mp
  rw [wk_sub (nI_toInt ha) (nI_toInt (show b < 2147483648 by omega)) (by omega) (by omega), nI_toInt (by omega)]
  omega
theorem q_217 {h : zH} {Q : Option Value → zH → Prop} (a0 : Int32) (p : Nat → Bool) (e : a0 = mkm p 15) (H : ∀ v : Int32, v.toInt = ((cnt p 15 : Nat) : Int) → Q (some (.int v)) h) : zqm 217 [.int a0] h Q := by
  obtain ⟨m, hm, ex, ec⟩ := set_n e
  obtain ⟨f1, f2, f3, f4, f5, f6, f7⟩ := bc_facts hm
  have i1 : Int32.ofInt 1 = nI 1 := by decide
  have i2 : Int32.ofInt 2 = nI 2 := by decide
  have i4 : Int32.ofInt 4 = nI 4 := by decide
  have i8 : Int32.ofInt 8 = nI 8 := by decide
  have i16 : Int32.ofInt 16 = nI 16 := by decide
  have k5 : (1431655765 : Int32) = nI 1431655765 := by decide
  have k3 : (858993459 : Int32) = nI 858993459 := by decide
  have kf : (252645135 : Int32) = nI 252645135 := by decide
  have k63 : Int32.ofInt 63 = nI 63 := by decide
  have a65 : bcA m < 65536 := Nat.lt_of_le_of_lt (Nat.sub_le _ _) (by omega)
  have hA : nI m - (((nI m).toUInt32 >>> ((Int32.ofInt 1).toUInt32 &&& Int32.toUInt32 31)).toInt32 &&& (1431655765 : Int32)) = nI (bcA m) := by
    rw [ush i1 (by omega) (by decide), k5, nx_and, nI_sb f7 (by omega)]
    rfl
  have hB : (nI (bcA m) &&& (858993459 : Int32)) + (((nI (bcA m)).toUInt32 >>> ((Int32.ofInt 2).toUInt32 &&& Int32.toUInt32 31)).toInt32 &&& (858993459 : Int32)) = nI (bcB (bcA m)) := by
    rw [ush i2 a65 (by decide), k3, nx_and, nx_and, nI_add]
    rfl
  have hC : (nI (bcB (bcA m)) + ((nI (bcB (bcA m))).toUInt32 >>> ((Int32.ofInt 4).toUInt32 &&& Int32.toUInt32 31)).toInt32) &&& (252645135 : Int32) = nI (bcC (bcB (bcA m))) := by
    rw [ush i4 f1 (by decide), nI_add, kf, nx_and]
    rfl
  have hD : nI (bcC (bcB (bcA m))) + ((nI (bcC (bcB (bcA m)))).toUInt32 >>> ((Int32.ofInt 8).toUInt32 &&& Int32.toUInt32 31)).toInt32 = nI (bcD (bcC (bcB (bcA m)))) := by
    rw [ush i8 f2 (by decide), nI_add]
    rfl
  have hE : nI (bcD (bcC (bcB (bcA m)))) + ((nI (bcD (bcC (bcB (bcA m))))).toUInt32 >>> ((Int32.ofInt 16).toUInt32 &&& Int32.toUInt32 31)).toInt32 = nI (bcE (bcD (bcC (bcB (bcA m))))) := by
    rw [ush i16 f3 (by decide), nI_add]
    rfl
  have c15 := cnt_le p 15
  refine s_217 a0 (H _ ?_)
  rw [ex, hA, hB, hC, hD, hE, k63, nx_and]
  show (nI (bcN m)).toInt = _
  rw [ec, nI_toInt (by omega)]
theorem l_123 {h : zH} {Q : Option Value → zH → Prop} (x0 : Int32) (N : Nat) (hN : N ≤ 32768) (H : ∀ v : Int32, v.toInt = (N : Int) → Q (some (.int v)) h) : ∀ (n m : Nat) (x1 x2 : Int32), m < 32768 → x2 = nI m → x1.toInt + ((bcN m : Nat) : Int) = (N : Int) → 0 ≤ x1.toInt → zQ n 123 4 [some (.int x0), some (.int x1), some (.int x2)] [] h Q
  | 0, _, _, _, _, _, _, _ => zQ_zero
  | n + 1, m, x1, x2, hm, e2, e1, h0 => by
    obtain ⟨f1, f2, f3, f4, f5, f6, f7⟩ := bc_facts hm
    have t2 : x2.toInt = (m : Int) := by rw [e2, nI_toInt (by omega)]
    refine s_123_4 x0 x1 x2 ⟨fun c => ?_, fun c => ?_⟩
    · have m0 : m = 0 := by omega
      subst m0
      exact H x1 (by rw [← e1]; show _ = x1.toInt + ((0 : Nat) : Int); omega)
    · have m1 : ¬ m = 0 := by omega
      have f6 := f6.resolve_left m1
      have e1' := ai (x := x1) (k := 1) (by omega) (by omega) (by omega) (by omega)
      have ea : x2 &&& (x2 - Int32.ofInt 1) = nI (m &&& (m - 1)) := by
        rw [e2, show Int32.ofInt 1 = nI 1 by decide, nI_sb (by omega) (by omega), nx_and]
      have hlt : m &&& (m - 1) < 32768 := Nat.lt_of_le_of_lt Nat.and_le_left hm
      exact l_123 x0 N hN H n (m &&& (m - 1)) _ _ hlt ea (by omega) (by omega)
theorem q_123 {h : zH} {Q : Option Value → zH → Prop} (a0 : Int32) (p : Nat → Bool) (e : a0 = mkm p 15) (H : ∀ v : Int32, v.toInt = ((cnt p 15 : Nat) : Int) → Q (some (.int v)) h) : zqm 123 [.int a0] h Q := by
  obtain ⟨m, hm, ex, ec⟩ := set_n e
  have c15 := cnt_le p 15
  refine s_123 a0 (fun n => ?_)
  exact l_123 a0 (cnt p 15) (by omega) H n m _ a0 hm ex (by rw [kc_0, ec]; omega) (by decide)

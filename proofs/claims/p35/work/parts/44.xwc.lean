/-! the fewest men who feel each seam -/
theorem bt_nI {k i : Nat} (hi : i < 32) : bt (nI k) i = k.testBit i := by
  show (BitVec.ofNat 32 k).getLsbD i = _
  rw [BitVec.getLsbD_ofNat, decide_eq_true hi, Bool.true_and]
theorem tb_hi {k i : Nat} (hk : k < 32768) (hi : 15 ≤ i) : k.testBit i = false := Nat.testBit_lt_two_pow (Nat.lt_of_lt_of_le hk (show 2 ^ 15 ≤ 2 ^ i from Nat.pow_le_pow_right (by decide) hi))
theorem nb_mk {k : Nat} (hk : k < 32768) : nI k = mkm (fun i => k.testBit i) 15 := mkm_eq (by omega) (fun i hi => by
  rw [bt_nI hi]
  by_cases z : i < 15
  · rw [decide_eq_true z, Bool.true_and]
  · rw [decide_eq_false z, Bool.false_and, tb_hi hk (by omega)])
theorem mkm_or (p q : Nat → Bool) : mkm p 15 ||| mkm q 15 = mkm (fun c => p c || q c) 15 := mkm_eq (by omega) (fun i hi => by
  show _ = (decide (i < 15) && (p i || q i))
  rw [b_or, mkm_bt p 15 (by omega) i hi, mkm_bt q 15 (by omega) i hi]
  cases decide (i < 15) <;> rfl)
theorem or_0 (p : Nat → Bool) : mkm p 15 ||| Int32.ofInt 0 = mkm p 15 := b_ext (fun i hi => by rw [b_or, bt_0, Bool.or_false])
def fb (F : Nat → Nat → Bool) (k : Nat) : Nat → Nat → Bool
  | 0, _ => false
  | s + 1, c => fb F k s c || (k.testBit s && F s c)
theorem fb_1 {F : Nat → Nat → Bool} {k s : Nat} (t : k.testBit s = true) : mkm (fb F k s) 15 ||| mkm (F s) 15 = mkm (fb F k (s + 1)) 15 := by
  rw [mkm_or]
  refine mkm_congr (by omega) (fun c hc => ?_)
  show (fb F k s c || F s c) = (fb F k s c || (k.testBit s && F s c))
  rw [t, Bool.true_and]
theorem fb_0 {F : Nat → Nat → Bool} {k s : Nat} (t : ¬ k.testBit s = true) : mkm (fb F k s) 15 ||| Int32.ofInt 0 = mkm (fb F k (s + 1)) 15 := by
  rw [or_0]
  refine mkm_congr (by omega) (fun c hc => ?_)
  show fb F k s c = (fb F k s c || (k.testBit s && F s c))
  rw [show k.testBit s = false by simpa using t, Bool.false_and, Bool.or_false]
theorem fb_z {F : Nat → Nat → Bool} {k : Nat} : Int32.ofInt 0 = mkm (fb F k 0) 15 := mkm_eq (by omega) (fun i hi => by
  rw [bt_0]
  show false = (decide (i < 15) && false)
  rw [Bool.and_false])
def cb2 (k : Nat) : Nat := cnt (fun i => k.testBit i) 15
def bst (ok : Nat → Bool) : Nat → Int
  | 0 => -1000000
  | k + 1 => if (bst ok k = -1000000 ∨ cb2 k < cb2 (bst ok k).toNat) ∧ ok k = true then (k : Int) else bst ok k
theorem bst_r (ok : Nat → Bool) : ∀ k : Nat, bst ok k = -1000000 ∨ (0 ≤ bst ok k ∧ bst ok k < (k : Int))
  | 0 => Or.inl rfl
  | k + 1 => by
    have ih := bst_r ok k
    have e : bst ok (k + 1) = if (bst ok k = -1000000 ∨ cb2 k < cb2 (bst ok k).toNat) ∧ ok k = true then (k : Int) else bst ok k := rfl
    rw [e]
    split <;> omega
theorem bst_y {ok : Nat → Bool} {k : Nat} (h : (bst ok k = -1000000 ∨ cb2 k < cb2 (bst ok k).toNat) ∧ ok k = true) : bst ok (k + 1) = (k : Int) := if_pos h
theorem bst_n {ok : Nat → Bool} {k : Nat} (h : ¬ ((bst ok k = -1000000 ∨ cb2 k < cb2 (bst ok k).toNat) ∧ ok k = true)) : bst ok (k + 1) = bst ok k := if_neg h
def okM (G : Nat → Int) (K k : Nat) : Bool := decide ((mkm (fun c => !fb (fun s => flB (gyD G) (gyE G s)) k K c && smB (gyD G) c) 15).toInt = 0)
theorem sh1 {y : Int32} {K : Nat} (e : y.toInt = (K : Int)) (K4 : K ≤ 4) : (Int32.ofInt 1 <<< (y &&& 31)).toInt = ((2 ^ K : Nat) : Int) := by
  rw [x_nI e (by omega)]
  have : K = 0 ∨ K = 1 ∨ K = 2 ∨ K = 3 ∨ K = 4 := by omega
  rcases this with z | z | z | z | z <;> subst z <;> decide
theorem pw16 {K : Nat} (K4 : K ≤ 4) : 2 ^ K ≤ 16 := Nat.pow_le_pow_right (show 0 < 2 by decide) K4
theorem q_217k {h : zH} {Q : Option Value → zH → Prop} (a0 : Int32) (k : Nat) (e : a0.toInt = (k : Int)) (hk : k < 32768) (H : ∀ v : Int32, v.toInt = ((cb2 k : Nat) : Int) → Q (some (.int v)) h) : zqm 217 [.int a0] h Q := q_217 a0 (fun i => k.testBit i) (by rw [x_nI e (by omega), nb_mk hk]) H
theorem q_123k {h : zH} {Q : Option Value → zH → Prop} (a0 : Int32) (k : Nat) (e : a0.toInt = (k : Int)) (hk : k < 32768) (H : ∀ v : Int32, v.toInt = ((cb2 k : Nat) : Int) → Q (some (.int v)) h) : zqm 123 [.int a0] h Q := q_123 a0 (fun i => k.testBit i) (by rw [x_nI e (by omega), nb_mk hk]) H
theorem l_30 {h : zH} {Q : Option Value → zH → Prop} (x1 : Int32) (k K : Nat) (F : Nat → Nat → Bool) (e1 : x1.toInt = (k : Int)) (hk : k < 32768) (hK : (h.1 15 6).toInt = (K : Int)) (K4 : K ≤ 4) (cF : ∀ s : Nat, s < K → h.1 20 s = mkm (F s) 15) (H : Q (some (.int (mkm (fb F k K) 15))) h) : ∀ (n s : Nat) (x2 x3 : Int32), x3.toInt = (s : Int) → s ≤ K → x2 = mkm (fb F k s) 15 → zQ n 30 4 [some (.ref 15), some (.int x1), some (.int x2), some (.int x3)] [] h Q
  | 0, _, _, _, _, _, _ => zQ_zero
  | n + 1, s, x2, x3, e3, hs, e2 => by
    refine s_30_4 x1 x2 x3 ⟨fun d => ?_, fun d => ⟨fun d2 => by exfalso; omega, fun _ => ?_⟩⟩
    · have : s = K := by omega
      subst this
      rw [e2]
      exact H
    · have e3' := ai (x := x3) (k := 1) (by omega) (by omega) (by omega) (by omega)
      have eb : ((x1 >>> (x3 &&& 31)) &&& Int32.ofInt 1).toInt = if k.testBit s then 1 else 0 := by
        rw [bt_has e3 (by omega), x_nI e1 (by omega), bt_nI (by omega)]
      rw [eb]
      refine ⟨fun z => ?_, fun z _ _ => ?_⟩
      · refine l_30 x1 k K F e1 hk hK K4 cF H n (s + 1) _ _ (by omega) (by omega) ?_
        rw [e2]
        exact fb_0 (fun t => z (by rw [if_pos t]))
      · refine l_30 x1 k K F e1 hk hK K4 cF H n (s + 1) _ _ (by omega) (by omega) ?_
        rw [e2, show x3.toInt.toNat = s by omega, cF s (by omega)]
        refine fb_1 ?_
        apply Decidable.byContradiction
        intro t
        exact z (by rw [if_neg t]; decide)
theorem l_29 {h : zH} {Q : Option Value → zH → Prop} {G : Nat → Int} (C : CT1 h 15 G) (K : Nat) (hK : G 57 = (K : Int)) (H : ∀ v : Int32, v.toInt = bst (okM G K) (2 ^ K) → Q (some (.int v)) h) : ∀ (n k : Nat) (x1 x2 : Int32) (o3 : Option Value), x2.toInt = (k : Int) → k ≤ 2 ^ K → x1.toInt = bst (okM G K) k → zQ n 29 5 [some (.ref 15), some (.int x1), some (.int x2), o3] [] h Q
  | 0, _, _, _, _, _, _, _ => zQ_zero
  | n + 1, k, x1, x2, o3, e2, hk, e1 => by
    have c9 : (h.1 15 6).toInt = G 57 := C.2.2.2.2.2.2.2.2.1
    have c10 : h.1 15 7 = mkm (smB (gyD G)) 15 := C.2.2.2.2.2.2.2.2.2.1
    have c13 := C.2.2.2.2.2.2.2.2.2.2.2.2
    have w2 := C.2.1.2.1
    have p16 := pw16 (K := K) (by omega)
    have br := bst_r (okM G K) k
    have sh := sh1 (y := h.1 15 6) (K := K) (by omega) (by omega)
    refine s_29_5 x1 x2 o3 ?_
    rw [sh]
    have q30 : ∀ {P : Option Value → zH → Prop}, P (some (.int (mkm (fb (fun s => flB (gyD G) (gyE G s)) k K) 15))) h → zqm 30 [.ref 15, .int x2] h P := fun hp => s_30 x2 (fun n2 => l_30 x2 k K (fun s => flB (gyD G) (gyE G s)) e2 (by omega) (by omega) (by omega) (fun s hs => (c13 s (by omega)).2.2.2.1) hp n2 0 _ _ kc_0 (by omega) fb_z)
    have e2' : ¬ ((2 ^ K : Nat) : Int) ≤ x2.toInt → (x2 + Int32.ofInt 1).toInt = ((k + 1 : Nat) : Int) := fun _ => by
      rw [ai (by omega) (by omega) (by omega) (by omega)]
      omega
    have okd : ∀ m : Int32, m = mkm (fb (fun s => flB (gyD G) (gyE G s)) k K) 15 → ((h.1 15 7 &&& (m ^^^ Int32.ofInt (-1))).toInt = 0 ↔ okM G K k = true) := fun m em => by
      rw [em, c10, mkm_andn]
      unfold okM
      rw [decide_eq_true_eq]
    refine ⟨fun d => ?_, fun d => ⟨fun z => ⟨fun t => absurd t (by decide), fun _ => ?_⟩, fun z => ?_⟩⟩
    · have : k = 2 ^ K := by omega
      subst this
      exact H x1 e1
    · refine q30 (zri_int ⟨fun y => ?_, fun y => ?_⟩)
      · refine l_29 C K hK H n (k + 1) _ _ _ (e2' d) (by omega) ?_
        rw [e1, bst_n (fun t => y ((okd _ rfl).mpr t.2))]
      · refine l_29 C K hK H n (k + 1) _ _ _ (e2' d) (by omega) ?_
        rw [e2, bst_y ⟨Or.inl (by omega), (okd _ rfl).mp (Decidable.not_not.mp y)⟩]
    · refine q_217k x2 k e2 (by omega) (fun v6 e6 => ?_)
      refine zri_int ?_
      refine q_217k x1 (bst (okM G K) k).toNat (by omega) (by omega) (fun v7 e7 => ?_)
      refine zri_int ?_
      refine ⟨fun y => ⟨fun _ => ?_, fun t => absurd rfl t⟩, fun y => ⟨fun t => absurd t (by decide), fun _ => ?_⟩⟩
      · refine l_29 C K hK H n (k + 1) _ _ _ (e2' d) (by omega) ?_
        rw [e1, bst_n (fun t => ?_)]
        rcases t.1 with t | t <;> omega
      · refine q30 (zri_int ⟨fun u => ?_, fun u => ?_⟩)
        · refine l_29 C K hK H n (k + 1) _ _ _ (e2' d) (by omega) ?_
          rw [e1, bst_n (fun t => u ((okd _ rfl).mpr t.2))]
        · refine l_29 C K hK H n (k + 1) _ _ _ (e2' d) (by omega) ?_
          rw [e2, bst_y ⟨Or.inr (by omega), (okd _ rfl).mp (Decidable.not_not.mp u)⟩]
theorem l_191_46 {h : zH} {Q : Option Value → zH → Prop} (x1 x2 x3 : Int32) (k K : Nat) (w : wfG (nowG h)) (cS : h.1 58 13 = mkm (smB (gyD (nowG h))) 15) (cF : ∀ s : Nat, (s : Int) < nowG h 57 → h.1 66 s = mkm (flB (gyD (nowG h)) (gyE (nowG h) s)) 15) (e3 : x3.toInt = (k : Int)) (hk : k < 2 ^ K) (hK : nowG h 57 = (K : Int)) (e2 : x2.toInt = bst (okM (nowG h) K) k) (H : ∀ (n : Nat) (x2' : Int32) (o4 o5 : Option Value), x2'.toInt = bst (okM (nowG h) K) (k + 1) → zQ n 191 27 [some (.ref 58), some (.int x1), some (.int x2'), some (.int (x3 + Int32.ofInt 1)), o4, o5] [] h Q) : ∀ (n s : Nat) (x4 x5 : Int32), x5.toInt = (s : Int) → s ≤ K → x4 = mkm (fb (fun s => flB (gyD (nowG h)) (gyE (nowG h) s)) k s) 15 → zQ n 191 46 [some (.ref 58), some (.int x1), some (.int x2), some (.int x3), some (.int x4), some (.int x5)] [] h Q
  | 0, _, _, _, _, _, _ => zQ_zero
  | n + 1, s, x4, x5, e5, hs, e4 => by
    have w2 := w.2.1
    have p16 := pw16 (K := K) (by omega)
    have br := bst_r (okM (nowG h) K) k
    have e57 : (h.1 64 57).toInt = nowG h 57 := rfl
    refine s_191_46 x1 x2 x3 x4 x5 ⟨fun d => ?_, fun d => ?_⟩
    · have : s = K := by omega
      subst this
      have okd : (h.1 58 13 &&& (x4 ^^^ Int32.ofInt (-1))).toInt = 0 ↔ okM (nowG h) s k = true := by
        rw [e4, cS, mkm_andn]
        unfold okM
        rw [decide_eq_true_eq]
      refine ⟨fun z => ⟨fun t => absurd t (by decide), fun _ => ?_⟩, fun z => ?_⟩
      · refine s_157 (zri_int ⟨fun y => ?_, fun y => ?_⟩)
        · refine H n _ _ _ ?_
          rw [e2, bst_n (fun t => y (okd.mpr t.2))]
        · refine H n _ _ _ ?_
          rw [e3, bst_y ⟨Or.inl (by omega), okd.mp (Decidable.not_not.mp y)⟩]
      · refine q_123k x3 k e3 (by omega) (fun v6 e6 => ?_)
        refine zri_int ?_
        refine q_123k x2 (bst (okM (nowG h) s) k).toNat (by omega) (by omega) (fun v7 e7 => ?_)
        refine zri_int ?_
        refine ⟨fun y => ⟨fun _ => ?_, fun t => absurd rfl t⟩, fun y => ⟨fun t => absurd t (by decide), fun _ => ?_⟩⟩
        · refine H n _ _ _ ?_
          rw [e2, bst_n (fun t => ?_)]
          rcases t.1 with t | t <;> omega
        · refine s_157 (zri_int ⟨fun u => ?_, fun u => ?_⟩)
          · refine H n _ _ _ ?_
            rw [e2, bst_n (fun t => u (okd.mpr t.2))]
          · refine H n _ _ _ ?_
            rw [e3, bst_y ⟨Or.inr (by omega), okd.mp (Decidable.not_not.mp u)⟩]
    · have e5' := ai (x := x5) (k := 1) (by omega) (by omega) (by omega) (by omega)
      refine q_122 x3 x5 s e5 (by omega) ?_
      refine zri_int ?_
      have tb : bt x3 s = k.testBit s := by rw [x_nI e3 (by omega), bt_nI (by omega)]
      refine ⟨fun z => ?_, fun z => ?_⟩
      · refine l_191_46 x1 x2 x3 k K w cS cF e3 hk hK e2 H n (s + 1) _ _ (by omega) (by omega) ?_
        rw [e4]
        exact fb_0 (by rw [← tb]; exact zb0.mp z)
      · refine s_162 x5 (fun _ _ => ?_)
        refine zri_int ?_
        refine l_191_46 x1 x2 x3 k K w cS cF e3 hk hK e2 H n (s + 1) _ _ (by omega) (by omega) ?_
        rw [e4, show x5.toInt.toNat = s by omega, cF s (by omega)]
        exact fb_1 (by rw [← tb]; exact zb1.mp z)
theorem l_191_27 {h : zH} {Q : Option Value → zH → Prop} (x1 : Int32) (K : Nat) (w : wfG (nowG h)) (cS : h.1 58 13 = mkm (smB (gyD (nowG h))) 15) (cF : ∀ s : Nat, (s : Int) < nowG h 57 → h.1 66 s = mkm (flB (gyD (nowG h)) (gyE (nowG h) s)) 15) (hK : nowG h 57 = (K : Int)) (H0 : bst (okM (nowG h) K) (2 ^ K) = -1000000 → Q (some (.int (-1000000 : Int32))) h) (H1 : ¬ bst (okM (nowG h) K) (2 ^ K) = -1000000 → ¬ x1.toInt = 0 → ∀ v : Int32, v.toInt = bst (okM (nowG h) K) (2 ^ K) → Q (some (.int v)) h) (H2 : ¬ bst (okM (nowG h) K) (2 ^ K) = -1000000 → x1.toInt = 0 → ∀ v : Int32, v.toInt = ((cb2 (bst (okM (nowG h) K) (2 ^ K)).toNat : Nat) : Int) → Q (some (.int v)) h) : ∀ (m n k : Nat) (x2 x3 : Int32) (o4 o5 : Option Value), x3.toInt = (k : Int) → k + m = 2 ^ K → x2.toInt = bst (okM (nowG h) K) k → zQ n 191 27 [some (.ref 58), some (.int x1), some (.int x2), some (.int x3), o4, o5] [] h Q := by
  have w2 := w.2.1
  have p16 := pw16 (K := K) (by omega)
  have e57 : (h.1 64 57).toInt = nowG h 57 := rfl
  have sh := sh1 (y := h.1 64 57) (K := K) (by omega) (by omega)
  intro m
  induction m with
  | zero =>
    intro n k x2 x3 o4 o5 e3 hm e2
    have : k = 2 ^ K := by omega
    subst this
    have br := bst_r (okM (nowG h) K) (2 ^ K)
    cases n with
    | zero => exact zQ_zero
    | succ n =>
      refine s_191_27 x1 x2 x3 o4 o5 ?_
      rw [sh]
      refine ⟨fun _ => ⟨fun z => ⟨fun y => H1 (by omega) y x2 e2, fun y => ?_⟩, fun z => H0 (by omega)⟩, fun d => absurd (by omega) d⟩
      refine q_123k x2 (bst (okM (nowG h) K) (2 ^ K)).toNat (by omega) (by omega) (fun v ev => ?_)
      exact zri_int (H2 (by omega) (Decidable.not_not.mp y) v ev)
  | succ m ih =>
    intro n k x2 x3 o4 o5 e3 hm e2
    cases n with
    | zero => exact zQ_zero
    | succ n =>
      refine s_191_27 x1 x2 x3 o4 o5 ?_
      rw [sh]
      refine ⟨fun d => by exfalso; omega, fun _ => ?_⟩
      refine l_191_46 x1 x2 x3 k K w cS cF e3 (by omega) hK e2 (fun n' x2' o4' o5' ex => ?_) n 0 _ _ kc_0 (by omega) fb_z
      refine ih n' (k + 1) _ _ _ _ ?_ (by omega) ex
      rw [ai (by omega) (by omega) (by omega) (by omega)]
      omega
theorem pr_men : pr2 100 191 1 JC := by
  intro as hl hv h ht hJ
  match as, hl, hv with
  | [v1], hl, hv =>
    obtain ⟨a, rfl⟩ := hv v1 (by simp)
    by_cases hs : nowG h 61 = 1
    · obtain ⟨C, cS, cF⟩ := JC_1 hJ hs
      obtain ⟨c1, c2, c3, c4, c5, c6, c7, c8, c9, c10, c11, c12, c13⟩ := id C
      obtain ⟨w1, w2, w3, w4, w5, w6⟩ := id c2
      obtain ⟨K, eK⟩ : ∃ K : Nat, nowG h 57 = (K : Int) := ⟨(nowG h 57).toNat, by omega⟩
      have p16 := pw16 (K := K) (by omega)
      have br := bst_r (okM (nowG h) K) (2 ^ K)
      have REF : ∀ P : Option Value → zH → Prop, (0 ≤ a.toInt ∧ a.toInt ≤ 1 → bst (okM (nowG h) K) (2 ^ K) = -1000000 → P (some (.int (-1000000 : Int32))) h) → (0 ≤ a.toInt ∧ a.toInt ≤ 1 → ¬ bst (okM (nowG h) K) (2 ^ K) = -1000000 → ¬ a.toInt = 0 → ∀ v : Int32, v.toInt = bst (okM (nowG h) K) (2 ^ K) → P (some (.int v)) h) → (0 ≤ a.toInt ∧ a.toInt ≤ 1 → ¬ bst (okM (nowG h) K) (2 ^ K) = -1000000 → a.toInt = 0 → ∀ v : Int32, v.toInt = ((cb2 (bst (okM (nowG h) K) (2 ^ K)).toNat : Nat) : Int) → P (some (.int v)) h) → (¬ (0 ≤ a.toInt ∧ a.toInt ≤ 1) → P (some (.int (-1000001 : Int32))) h) → zqm 191 [.ref 58, .int a] h P := fun P k0 k1 k2 kb => by
        refine s_191 a (fun n => ?_)
        refine q_150 ?_
        refine zri_int ?_
        refine ⟨fun _ => ?_, fun t => absurd hs (zb2.mp t)⟩
        refine q_121 _ _ _ ?_
        refine zri_int ?_
        rw [kc_0, kc_1]
        refine ⟨fun t => ?_, fun t => kb (zb2.mp t)⟩
        have t := zb1.mp t
        exact l_191_27 a K c2 cS cF eK (k0 t) (k1 t) (k2 t) (2 ^ K) n 0 _ _ _ _ kc_0 (by omega) (show (-1000000 : Int32).toInt = (-1000000 : Int) by decide)
      refine s_100 a ⟨fun _ => ?_, fun z => absurd (by rw [c3]; decide) z⟩
      refine q_120 a ?_
      refine zri_int ?_
      refine ⟨fun y => ?_, fun y _ => ?_⟩
      · have y := zb1.mp y
        refine s_29 (fun n => l_29 C K eK (fun v ev => ?_) n 0 _ _ _ kc_0 (Nat.zero_le _) (show (-1000000 : Int32).toInt = (-1000000 : Int) by decide))
        refine zri_int ?_
        refine ⟨fun z _ => ?_, fun z => ⟨fun x => ?_, fun x _ => ?_⟩⟩
        · refine REF _ (fun _ u _ => ⟨vi ?_, hJ⟩) (fun _ _ _ u eu _ => ⟨vi (by rw [eu, ev]), hJ⟩) (fun _ _ u => by exfalso; omega) (fun u => absurd y u)
          rw [ev, u]
          decide
        · refine q_217k v (bst (okM (nowG h) K) (2 ^ K)).toNat (by omega) (by omega) (fun u eu => ?_)
          refine zri_int (fun _ => ?_)
          exact REF _ (fun _ u => by exfalso; omega) (fun _ _ u => by exfalso; omega) (fun _ _ _ t et _ => ⟨vi (by rw [et, eu]), hJ⟩) (fun u => absurd y u)
        · have x := Decidable.not_not.mp x
          refine REF _ (fun _ u _ => ⟨vi ?_, hJ⟩) (fun _ u => by exfalso; omega) (fun _ u => by exfalso; omega) (fun u => absurd y u)
          rw [x]
          decide
      · exact REF _ (fun t => absurd t (zb2.mp y)) (fun t => absurd t (zb2.mp y)) (fun t => absurd t (zb2.mp y)) (fun _ _ => ⟨rfl, hJ⟩)
    · obtain ⟨z1, z2⟩ := JC_0 hJ hs
      refine s_100 a ⟨fun z => absurd (z2 0 (by decide)) z, fun _ _ => ?_⟩
      refine s_191 a (fun n => ?_)
      refine q_150 ?_
      refine zri_int ?_
      exact ⟨fun z => absurd (zb1.mp z) hs, fun _ _ => ⟨rfl, hJ⟩⟩

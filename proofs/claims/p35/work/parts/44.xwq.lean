/-! two who quarrel at a seam -/
theorem sad {a b c d : Int} (h : max (min a b) (min c d) ≠ min (max a c) (max b d)) : a + d - b - c ≠ 0 := by omega
theorem mul_b {a b : Int} (a0 : -20 ≤ a) (a1 : a ≤ 20) (b0 : -20 ≤ b) (b1 : b ≤ 20) : -400 ≤ a * b ∧ a * b ≤ 400 := by
  have e := Int.natAbs_mul a b
  have l : a.natAbs * b.natAbs ≤ 20 * 20 := Nat.mul_le_mul (by omega) (by omega)
  omega
def qv (a b c d : Int) (w : Bool) : Int := if max (min a b) (min c d) = min (max a c) (max b d) then fr (max (min a b) (min c d)) 1 w else if 0 ≤ a + d - b - c then fr (a * d - b * c) (a + d - b - c).toNat w else fr (-(a * d - b * c)) (-(a + d - b - c)).toNat w
theorem q_220 {h : zH} {Q : Option Value → zH → Prop} (a0 a1 : Int32) (H : ∀ v : Int32, v.toInt = max a0.toInt a1.toInt → Q (some (.int v)) h) : zqm 220 [.int a0, .int a1] h Q := s_220 a0 a1 ⟨fun z => H a1 (by omega), fun z => H a0 (by omega)⟩
theorem q_221m {h : zH} {Q : Option Value → zH → Prop} (a0 a1 : Int32) (H : ∀ v : Int32, v.toInt = min a0.toInt a1.toInt → Q (some (.int v)) h) : zqm 221 [.int a0, .int a1] h Q := s_221 a0 a1 ⟨fun z => H a1 (by omega), fun z => H a0 (by omega)⟩
theorem q_197 {h : zH} {Q : Option Value → zH → Prop} (a0 a1 : Int32) (H : ∀ v : Int32, v.toInt = max a0.toInt a1.toInt → Q (some (.int v)) h) : zqm 197 [.int a0, .int a1] h Q := s_197 a0 a1 ⟨fun z => H a1 (by omega), fun z => H a0 (by omega)⟩
theorem q_198 {h : zH} {Q : Option Value → zH → Prop} (a0 a1 : Int32) (H : ∀ v : Int32, v.toInt = min a0.toInt a1.toInt → Q (some (.int v)) h) : zqm 198 [.int a0, .int a1] h Q := s_198 a0 a1 ⟨fun z => H a1 (by omega), fun z => H a0 (by omega)⟩
/-- what is above, what is below -/
theorem ar_b {a b c d : Int32} (ra : -20 ≤ a.toInt ∧ a.toInt ≤ 20) (rb : -20 ≤ b.toInt ∧ b.toInt ≤ 20) (rc : -20 ≤ c.toInt ∧ c.toInt ≤ 20) (rd : -20 ≤ d.toInt ∧ d.toInt ≤ 20) : (((a + d) - b) - c).toInt = a.toInt + d.toInt - b.toInt - c.toInt ∧ ((a * d) - (b * c)).toInt = a.toInt * d.toInt - b.toInt * c.toInt ∧ (-800 ≤ a.toInt * d.toInt - b.toInt * c.toInt ∧ a.toInt * d.toInt - b.toInt * c.toInt ≤ 800) := by
  have m1 := mul_b ra.1 ra.2 rd.1 rd.2
  have m2 := mul_b rb.1 rb.2 rc.1 rc.2
  refine ⟨?_, ?_, by omega⟩
  · exact wk_sub (wk_sub (wk_add rfl rfl (by omega) (by omega)) rfl (by omega) (by omega)) rfl (by omega) (by omega)
  · exact wk_sub (wk_mul rfl rfl (by omega) (by omega)) (wk_mul rfl rfl (by omega) (by omega)) (by omega) (by omega)
theorem q_42 {h : zH} {Q : Option Value → zH → Prop} (a b c d w : Int32) (ra : -20 ≤ a.toInt ∧ a.toInt ≤ 20) (rb : -20 ≤ b.toInt ∧ b.toInt ≤ 20) (rc : -20 ≤ c.toInt ∧ c.toInt ≤ 20) (rd : -20 ≤ d.toInt ∧ d.toInt ≤ 20) (H : ∀ v : Int32, v.toInt = qv a.toInt b.toInt c.toInt d.toInt (!decide (w.toInt = 0)) → Q (some (.int v)) h) : zqm 42 [.int a, .int b, .int c, .int d, .int w] h Q := by
  obtain ⟨eb, ea, r⟩ := ar_b ra rb rc rd
  unfold qv at H
  refine s_42 a b c d w ?_
  refine q_221m _ _ (fun v1 e1 => zri_int ?_)
  refine q_221m _ _ (fun v2 e2 => zri_int ?_)
  refine q_220 _ _ (fun v3 e3 => zri_int ?_)
  refine q_220 _ _ (fun v4 e4 => zri_int ?_)
  refine q_220 _ _ (fun v5 e5 => zri_int ?_)
  refine q_221m _ _ (fun v6 e6 => zri_int ?_)
  rw [e1, e2] at e3
  rw [e4, e5] at e6
  refine ⟨fun z => ?_, fun z => ⟨fun y => ⟨fun x => ?_, fun x => ?_⟩, fun y => ?_⟩⟩
  · rw [e3, e6] at z
    rw [if_pos z] at H
    refine q_38 v3 _ w 1 (by omega) (by omega) kc_1 (by omega) (by omega) (fun v ev => zri_int (H v ?_))
    rw [ev, e3]
  · rw [e3, e6] at z
    rw [eb] at x y
    rw [if_neg z, if_pos x] at H
    refine q_38 _ _ w (a.toInt + d.toInt - b.toInt - c.toInt).toNat (by rw [ea]; omega) (by rw [ea]; omega) (by rw [eb]; omega) (by omega) (by omega) (fun v ev => zri_int (H v ?_))
    rw [ev, ea]
  · rw [e3, e6] at z
    rw [eb] at x y
    rw [if_neg z, if_neg x] at H
    have na := Jvm.Kit.i32_neg (x := (a * d) - (b * c)) (by rw [ea]; omega)
    have nb := Jvm.Kit.i32_neg (x := ((a + d) - b) - c) (by rw [eb]; omega)
    rw [ea] at na
    rw [eb] at nb
    refine q_38 _ _ w (-(a.toInt + d.toInt - b.toInt - c.toInt)).toNat (by rw [na]; omega) (by rw [na]; omega) (by rw [nb]; omega) (by omega) (by omega) (fun v ev => zri_int (H v ?_))
    rw [ev, na]
  · rw [e3, e6] at z
    rw [eb] at y
    exact absurd (Decidable.not_not.mp y) (sad z)
theorem l_104 {h : zH} {Q : Option Value → zH → Prop} (x1 x2 x3 x4 : Int32) (tv : Nat → Int32) (et : ∀ k : Nat, k < 4 → h.1 57 k = tv k) (HB : (¬ ∀ k : Nat, k < 4 → -20 ≤ (tv k).toInt ∧ (tv k).toInt ≤ 20) → Q (some (.int (-1000001 : Int32))) h) (H : (∀ k : Nat, k < 4 → -20 ≤ (tv k).toInt ∧ (tv k).toInt ≤ 20) → ∀ v : Int32, v.toInt = qv (tv 0).toInt (tv 1).toInt (tv 2).toInt (tv 3).toInt (!decide (x3.toInt = 0)) → Q (some (.int v)) (zSet h 0 11 (Int32.ofInt 0))) : ∀ (n k : Nat) (x5 : Int32), x5.toInt = (k : Int) → k ≤ 4 → (∀ j : Nat, j < k → -20 ≤ (tv j).toInt ∧ (tv j).toInt ≤ 20) → zQ n 104 44 [some (.ref 0), some (.int x1), some (.int x2), some (.int x3), some (.int x4), some (.int x5)] [] h Q
  | 0, _, _, _, _, _ => zQ_zero
  | n + 1, k, x5, e5, hk, hp => by
    refine s_104_44 x1 x2 x3 x4 x5 ⟨fun d => ?_, fun d _ _ => ?_⟩
    · have hp : ∀ j : Nat, j < 4 → -20 ≤ (tv j).toInt ∧ (tv j).toInt ≤ 20 := fun j hj => hp j (by omega)
      rw [et 0 (by decide), et 1 (by decide), et 2 (by decide), et 3 (by decide)]
      refine q_42 _ _ _ _ x3 (hp 0 (by decide)) (hp 1 (by decide)) (hp 2 (by decide)) (hp 3 (by decide)) (fun v ev => zri_int ?_)
      exact q_115 v (zri_int (H hp v ev))
    · rw [show x5.toInt.toNat = k by omega, et k (by omega)]
      refine ⟨fun z => HB (fun y => ?_), fun z _ _ => ⟨fun y => ?_, fun y => HB (fun x => ?_)⟩⟩
      · have := y k (by omega)
        omega
      · have e5' := ai (x := x5) (k := 1) (by omega) (by omega) (by omega) (by omega)
        refine l_104 x1 x2 x3 x4 tv et HB H n (k + 1) _ (by omega) (by omega) (fun j hj => ?_)
        by_cases w : j = k
        · subst w; omega
        · exact hp j (by omega)
      · have := x k (by omega)
        omega
theorem l_196 {h : zH} {Q : Option Value → zH → Prop} (x1 x2 x3 x4 x5 : Int32) (A : Nat) (tv : Nat → Int32) (eA : (h.1 58 18).toInt = (A : Int)) (A3 : A + 4 ≤ 320) (et : ∀ k : Nat, k < 4 → h.1 61 (A + k) = tv k) (HB : (¬ ∀ k : Nat, k < 4 → -20 ≤ (tv k).toInt ∧ (tv k).toInt ≤ 20) → Q (some (.int (-1000001 : Int32))) (zSet h 58 3 x4)) (H : (∀ k : Nat, k < 4 → -20 ≤ (tv k).toInt ∧ (tv k).toInt ≤ 20) → ∀ v : Int32, v.toInt = qv (tv 0).toInt (tv 1).toInt (tv 2).toInt (tv 3).toInt (!decide (x3.toInt = 0)) → Q (some (.int v)) h) : ∀ (n k : Nat) (x6 x7 : Int32), x7.toInt = (k : Int) → k ≤ 4 → (x6 = Int32.ofInt 1 ∧ ∀ j : Nat, j < k → -20 ≤ (tv j).toInt ∧ (tv j).toInt ≤ 20) ∨ (x6 = Int32.ofInt 0 ∧ ¬ ∀ j : Nat, j < 4 → -20 ≤ (tv j).toInt ∧ (tv j).toInt ≤ 20) → zQ n 196 35 [some (.ref 58), some (.int x1), some (.int x2), some (.int x3), some (.int x4), some (.int x5), some (.int x6), some (.int x7), none, none, none, none, none, none, none, none, none, none, none] [] h Q
  | 0, _, _, _, _, _, _ => zQ_zero
  | n + 1, k, x6, x7, e7, hk, hp => by
    have km20 : (Int32.ofInt (-20)).toInt = -20 := by decide
    have k20 : (Int32.ofInt 20).toInt = 20 := by decide
    have e7' : ¬ (4 : Int) ≤ x7.toInt → (x7 + Int32.ofInt 1).toInt = ((k + 1 : Nat) : Int) := fun d => by
      rw [ai (by omega) (by omega) (by omega) (by omega)]
      omega
    refine s_196_35 x1 x2 x3 x4 x5 x6 x7 ⟨fun d => ⟨fun z => ?_, fun z => ?_⟩, fun d => ⟨fun z => ?_, fun z => ?_⟩⟩
    · have hp : ∀ j : Nat, j < 4 → -20 ≤ (tv j).toInt ∧ (tv j).toInt ≤ 20 := by
        rcases hp with ⟨p1, p2⟩ | ⟨p1, p2⟩
        · exact fun j hj => p2 j (by omega)
        · rw [p1] at z
          exact absurd (by decide) z
      have i0 : (h.1 58 18).toInt.toNat = A + 0 := by omega
      have i1 : ((h.1 58 18) + (Int32.ofInt 1)).toInt.toNat = A + 1 := by rw [ai (by omega) (by omega) (by omega) (by omega)]; omega
      have i2 : ((h.1 58 18) + (Int32.ofInt 2)).toInt.toNat = A + 2 := by rw [ai (by omega) (by omega) (by omega) (by omega)]; omega
      have i3 : ((h.1 58 18) + (Int32.ofInt 3)).toInt.toNat = A + 3 := by rw [ai (by omega) (by omega) (by omega) (by omega)]; omega
      rw [i0, i1, i2, i3, et 0 (by decide), et 1 (by decide), et 2 (by decide), et 3 (by decide)]
      have ra := hp 0 (by decide)
      have rb := hp 1 (by decide)
      have rc := hp 2 (by decide)
      have rd := hp 3 (by decide)
      have H := H hp
      generalize tv 0 = a at *
      generalize tv 1 = b at *
      generalize tv 2 = c at *
      generalize tv 3 = e at *
      obtain ⟨eb, ea, r⟩ := ar_b ra rb rc rd
      unfold qv at H
      refine fun _ _ _ _ _ _ _ _ => ?_
      refine q_198 _ _ (fun v1 e1 => zri_int ?_)
      refine q_198 _ _ (fun v2 e2 => zri_int ?_)
      refine q_197 _ _ (fun v3 e3 => zri_int ?_)
      refine q_197 _ _ (fun v4 e4 => zri_int ?_)
      refine q_197 _ _ (fun v5 e5 => zri_int ?_)
      refine q_198 _ _ (fun v6 e6 => zri_int ?_)
      rw [e1, e2] at e3
      rw [e4, e5] at e6
      have one : (Int64.ofNat 1).toInt = ((1 : Nat) : Int) := by decide
      refine ⟨fun y => ?_, fun y => ⟨fun x => ?_, fun x => ?_⟩⟩
      · rw [e3, e6] at y
        rw [if_pos y] at H
        have e64 := Jvm.Kit.i64_of_i32 v3
        refine q_194 _ _ 1 (by rw [e64]; omega) one (fun v ev => zrl_long ?_)
        rw [e64, e3] at ev
        refine ⟨fun u _ => H _ ?_, fun u _ => H _ ?_⟩
        · have q := fr64 (x := Int64.ofNat 1) (v := v) (A := max (min a.toInt b.toInt) (min c.toInt e.toInt)) (B := 1) (w := true) (by rw [one]; rfl) ev (by omega) (by omega) (by omega) (by omega)
          have bd := fr_b (A := max (min a.toInt b.toInt) (min c.toInt e.toInt)) (B := 1) (w := true) (by omega) (by omega) (by omega) (by omega)
          rw [Jvm.Kit.i32_of_i64 (by omega) (by omega), q, decide_eq_false u]
          rfl
        · have q := fr64 (x := v3.toInt64) (v := v) (A := max (min a.toInt b.toInt) (min c.toInt e.toInt)) (B := 1) (w := false) (by rw [e64, e3]; rfl) ev (by omega) (by omega) (by omega) (by omega)
          have bd := fr_b (A := max (min a.toInt b.toInt) (min c.toInt e.toInt)) (B := 1) (w := false) (by omega) (by omega) (by omega) (by omega)
          rw [Jvm.Kit.i32_of_i64 (by omega) (by omega), q, decide_eq_true (Decidable.not_not.mp u)]
          rfl
      · rw [e3, e6] at y
        have nz := sad y
        have eb64 := (Jvm.Kit.i64_of_i32 (((a + e) - b) - c)).trans eb
        have ea64 := (Jvm.Kit.i64_of_i32 ((a * e) - (b * c))).trans ea
        have x := (lgv _).1.mp x
        rw [eb64] at x
        rw [if_neg y, if_pos x] at H
        refine q_194 _ _ (a.toInt + e.toInt - b.toInt - c.toInt).toNat (by rw [ea64]; omega) (by rw [eb64]; omega) (fun v ev => zrl_long ?_)
        rw [ea64] at ev
        refine ⟨fun u _ => H _ ?_, fun u _ => H _ ?_⟩
        · have q := fr64 (x := (((a + e) - b) - c).toInt64) (v := v) (A := a.toInt * e.toInt - b.toInt * c.toInt) (B := (a.toInt + e.toInt - b.toInt - c.toInt).toNat) (w := true) (by rw [eb64]; show _ = (((a.toInt + e.toInt - b.toInt - c.toInt).toNat : Nat) : Int); omega) ev (by omega) (by omega) (by omega) (by omega)
          have bd := fr_b (A := a.toInt * e.toInt - b.toInt * c.toInt) (B := (a.toInt + e.toInt - b.toInt - c.toInt).toNat) (w := true) (by omega) (by omega) (by omega) (by omega)
          rw [Jvm.Kit.i32_of_i64 (by omega) (by omega), q, decide_eq_false u]
          rfl
        · have q := fr64 (x := ((a * e) - (b * c)).toInt64) (v := v) (A := a.toInt * e.toInt - b.toInt * c.toInt) (B := (a.toInt + e.toInt - b.toInt - c.toInt).toNat) (w := false) (by rw [ea64]; rfl) ev (by omega) (by omega) (by omega) (by omega)
          have bd := fr_b (A := a.toInt * e.toInt - b.toInt * c.toInt) (B := (a.toInt + e.toInt - b.toInt - c.toInt).toNat) (w := false) (by omega) (by omega) (by omega) (by omega)
          rw [Jvm.Kit.i32_of_i64 (by omega) (by omega), q, decide_eq_true (Decidable.not_not.mp u)]
          rfl
      · rw [e3, e6] at y
        have nz := sad y
        have eb64 := (Jvm.Kit.i64_of_i32 (((a + e) - b) - c)).trans eb
        have ea64 := (Jvm.Kit.i64_of_i32 ((a * e) - (b * c))).trans ea
        have x : ¬ 0 ≤ a.toInt + e.toInt - b.toInt - c.toInt := fun t => x ((lgv _).1.mpr (by rw [eb64]; exact t))
        have nb64 := Jvm.Kit.i64_neg (x := (((a + e) - b) - c).toInt64) (by rw [eb64]; omega)
        have na64 := Jvm.Kit.i64_neg (x := ((a * e) - (b * c)).toInt64) (by rw [ea64]; omega)
        rw [eb64] at nb64
        rw [ea64] at na64
        rw [if_neg y, if_neg x] at H
        refine q_194 _ _ (-(a.toInt + e.toInt - b.toInt - c.toInt)).toNat (by rw [na64]; omega) (by rw [nb64]; omega) (fun v ev => zrl_long ?_)
        rw [na64] at ev
        refine ⟨fun u _ => H _ ?_, fun u _ => H _ ?_⟩
        · have q := fr64 (x := -(((a + e) - b) - c).toInt64) (v := v) (A := -(a.toInt * e.toInt - b.toInt * c.toInt)) (B := (-(a.toInt + e.toInt - b.toInt - c.toInt)).toNat) (w := true) (by rw [nb64]; show _ = (((-(a.toInt + e.toInt - b.toInt - c.toInt)).toNat : Nat) : Int); omega) ev (by omega) (by omega) (by omega) (by omega)
          have bd := fr_b (A := -(a.toInt * e.toInt - b.toInt * c.toInt)) (B := (-(a.toInt + e.toInt - b.toInt - c.toInt)).toNat) (w := true) (by omega) (by omega) (by omega) (by omega)
          rw [Jvm.Kit.i32_of_i64 (by omega) (by omega), q, decide_eq_false u]
          rfl
        · have q := fr64 (x := -((a * e) - (b * c)).toInt64) (v := v) (A := -(a.toInt * e.toInt - b.toInt * c.toInt)) (B := (-(a.toInt + e.toInt - b.toInt - c.toInt)).toNat) (w := false) (by rw [na64]; rfl) ev (by omega) (by omega) (by omega) (by omega)
          have bd := fr_b (A := -(a.toInt * e.toInt - b.toInt * c.toInt)) (B := (-(a.toInt + e.toInt - b.toInt - c.toInt)).toNat) (w := false) (by omega) (by omega) (by omega) (by omega)
          rw [Jvm.Kit.i32_of_i64 (by omega) (by omega), q, decide_eq_true (Decidable.not_not.mp u)]
          rfl
    · refine HB ?_
      rcases hp with ⟨p1, p2⟩ | ⟨p1, p2⟩
      · rw [p1] at z
        exact absurd (by decide) z
      · exact p2
    · rcases hp with ⟨p1, p2⟩ | ⟨p1, p2⟩
      · rw [p1] at z
        exact absurd z (by decide)
      · exact l_196 x1 x2 x3 x4 x5 A tv eA A3 et HB H n (k + 1) _ _ (e7' d) (by omega) (Or.inr ⟨rfl, p2⟩)
    · rcases hp with ⟨p1, p2⟩ | ⟨p1, p2⟩
      · have ea := wk_add eA e7 (by omega) (by omega)
        rw [ea, show ((A : Int) + (k : Int)).toNat = A + k by omega, et k (by omega)]
        refine fun _ _ => q_121 _ _ _ ?_
        rw [km20, k20]
        refine zri_int ⟨fun y => ?_, fun y => ?_⟩
        · exact l_196 x1 x2 x3 x4 x5 A tv eA A3 et HB H n (k + 1) _ _ (e7' d) (by omega) (Or.inr ⟨rfl, fun t => zb0.mp y (t k (by omega))⟩)
        · refine l_196 x1 x2 x3 x4 x5 A tv eA A3 et HB H n (k + 1) _ _ (e7' d) (by omega) (Or.inl ⟨rfl, fun j hj => ?_⟩)
          by_cases w : j = k
          · subst w; exact zb1.mp y
          · exact p2 j (by omega)
      · rw [p1] at z
        exact absurd (by decide) z

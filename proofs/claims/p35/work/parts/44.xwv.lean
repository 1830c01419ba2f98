/-! a brook by odds -/
def chS (n : Nat) : Nat → Nat
  | 0 => 1
  | m + 1 => chS n m * (n - m) / (m + 1)
def wyS (s p n : Nat) : Nat → Nat
  | 0 => 0
  | m + 1 => wyS s p n m + (if m % 4 = s then chS n m * p ^ m * (10 - p) ^ (n - m) else 0)
def vS (p l : Nat) : Nat → Nat → Nat
  | 0, k => if k = l then 1 else 0
  | y + 1, k => vS p l y k * (10 - p) + vS p l y ((k + 3) % 4) * p
theorem wy_b : ∀ s, s < 4 → ∀ p, p < 11 → ∀ n, n < 7 → ∀ m, m < 8 → wyS s p n m ≤ 1000000 := by decide +kernel
theorem ch_b : ∀ n, n < 7 → ∀ m, m < 8 → chS n m ≤ 20 := by decide +kernel
theorem wy_t : ∀ p, p < 11 → ∀ n, n < 7 → ∀ m, m < 7 → m ≤ n → chS n m * p ^ m * (10 - p) ^ (n - m) ≤ 1000000 := by decide +kernel
theorem wy_v : ∀ p, p < 11 → ∀ n, n < 7 → ∀ l, l < 4 → ∀ t, t < 4 → vS p l n t = wyS ((t + 4 - l) % 4) p n (n + 1) := by decide +kernel
theorem v_b : ∀ p, p < 11 → ∀ n, n < 7 → ∀ l, l < 4 → ∀ t, t < 4 → vS p l n t ≤ 1000000 := by decide +kernel
theorem pw_b {b k : Nat} (hb : b ≤ 10) (hk : k ≤ 6) : b ^ k ≤ 1000000 := Nat.le_trans (Nat.pow_le_pow_left hb k) (show 10 ^ k ≤ 10 ^ 6 from Nat.pow_le_pow_right (by decide) hk)
theorem nmul {a b : Nat} : ((a : Int)) * (b : Int) = ((a * b : Nat) : Int) := (Int.natCast_mul a b).symm
theorem mul32 {x y : Int32} {a b : Nat} (ex : x.toInt = (a : Int)) (ey : y.toInt = (b : Int)) (h : a * b < 2147483648) : (x * y).toInt = ((a * b : Nat) : Int) := by
  rw [wk_mul ex ey (by rw [nmul]; omega) (by rw [nmul]; omega), nmul]
theorem mul64 {x y : Int64} {a b : Nat} (ex : x.toInt = (a : Int)) (ey : y.toInt = (b : Int)) (h : a * b < 2147483648) : (x * y).toInt = ((a * b : Nat) : Int) := by
  rw [Jvm.Kit.i64_mul (by rw [ex, ey, nmul]; omega) (by rw [ex, ey, nmul]; omega), ex, ey, nmul]
theorem l_40 {h : zH} {Q : Option Value → zH → Prop} (x0 x1 : Int32) (b n : Nat) (e0 : x0.toInt = (b : Int)) (e1 : x1.toInt = (n : Int)) (hb : b ≤ 10) (hn : n ≤ 6) (H : ∀ v : Int32, v.toInt = ((b ^ n : Nat) : Int) → Q (some (.int v)) h) : ∀ (f k : Nat) (x2 x3 : Int32), x3.toInt = (k : Int) → k ≤ n → x2.toInt = ((b ^ k : Nat) : Int) → zQ f 40 4 [some (.int x0), some (.int x1), some (.int x2), some (.int x3)] [] h Q
  | 0, _, _, _, _, _, _ => zQ_zero
  | f + 1, k, x2, x3, e3, hk, e2 => by
    refine s_40_4 x0 x1 x2 x3 ⟨fun d => ?_, fun d => ?_⟩
    · have : k = n := by omega
      subst this
      exact H x2 e2
    · have e3' := ai (x := x3) (k := 1) (by omega) (by omega) (by omega) (by omega)
      have pb := pw_b (k := k) hb (by omega)
      have pm : b ^ k * b ≤ 1000000 * 10 := Nat.mul_le_mul pb hb
      refine l_40 x0 x1 b n e0 e1 hb hn H f (k + 1) _ _ (by omega) (by omega) ?_
      rw [mul32 e2 e0 (by omega), Nat.pow_succ]
theorem q_40 {h : zH} {Q : Option Value → zH → Prop} (a0 a1 : Int32) (b n : Nat) (e0 : a0.toInt = (b : Int)) (e1 : a1.toInt = (n : Int)) (hb : b ≤ 10) (hn : n ≤ 6) (H : ∀ v : Int32, v.toInt = ((b ^ n : Nat) : Int) → Q (some (.int v)) h) : zqm 40 [.int a0, .int a1] h Q := s_40 a0 a1 (fun f => l_40 a0 a1 b n e0 e1 hb hn H f 0 _ _ kc_0 (by omega) (by rw [Nat.pow_zero]; exact kc_1))
theorem l_41 {h : zH} {Q : Option Value → zH → Prop} (x0 x1 x2 : Int32) (s p n : Nat) (e0 : x0.toInt = (s : Int)) (hs : s < 4) (e1 : x1.toInt = (p : Int)) (hp : p < 11) (e2 : x2.toInt = (n : Int)) (hn : n < 7) (H : ∀ v : Int32, v.toInt = ((wyS s p n (n + 1) : Nat) : Int) → Q (some (.int v)) h) : ∀ (f m : Nat) (x3 x4 x5 : Int32), x5.toInt = (m : Int) → m ≤ n + 1 → x3.toInt = ((wyS s p n m : Nat) : Int) → x4.toInt = ((chS n m : Nat) : Int) → zQ f 41 8 [some (.int x0), some (.int x1), some (.int x2), some (.int x3), some (.int x4), some (.int x5)] [] h Q
  | 0, _, _, _, _, _, _, _, _ => zQ_zero
  | f + 1, m, x3, x4, x5, e5, hm, e3, e4 => by
    refine s_41_8 x0 x1 x2 x3 x4 x5 ⟨fun d => ?_, fun d => ?_⟩
    · have : m = n + 1 := by omega
      subst this
      exact H x3 e3
    · have e5' := ai (x := x5) (k := 1) (by omega) (by omega) (by omega) (by omega)
      have cb := ch_b n hn m (by omega)
      have esub : (x2 - x5).toInt = ((n - m : Nat) : Int) := by
        rw [wk_sub e2 e5 (by omega) (by omega)]
        omega
      have cm : chS n m * (n - m) ≤ 20 * 6 := Nat.mul_le_mul cb (by omega)
      have ech : ((x4 * (x2 - x5)) / (x5 + (Int32.ofInt 1))).toInt = ((chS n (m + 1) : Nat) : Int) := dv32 (mul32 e4 esub (by omega)) (show (x5 + Int32.ofInt 1).toInt = ((m + 1 : Nat) : Int) by omega)
      rw [rem32 e5 kc4n, e0]
      have ws : wyS s p n (m + 1) = wyS s p n m + (if m % 4 = s then chS n m * p ^ m * (10 - p) ^ (n - m) else 0) := rfl
      refine ⟨fun z _ => ?_, fun z => ?_⟩
      · refine l_41 x0 x1 x2 s p n e0 hs e1 hp e2 hn H f (m + 1) _ _ _ (by omega) (by omega) ?_ ech
        rw [ws, if_neg (by omega), Nat.add_zero]
        exact e3
      · have z : m % 4 = s := by omega
        refine q_40 x1 x5 p m e1 e5 (by omega) (by omega) (fun v4 ev4 => ?_)
        refine zri_int ?_
        have e10 : ((Int32.ofInt 10) - x1).toInt = ((10 - p : Nat) : Int) := by
          rw [wk_sub (show (Int32.ofInt 10).toInt = 10 by decide) e1 (by omega) (by omega)]
          omega
        refine q_40 _ _ (10 - p) (n - m) e10 esub (by omega) (by omega) (fun v5 ev5 => ?_)
        refine zri_int (fun _ => ?_)
        have pb := pw_b (b := p) (k := m) (by omega) (by omega)
        have c1 : chS n m * p ^ m ≤ 20 * 1000000 := Nat.mul_le_mul cb pb
        have c2 := wy_t p hp n hn m (by omega) (by omega)
        have wb := wy_b s hs p hp n hn m (by omega)
        refine l_41 x0 x1 x2 s p n e0 hs e1 hp e2 hn H f (m + 1) _ _ _ (by omega) (by omega) ?_ ech
        rw [ws, if_pos z, wk_add e3 (mul32 (mul32 e4 ev4 (by omega)) ev5 (by omega)) (by omega) (by omega)]
        omega
theorem fmA : ∀ t, t < 4 → ∀ l, l < 4 → (0 ≤ ((nI t - nI l) ^^^ Int32.ofInt 4).toInt → ((nI t - nI l) - (nI t - nI l) / Int32.ofInt 4 * Int32.ofInt 4).toInt = (((t + 4 - l) % 4 : Nat) : Int)) ∧ (¬ 0 ≤ ((nI t - nI l) ^^^ Int32.ofInt 4).toInt → (((nI t - nI l) - (nI t - nI l) / Int32.ofInt 4 * Int32.ofInt 4).toInt = 0 → ((nI t - nI l) - (nI t - nI l) / Int32.ofInt 4 * Int32.ofInt 4).toInt = (((t + 4 - l) % 4 : Nat) : Int)) ∧ (¬ ((nI t - nI l) - (nI t - nI l) / Int32.ofInt 4 * Int32.ofInt 4).toInt = 0 → (((nI t - nI l) - (nI t - nI l) / Int32.ofInt 4 * Int32.ofInt 4) + Int32.ofInt 4).toInt = (((t + 4 - l) % 4 : Nat) : Int))) := by decide +kernel
theorem q_218 {h : zH} {Q : Option Value → zH → Prop} (a0 : Int32) (t l : Nat) (e : a0 = nI t - nI l) (ht : t < 4) (hl : l < 4) (H : ∀ v : Int32, v.toInt = (((t + 4 - l) % 4 : Nat) : Int) → Q (some (.int v)) h) : zqm 218 [.int a0, .int (Int32.ofInt 4)] h Q := by
  subst e
  obtain ⟨f1, f2⟩ := fmA t ht l hl
  exact s_218 _ _ (fun _ => ⟨fun z => H _ (f1 z), fun z => ⟨fun y => H _ ((f2 z).1 y), fun y => H _ ((f2 z).2 y)⟩⟩)
theorem vl {a b : Int64} (e : a.toInt = b.toInt) : some (Value.long a) = some (Value.long b) := congrArg (fun z => some (Value.long z)) (Int64.toInt_inj.mp e)
/-! the reference's ways -/
theorem l_195_117 {g : zH} {Q : Option Value → zH → Prop} (x1 x2 x3 x4 : Int32) (p l y : Nat) (e2 : x2.toInt = (p : Int)) (hp : p < 11) (hl : l < 4) (hy : y < 6) (y6 : Int64) (x8 : Int32) (y9 : Int64) (e9 : y9.toInt = ((vS p l y 3 : Nat) : Int)) (H : ∀ (f : Nat) (o9 o11 o12 : Option Value) (h' : zH), h'.1 = g.1 → (∀ j : Nat, j < 4 → (h'.2 71 j).toInt = ((vS p l (y + 1) j : Nat) : Int)) → zQ f 195 102 [some (.ref 58), some (.int x1), some (.int x2), some (.int x3), some (.int x4), some (.ref 71), some (.long (y6 * (10 : Int64))), none, some (.int (x8 + Int32.ofInt 1)), o9, none, o11, o12, none] [] h' Q) : ∀ (f k : Nat) (x11 : Int32) (o12 : Option Value) (h : zH), x11.toInt = (k : Int) - 1 → k ≤ 4 → h.1 = g.1 → (∀ j : Nat, j < 4 → (h.2 71 j).toInt = if k ≤ j then ((vS p l (y + 1) j : Nat) : Int) else ((vS p l y j : Nat) : Int)) → zQ f 195 117 [some (.ref 58), some (.int x1), some (.int x2), some (.int x3), some (.int x4), some (.ref 71), some (.long y6), none, some (.int x8), some (.long y9), none, some (.int x11), o12, none] [] h Q
  | 0, _, _, _, _, _, _, _, _ => zQ_zero
  | f + 1, k, x11, o12, h, e11, hk, f1, f2 => by
    have e10 : (((Int32.ofInt 10) - x2).toInt64).toInt = ((10 - p : Nat) : Int) := by
      rw [Jvm.Kit.i64_of_i32, wk_sub (show (Int32.ofInt 10).toInt = 10 by decide) e2 (by omega) (by omega)]
      omega
    have ep : (x2.toInt64).toInt = (p : Int) := by rw [Jvm.Kit.i64_of_i32]; exact e2
    have st : ∀ (a b : Int64) (i : Nat), i < 4 → a.toInt = ((vS p l y i : Nat) : Int) → b.toInt = ((vS p l y ((i + 3) % 4) : Nat) : Int) → ((a * (((Int32.ofInt 10) - x2).toInt64)) + (b * (x2.toInt64))).toInt = ((vS p l (y + 1) i : Nat) : Int) := fun a b i hi ea eb => by
      have b1 := v_b p hp y (by omega) l hl i hi
      have b2 := v_b p hp y (by omega) l hl ((i + 3) % 4) (by omega)
      have m1 : vS p l y i * (10 - p) ≤ 1000000 * 10 := Nat.mul_le_mul b1 (by omega)
      have m2 : vS p l y ((i + 3) % 4) * p ≤ 1000000 * 10 := Nat.mul_le_mul b2 (by omega)
      have q1 := mul64 ea e10 (by omega)
      have q2 := mul64 eb ep (by omega)
      have vs : vS p l (y + 1) i = vS p l y i * (10 - p) + vS p l y ((i + 3) % 4) * p := rfl
      rw [Jvm.Kit.i64_add (by rw [q1, q2]; omega) (by rw [q1, q2]; omega), q1, q2, vs]
      omega
    have nx : ¬ x11.toInt < 0 → ∀ (w : Int64) (o : Option Value), w.toInt = ((vS p l (y + 1) (k - 1) : Nat) : Int) → zQ f 195 117 [some (.ref 58), some (.int x1), some (.int x2), some (.int x3), some (.int x4), some (.ref 71), some (.long y6), none, some (.int x8), some (.long y9), none, some (.int (x11 + Int32.ofInt (-1))), o, none] [] (zSetL h 71 (k - 1) w) Q := fun z w o ew => by
      refine l_195_117 x1 x2 x3 x4 p l y e2 hp hl hy y6 x8 y9 e9 H f (k - 1) _ o _ (by rw [ai (by omega) (by omega) (by omega) (by omega)]; omega) (by omega) f1 (fun j hj => ?_)
      rw [sgl2, if_pos rfl]
      by_cases u : j = k - 1
      · rw [if_pos u, if_pos (by omega), u]
        exact ew
      · rw [if_neg u, f2 j hj]
        by_cases v : k ≤ j
        · rw [if_pos v, if_pos (by omega)]
        · rw [if_neg v, if_neg (by omega)]
    refine s_195_117 x1 x2 x3 x4 y6 x8 y9 x11 o12 ⟨fun z => ?_, fun z => ⟨fun y0 => ?_, fun y0 => ?_⟩⟩
    · refine H f _ _ _ h f1 (fun j hj => ?_)
      rw [f2 j hj, if_pos (by omega)]
    · have es : (x11 - Int32.ofInt 1).toInt = ((k - 2 : Nat) : Int) := by
        rw [wk_sub e11 kc_1 (by omega) (by omega)]
        omega
      rw [es, show x11.toInt.toNat = k - 1 by omega, show (((k - 2 : Nat) : Int)).toNat = k - 2 by omega]
      refine fun _ _ _ _ _ _ => nx z _ _ (st _ _ (k - 1) (by omega) ?_ ?_)
      · have := f2 (k - 1) (by omega)
        rw [if_neg (by omega)] at this
        exact this
      · have := f2 (k - 2) (by omega)
        rw [if_neg (by omega)] at this
        rw [show (k - 1 + 3) % 4 = k - 2 by omega]
        exact this
    · have k1 : k = 1 := by omega
      subst k1
      rw [show x11.toInt.toNat = 0 by omega]
      refine fun _ _ _ _ => nx z _ _ (st _ _ 0 (by omega) ?_ e9)
      have := f2 0 (by omega)
      rw [if_neg (by omega)] at this
      exact this
theorem l_195_102 {g : zH} {Q : Option Value → zH → Prop} (x1 x2 x3 x4 : Int32) (c p l t n : Nat) (e1 : x1.toInt = (c : Int)) (hc : c < 15) (e2 : x2.toInt = (p : Int)) (hp : p < 11) (e3 : x3.toInt = (n : Int)) (hn : n < 7) (hl : l < 4) (eT : (g.1 64 (15 + c)).toInt = (t : Int)) (ht : t < 4) (H : ∀ (v : Int64) (h' : zH), h'.1 = g.1 → v.toInt = fr ((vS p l n t : Nat) : Int) (10 ^ n) (!decide (x4.toInt = 0)) → Q (some (.long v)) h') : ∀ (m f y : Nat) (y6 : Int64) (x8 : Int32) (o9 o11 o12 : Option Value) (h : zH), x8.toInt = (y : Int) → y + m = n → y6.toInt = ((10 ^ y : Nat) : Int) → h.1 = g.1 → (∀ j : Nat, j < 4 → (h.2 71 j).toInt = ((vS p l y j : Nat) : Int)) → zQ f 195 102 [some (.ref 58), some (.int x1), some (.int x2), some (.int x3), some (.int x4), some (.ref 71), some (.long y6), none, some (.int x8), o9, none, o11, o12, none] [] h Q := by
  intro m
  induction m with
  | zero =>
    intro f y y6 x8 o9 o11 o12 h e8 hm e6 f1 f2
    cases f with
    | zero => exact zQ_zero
    | succ f =>
      have : y = n := by omega
      subst this
      have p1 : 1 ≤ 10 ^ y := Nat.one_le_pow _ _ (by decide)
      have p2 := pw_b (b := 10) (k := y) (by omega) (by omega)
      have vb := v_b p hp y hn l hl t ht
      refine s_195_102 x1 x2 x3 x4 y6 x8 o9 o11 o12 ⟨fun _ => ?_, fun d => absurd (by omega) d⟩
      rw [f1, oI15 e1 hc, n15, eT, show ((t : Int)).toNat = t by omega]
      refine fun _ _ _ _ => ?_
      have ev := f2 t ht
      refine q_194 _ _ (10 ^ y) (by rw [ev]; omega) e6 (fun v4 e4 => ?_)
      rw [ev] at e4
      refine zrl_long ⟨fun z _ => H _ h f1 ?_, fun z _ => H _ h f1 ?_⟩
      · rw [fr64 (w := true) (by rw [e6]; rfl) e4 (by omega) (by omega) p1 p2, decide_eq_false z]
        rfl
      · rw [fr64 (w := false) (by rw [ev]; rfl) e4 (by omega) (by omega) p1 p2, decide_eq_true (Decidable.not_not.mp z)]
        rfl
  | succ m ih =>
    intro f y y6 x8 o9 o11 o12 h e8 hm e6 f1 f2
    cases f with
    | zero => exact zQ_zero
    | succ f =>
      have p2 := pw_b (b := 10) (k := y) (by omega) (by omega)
      have e10 : (10 : Int64).toInt = ((10 : Nat) : Int) := by decide
      refine s_195_102 x1 x2 x3 x4 y6 x8 o9 o11 o12 ⟨fun d => by exfalso; omega, fun _ => ?_⟩
      refine l_195_117 (g := g) x1 x2 x3 x4 p l y e2 hp hl (by omega) y6 x8 _ (f2 3 (by omega)) (fun f' o9' o11' o12' h' g1 g2 => ?_) f 4 _ _ h (by decide) (by omega) f1 (fun j hj => by rw [if_neg (by omega)]; exact f2 j hj)
      refine ih f' (y + 1) _ _ _ _ _ h' (by rw [ai (by omega) (by omega) (by omega) (by omega)]; omega) (by omega) ?_ g1 g2
      rw [mul64 e6 e10 (by omega), Nat.pow_succ]
theorem l_195_64 {g : zH} {Q : Option Value → zH → Prop} (x1 x2 x3 x4 : Int32) (c p l t n : Nat) (e1 : x1.toInt = (c : Int)) (hc : c < 15) (e2 : x2.toInt = (p : Int)) (hp : p < 11) (e3 : x3.toInt = (n : Int)) (hn : n < 7) (eL : (g.1 64 c).toInt = (l : Int)) (hl : l < 4) (eT : (g.1 64 (15 + c)).toInt = (t : Int)) (ht : t < 4) (H : ∀ (v : Int64) (h' : zH), h'.1 = g.1 → v.toInt = fr ((vS p l n t : Nat) : Int) (10 ^ n) (!decide (x4.toInt = 0)) → Q (some (.long v)) h') : ∀ (f k : Nat) (x8 : Int32) (h : zH), x8.toInt = (k : Int) → k ≤ 4 → h.1 = g.1 → (∀ j : Nat, j < k → (h.2 71 j).toInt = ((vS p l 0 j : Nat) : Int)) → zQ f 195 64 [some (.ref 58), some (.int x1), some (.int x2), some (.int x3), some (.int x4), some (.ref 71), some (.long (Int64.ofNat 1)), none, some (.int x8), none, none, none, none, none] [] h Q
  | 0, _, _, _, _, _, _, _ => zQ_zero
  | f + 1, k, x8, h, e8, hk, f1, f2 => by
    refine s_195_64 x1 x2 x3 x4 _ x8 ⟨fun d => ?_, fun d => ?_⟩
    · refine l_195_102 x1 x2 x3 x4 c p l t n e1 hc e2 hp e3 hn hl eT ht H n f 0 _ _ _ _ _ h kc_0 (by omega) (by decide) f1 (fun j hj => f2 j (by omega))
    · have e8' := ai (x := x8) (k := 1) (by omega) (by omega) (by omega) (by omega)
      rw [f1, oI0 e1 hc, nat_c, eL, show x8.toInt.toNat = k by omega, e8]
      have nx : ∀ w : Int64, w.toInt = ((vS p l 0 k : Nat) : Int) → zQ f 195 64 [some (.ref 58), some (.int x1), some (.int x2), some (.int x3), some (.int x4), some (.ref 71), some (.long (Int64.ofNat 1)), none, some (.int (x8 + Int32.ofInt 1)), none, none, none, none, none] [] (zSetL h 71 k w) Q := fun w ew => by
        refine l_195_64 x1 x2 x3 x4 c p l t n e1 hc e2 hp e3 hn eL hl eT ht H f (k + 1) _ _ (by omega) (by omega) f1 (fun j hj => ?_)
        rw [sgl2, if_pos rfl]
        by_cases u : j = k
        · rw [if_pos u, u]
          exact ew
        · rw [if_neg u]
          exact f2 j (by omega)
      refine fun _ _ => ⟨fun z _ _ => nx _ ?_, fun z _ _ => nx _ ?_⟩
      · show _ = (((if k = l then 1 else 0 : Nat)) : Int)
        rw [if_neg (by omega)]
        decide
      · show _ = (((if k = l then 1 else 0 : Nat)) : Int)
        rw [if_pos (by omega)]
        decide
theorem pr_drawnSo : pr2 103 195 4 JC := by
  intro as hl hv h ht hJ
  match as, hl, hv with
  | [v1, v2, v3, v4], hl, hv =>
    obtain ⟨a, rfl⟩ := hv v1 (by simp)
    obtain ⟨b, rfl⟩ := hv v2 (by simp)
    obtain ⟨n, rfl⟩ := hv v3 (by simp)
    obtain ⟨w, rfl⟩ := hv v4 (by simp)
    have kp : ∀ h' : zH, h'.1 = h.1 → JC h' := fun h' e => JC_fr (fun q _ _ => by rw [e]) (by rw [e]) (by rw [e]) (by rw [e]) hJ
    by_cases hs : nowG h 61 = 1
    · obtain ⟨C, cS, cF⟩ := JC_1 hJ hs
      obtain ⟨c1, c2, c3, c4, c5, c6, c7, -⟩ := id C
      obtain ⟨w1, w2, -⟩ := id c2
      have k10 : (Int32.ofInt 10).toInt = 10 := by decide
      have REF : ∀ P : Option Value → zH → Prop, (¬ ((0 ≤ a.toInt ∧ a.toInt < 15) ∧ (0 ≤ b.toInt ∧ b.toInt ≤ 10) ∧ (0 ≤ n.toInt ∧ n.toInt ≤ 6) ∧ 0 ≤ w.toInt ∧ w.toInt ≤ 1) → P (some (.long (-1000001 : Int64))) h) → (∀ c p l t N : Nat, a.toInt = (c : Int) → c < 15 → b.toInt = (p : Int) → p < 11 → n.toInt = (N : Int) → N < 7 → nowG h c = (l : Int) → l < 4 → nowG h (15 + c) = (t : Int) → t < 4 → (0 ≤ w.toInt ∧ w.toInt ≤ 1) → ∀ (v : Int64) (h' : zH), h'.1 = h.1 → v.toInt = fr ((vS p l N t : Nat) : Int) (10 ^ N) (!decide (w.toInt = 0)) → P (some (.long v)) h') → zqm 195 [.ref 58, .int a, .int b, .int n, .int w] h P := fun P kB k0 => by
        refine s_195 a b n w (fun f => ?_)
        refine q_150 ?_
        refine zri_int ⟨fun _ => ?_, fun t => absurd hs (zb2.mp t)⟩
        refine q_151 a ?_
        refine zri_int ⟨fun t => kB (fun y => zb0.mp t y.1), fun t => ?_⟩
        have t := zb1.mp t
        refine q_121 _ _ _ ?_
        rw [kc_0, k10]
        refine zri_int ⟨fun u => kB (fun y => zb0.mp u y.2.1), fun u => ?_⟩
        have u := zb1.mp u
        refine q_121 _ _ _ ?_
        rw [kc_0, kc_6]
        refine zri_int ⟨fun x => kB (fun y => zb0.mp x y.2.2.1), fun x => ?_⟩
        have x := zb1.mp x
        refine q_121 _ _ _ ?_
        rw [kc_0, kc_1]
        refine zri_int ⟨fun y => ?_, fun y => kB (fun z => zb2.mp y z.2.2.2)⟩
        have y := zb1.mp y
        obtain ⟨c, ec⟩ : ∃ c : Nat, a.toInt = (c : Int) := ⟨a.toInt.toNat, by omega⟩
        obtain ⟨p, ep⟩ : ∃ p : Nat, b.toInt = (p : Int) := ⟨b.toInt.toNat, by omega⟩
        obtain ⟨N, eN⟩ : ∃ N : Nat, n.toInt = (N : Int) := ⟨n.toInt.toNat, by omega⟩
        have r := w1 c (by omega)
        obtain ⟨l, el⟩ : ∃ l : Nat, nowG h c = (l : Int) := ⟨(nowG h c).toNat, by omega⟩
        obtain ⟨s, es⟩ : ∃ s : Nat, nowG h (15 + c) = (s : Int) := ⟨(nowG h (15 + c)).toNat, by omega⟩
        exact l_195_64 a b n w c p l s N ec (by omega) ep (by omega) eN (by omega) el (by omega) es (by omega) (k0 c p l s N ec (by omega) ep (by omega) eN (by omega) el (by omega) es (by omega) y) f 0 _ h kc_0 (by omega) rfl (fun j hj => by omega)
      have BAD : ¬ ((0 ≤ a.toInt ∧ a.toInt < 15) ∧ (0 ≤ b.toInt ∧ b.toInt ≤ 10) ∧ (0 ≤ n.toInt ∧ n.toInt ≤ 6) ∧ 0 ≤ w.toInt ∧ w.toInt ≤ 1) → (hTy h → zqm 195 [.ref 58, .int a, .int b, .int n, .int w] h (fun rv' h2 => hTy h2 → rv' = some (.long (-1000001 : Int64)) ∧ JC h2)) := fun nb _ => by
        refine REF _ (fun _ _ => ⟨rfl, hJ⟩) (fun c p l t N e1 e2 e3 e4 e5 e6 _ _ _ _ e7 => absurd ⟨by omega, by omega, by omega, e7⟩ nb)
      refine s_103 a b n w ⟨fun _ => ?_, fun z => absurd (by rw [c3]; decide) z⟩
      refine q_119 a (zri_int ⟨fun z => BAD (fun y => zb0.mp z y.1), fun z => ⟨fun y => BAD (fun x => by omega), fun y => ⟨fun x => BAD (fun u => by omega), fun x => ⟨fun u => BAD (fun v => by omega), fun u => ⟨fun v => BAD (fun s => by omega), fun v => ?_⟩⟩⟩⟩⟩)
      have z := zb1.mp z
      refine q_120 w (zri_int ⟨fun s => ?_, fun s => BAD (fun q => zb2.mp s q.2.2.2)⟩)
      have s := zb1.mp s
      obtain ⟨c, ec⟩ : ∃ c : Nat, a.toInt = (c : Int) := ⟨a.toInt.toNat, by omega⟩
      obtain ⟨p, ep⟩ : ∃ p : Nat, b.toInt = (p : Int) := ⟨b.toInt.toNat, by omega⟩
      obtain ⟨N, eN⟩ : ∃ N : Nat, n.toInt = (N : Int) := ⟨n.toInt.toNat, by omega⟩
      have hc : c < 15 := by omega
      have r := w1 c hc
      obtain ⟨l, el⟩ : ∃ l : Nat, nowG h c = (l : Int) := ⟨(nowG h c).toNat, by omega⟩
      obtain ⟨t, es⟩ : ∃ t : Nat, nowG h (15 + c) = (t : Int) := ⟨(nowG h (15 + c)).toNat, by omega⟩
      refine q_48 c7 ec hc r.2.1.1 r.2.1.2 (fun v10 e10 => zri_int ?_)
      refine q_48 c6 ec hc r.1.1 r.1.2 (fun v11 e11 => zri_int ?_)
      have e10 : v10.toInt = (t : Int) := e10.trans es
      have e11 : v11.toInt = (l : Int) := e11.trans el
      refine q_218 _ t l (by rw [x_nI e10 (by omega), x_nI e11 (by omega)]) (by omega) (by omega) (fun v12 e12 => zri_int ?_)
      refine s_41 v12 b n (fun f => l_41 v12 b n ((t + 4 - l) % 4) p N e12 (by omega) ep (by omega) eN (by omega) (fun v13 e13 => zri_int ?_) f 0 _ _ _ kc_0 (by omega) kc_0 kc_1)
      refine q_40 _ n 10 N (by decide) eN (by omega) (by omega) (fun v14 e14 => zri_int ?_)
      have wb := wy_b ((t + 4 - l) % 4) (by omega) p (by omega) N (by omega) (N + 1) (by omega)
      refine q_38 v13 v14 w (10 ^ N) (by omega) (by omega) e14 (Nat.one_le_pow _ _ (by decide)) (pw_b (by omega) (by omega)) (fun v15 e15 => zri_int ?_)
      rw [e13, ← wy_v p (by omega) N (by omega) l (by omega) t (by omega)] at e15
      intro _
      refine REF _ (fun nb => absurd ⟨z, by omega, by omega, s⟩ nb) (fun c' p' l' t' N' e1 _ e2 _ e3 _ e4 _ e5 _ _ v h' f ev _ => ⟨vl ?_, kp h' f⟩)
      have : c' = c := by omega
      subst this
      have : p' = p := by omega
      subst this
      have : N' = N := by omega
      subst this
      have : l' = l := by omega
      subst this
      have : t' = t := by omega
      subst this
      rw [ev, Jvm.Kit.i64_of_i32, e15]
    · obtain ⟨z1, z2⟩ := JC_0 hJ hs
      refine s_103 a b n w ⟨fun z => absurd (z2 0 (by decide)) z, fun _ _ => ?_⟩
      refine s_195 a b n w (fun f => ?_)
      refine q_150 ?_
      exact zri_int ⟨fun z => absurd (zb1.mp z) hs, fun _ _ => ⟨rfl, hJ⟩⟩

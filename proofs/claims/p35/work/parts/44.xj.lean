/-! seams, and who feels them -/
def adj (c d : Nat) : Bool := decide ((c % 5 = d % 5 ∧ (c / 5 = d / 5 + 1 ∨ d / 5 = c / 5 + 1)) ∨ (c / 5 = d / 5 ∧ (c % 5 = d % 5 + 1 ∨ d % 5 = c % 5 + 1)))
def anyc (n : Nat) (p : Nat → Bool) : Bool := (List.range n).any p
theorem anyc_s (n : Nat) (p : Nat → Bool) : anyc (n + 1) p = (anyc n p || p n) := by
  unfold anyc
  rw [List.range_succ, List.any_append]
  simp
theorem anyc_t {n : Nat} {p : Nat → Bool} : anyc n p = true ↔ ∃ d, d < n ∧ p d = true := by
  unfold anyc
  rw [List.any_eq_true]
  constructor
  · rintro ⟨x, hx, hp⟩
    exact ⟨x, List.mem_range.mp hx, hp⟩
  · rintro ⟨x, hx, hp⟩
    exact ⟨x, List.mem_range.mpr hx, hp⟩
theorem anyc_c {n : Nat} {p q : Nat → Bool} (h : ∀ d, d < n → p d = q d) : anyc n p = anyc n q := by
  rw [Bool.eq_iff_iff, anyc_t, anyc_t]
  constructor
  · rintro ⟨d, hd, hp⟩
    exact ⟨d, hd, by rw [← h d hd]; exact hp⟩
  · rintro ⟨d, hd, hp⟩
    exact ⟨d, hd, by rw [h d hd]; exact hp⟩
def smB (D : Nat → Int) (c : Nat) : Bool := anyc 15 fun e => adj c e && !decide (D e = D c)
def flB (D : Nat → Int) (m : Int) (c : Nat) : Bool := decide (D c = m) || (smB D c && anyc 15 fun e => adj c e && decide (D e = m))
theorem q_124 {h : zH} {Q : Option Value → zH → Prop} (a0 : Int32) (hb : -1000000000 < a0.toInt) (H : ∀ v : Int32, (0 ≤ a0.toInt → v.toInt = a0.toInt) → (a0.toInt < 0 → v.toInt = -a0.toInt) → Q (some (.int v)) h) : zqm 124 [.int a0] h Q := by
  refine s_124 a0 ⟨fun c => H _ (fun _ => rfl) (fun z => by omega), fun c => H _ (fun z => by omega) (fun _ => Jvm.Kit.i32_neg (by omega))⟩
theorem dv5 : ∀ c, c < 15 → (nI c / Int32.ofInt 5).toInt = ((c / 5 : Nat) : Int) ∧ (nI c - nI c / Int32.ofInt 5 * Int32.ofInt 5).toInt = ((c % 5 : Nat) : Int) := by decide
theorem q_153 {h : zH} {Q : Option Value → zH → Prop} (a0 a1 : Int32) (c d : Nat) (e0 : a0.toInt = (c : Int)) (e1 : a1.toInt = (d : Int)) (hc : c < 15) (hd : d < 15) (H : Q (some (.int (zbo (adj c d = true)))) h) : zqm 153 [.int a0, .int a1] h Q := by
  have x0 := x_nI e0 (by omega)
  have x1 := x_nI e1 (by omega)
  subst x0
  subst x1
  obtain ⟨c1, c2⟩ := dv5 c hc
  obtain ⟨d1, d2⟩ := dv5 d hd
  have s1 := wk_sub c2 d2 (by omega) (by omega)
  have s2 := wk_sub c1 d1 (by omega) (by omega)
  refine s_153 _ _ ?_
  refine q_124 _ (by omega) (fun v1 p1 p2 => ?_)
  refine zri_int ?_
  refine q_124 _ (by omega) (fun v2 p3 p4 => ?_)
  refine zri_int ?_
  rw [s1] at p1 p2
  rw [s2] at p3 p4
  have hv1 : v1.toInt = if 0 ≤ ((c % 5 : Nat) : Int) - ((d % 5 : Nat) : Int) then ((c % 5 : Nat) : Int) - ((d % 5 : Nat) : Int) else -(((c % 5 : Nat) : Int) - ((d % 5 : Nat) : Int)) := by
    split
    · exact p1 (by assumption)
    · exact p2 (by omega)
  have hv2 : v2.toInt = if 0 ≤ ((c / 5 : Nat) : Int) - ((d / 5 : Nat) : Int) then ((c / 5 : Nat) : Int) - ((d / 5 : Nat) : Int) else -(((c / 5 : Nat) : Int) - ((d / 5 : Nat) : Int)) := by
    split
    · exact p3 (by assumption)
    · exact p4 (by omega)
  have hs : (v1 + v2).toInt = v1.toInt + v2.toInt := wk_add rfl rfl (by split at hv1 <;> split at hv2 <;> omega) (by split at hv1 <;> split at hv2 <;> omega)
  have key : (v1 + v2).toInt = 1 ↔ adj c d = true := by
    unfold adj
    rw [decide_eq_true_eq, hs]
    split at hv1 <;> split at hv2 <;> omega
  refine ⟨fun z => ?_, fun z => ?_⟩
  · rw [zbF (fun y => z (key.mpr y))] at H; exact H
  · rw [zbT (key.mp (Decidable.not_not.mp z))] at H; exact H
theorem oI30 {y : Int32} {k : Nat} (e : y.toInt = (k : Int)) (hk : k < 15) : (Int32.ofInt 30 + y).toInt = ((30 + k : Nat) : Int) := by
  rw [wk_add kc_30 e (by omega) (by omega)]
  omega
theorem n30 (k : Nat) : (((30 + k : Nat) : Int)).toNat = 30 + k := by omega
/-- the reference's seams -/
theorem l_155a {Q : Option Value → zH → Prop} (D : Nat → Int) (g : zH) (hD : ∀ c : Nat, c < 15 → (g.1 64 (30 + c)).toInt = D c)
    (H : ∀ (n : Nat) (o2 : Option Value) (h' : zH), (∀ q, q ≠ 58 → h'.1 q = g.1 q) → (∀ j, j ≠ 13 → h'.1 58 j = g.1 58 j) → h'.1 58 13 = mkm (smB D) 15 → zQ n 155 80 [some (.ref 58), some (.int (Int32.ofInt 0)), o2, none] [] h' Q) :
    ∀ (n : Nat), (∀ (c : Nat) (x1 : Int32) (o2 : Option Value) (h : zH), x1.toInt = (c : Int) → c ≤ 15 → (∀ q, q ≠ 58 → h.1 q = g.1 q) → (∀ j, j ≠ 13 → h.1 58 j = g.1 58 j) → (∀ i, i < 32 → bt (h.1 58 13) i = (decide (i < c) && smB D i)) → zQ n 155 7 [some (.ref 58), some (.int x1), o2, none] [] h Q) ∧
      (∀ (c d : Nat) (x1 x2 : Int32) (h : zH), x1.toInt = (c : Int) → c < 15 → x2.toInt = (d : Int) → d ≤ 15 → (∀ q, q ≠ 58 → h.1 q = g.1 q) → (∀ j, j ≠ 13 → h.1 58 j = g.1 58 j) → (∀ i, i < 32 → bt (h.1 58 13) i = ((decide (i < c) && smB D i) || (decide (i = c) && anyc d fun e => adj c e && !decide (D e = D c)))) → zQ n 155 15 [some (.ref 58), some (.int x1), some (.int x2), none] [] h Q)
  | 0 => ⟨fun _ _ _ _ _ _ _ _ _ => zQ_zero, fun _ _ _ _ _ _ _ _ _ _ _ _ => zQ_zero⟩
  | n + 1 => by
    obtain ⟨ih1, ih2⟩ := l_155a D g hD H n
    refine ⟨fun c x1 o2 h e1 hc f1 f2 f3 => ?_, fun c d x1 x2 h e1 hc e2 hd f1 f2 f3 => ?_⟩
    · refine s_155_7 x1 o2 ⟨fun z => ?_, fun z => ?_⟩
      · have c15 : c = 15 := by omega
        subst c15
        exact H n o2 h f1 f2 (mkm_eq (by omega) f3)
      · refine ih2 c 0 x1 _ h e1 (by omega) kc_0 (by omega) f1 f2 (fun i hi => ?_)
        rw [f3 i hi]
        show _ = (_ || (decide (i = c) && false))
        rw [Bool.and_false, Bool.or_false]
    · refine s_155_15 x1 x2 ⟨fun z => ?_, fun z => ?_⟩
      · have d15 : d = 15 := by omega
        subst d15
        have e1' := ai (x := x1) (k := 1) (by omega) (by omega) (by omega) (by omega)
        refine ih1 (c + 1) _ _ h (by omega) (by omega) f1 f2 (fun i hi => ?_)
        rw [f3 i hi]
        by_cases y : i = c
        · subst y
          rw [decide_eq_false (show ¬ i < i by omega), decide_eq_true (rfl : i = i), decide_eq_true (show i < i + 1 by omega)]
          simp [smB]
        · rw [decide_eq_false y, Bool.false_and, Bool.or_false]
          by_cases w : i < c
          · rw [decide_eq_true w, decide_eq_true (show i < c + 1 by omega)]
          · rw [decide_eq_false w, decide_eq_false (show ¬ i < c + 1 by omega)]
      · have e2' := ai (x := x2) (k := 1) (by omega) (by omega) (by omega) (by omega)
        -- what the next place of the loop wants
        have nx : ∀ w : Int32, (∀ i, i < 32 → bt w i = (bt (h.1 58 13) i || (decide (i = c) && (adj c d && !decide (D d = D c))))) → zQ n 155 15 [some (.ref 58), some (.int x1), some (.int (x2 + Int32.ofInt 1)), none] [] (zSet h 58 13 w) Q := fun w hw => by
          refine ih2 c (d + 1) x1 _ _ e1 hc (by omega) (by omega) (fun q hq => by rw [fr1 hq, f1 q hq]) (fun j hj => by rw [fr2 hj, f2 j hj]) (fun i hi => ?_)
          rw [fr3, hw i hi, f3 i hi, anyc_s]
          cases decide (i < c) <;> cases smB D i <;> cases decide (i = c) <;> simp
        refine q_153 x1 x2 c d e1 e2 hc (by omega) ?_
        refine zri_int ?_
        have o : ∀ i, i < 32 → bt (h.1 58 13 ||| Int32.ofInt 0) i = (bt (h.1 58 13) i || (decide (i = c) && false)) := fun i hi => by
          rw [b_or, bt_0, Bool.and_false]
        refine ⟨fun y => ?_, fun y => ?_⟩
        · have y := zb0.mp y
          refine nx _ (fun i hi => ?_)
          rw [o i hi, Bool.eq_false_iff.mpr y]
          rfl
        · have y := zb1.mp y
          rw [oI30 e2 (by omega), oI30 e1 hc, n30, n30]
          intro _ _ _ _
          rw [f1 64 (by decide), hD d (by omega), hD c hc]
          refine ⟨fun u => nx _ (fun i hi => ?_), fun u => nx _ (fun i hi => ?_)⟩
          · rw [o i hi, y, decide_eq_true u]
            rfl
          · rw [b_or, bt_1shl e1 (by omega) hi, y, decide_eq_false u]
            simp
theorem q_122 {h : zH} {Q : Option Value → zH → Prop} (a0 a1 : Int32) (k : Nat) (e : a1.toInt = (k : Int)) (hk : k < 32) (H : Q (some (.int (zbo (bt a0 k = true)))) h) : zqm 122 [.int a0, .int a1] h Q := by
  refine s_122 a0 a1 ?_
  rw [bt_has e hk]
  cases hb : bt a0 k with
  | true =>
    rw [hb, zbT rfl] at H
    exact ⟨fun z => absurd rfl z, fun _ => H⟩
  | false =>
    rw [hb, zbF (by decide)] at H
    exact ⟨fun _ => H, fun z => absurd (by decide : ¬ (if false = true then (1 : Int) else 0) = 1) z⟩
theorem q_154 {h : zH} {Q : Option Value → zH → Prop} (a1 : Int32) (k : Nat) (e : a1.toInt = (k : Int)) (hk : k < 32) (H : Q (some (.int (zbo (bt (h.1 58 13) k = true)))) h) : zqm 154 [.ref 58, .int a1] h Q := by
  refine s_154 a1 ?_
  exact q_122 _ a1 k e hk (zri_int H)
theorem o45 {y : Int32} {k : Nat} (e : y.toInt = (k : Int)) (hk : k < 5) : (Int32.ofInt 45 + Int32.ofInt 3 * y).toInt = ((45 + 3 * k : Nat) : Int) := by
  rw [wk_add kc_45 (wk_mul kc_3 e (by omega) (by omega)) (by omega) (by omega)]
  omega
theorem n45 (k : Nat) : (((45 + 3 * k : Nat) : Int)).toNat = 45 + 3 * k := by omega
theorem q_159 {h : zH} {Q : Option Value → zH → Prop} (a1 : Int32) (k : Nat) (e : a1.toInt = (k : Int)) (hk : k < 5) (H : Q (some (.int (h.1 64 (45 + 3 * k + 1)))) h) : zqm 159 [.ref 58, .int a1] h Q := by
  refine s_159 a1 ?_
  rw [wk_add (o45 e hk) kc_1 (by omega) (by omega), show (((45 + 3 * k : Nat) : Int) + 1).toNat = 45 + 3 * k + 1 by omega]
  exact fun _ _ => H
theorem q_158 {h : zH} {Q : Option Value → zH → Prop} (a1 : Int32) (k : Nat) (e : a1.toInt = (k : Int)) (hk : k < 5) (H : Q (some (.int (h.1 64 (45 + 3 * k)))) h) : zqm 158 [.ref 58, .int a1] h Q := by
  refine s_158 a1 ?_
  rw [o45 e hk, n45]
  exact fun _ _ => H
theorem q_160 {h : zH} {Q : Option Value → zH → Prop} (a1 : Int32) (k : Nat) (e : a1.toInt = (k : Int)) (hk : k < 5) (H : Q (some (.int (h.1 64 (45 + 3 * k + 2)))) h) : zqm 160 [.ref 58, .int a1] h Q := by
  refine s_160 a1 ?_
  rw [wk_add (o45 e hk) kc_2 (by omega) (by omega), show (((45 + 3 * k : Nat) : Int) + 2).toNat = 45 + 3 * k + 2 by omega]
  exact fun _ _ => H
/-- what the reference's men feel -/
theorem l_155b {Q : Option Value → zH → Prop} (D E : Nat → Int) (K : Nat) (g : zH) (hD : ∀ c : Nat, c < 15 → (g.1 64 (30 + c)).toInt = D c) (hE : ∀ s : Nat, s < K → (g.1 64 (45 + 3 * s + 1)).toInt = E s) (hK : (g.1 64 57).toInt = (K : Int)) (K4 : K ≤ 4) (hS : g.1 58 13 = mkm (smB D) 15)
    (H : ∀ (h' : zH), (∀ q, q ≠ 66 → h'.1 q = g.1 q) → (∀ s : Nat, s < K → h'.1 66 s = mkm (flB D (E s)) 15) → Q none h') :
    ∀ (n : Nat), (∀ (s : Nat) (x1 : Int32) (o2 o3 : Option Value) (h : zH), x1.toInt = (s : Int) → s ≤ K → (∀ q, q ≠ 66 → h.1 q = g.1 q) → (∀ j : Nat, j < s → h.1 66 j = mkm (flB D (E j)) 15) → zQ n 155 80 [some (.ref 58), some (.int x1), o2, o3] [] h Q) ∧
      (∀ (s c : Nat) (x1 x2 : Int32) (o3 : Option Value) (h : zH), x1.toInt = (s : Int) → s < K → x2.toInt = (c : Int) → c ≤ 15 → (∀ q, q ≠ 66 → h.1 q = g.1 q) → (∀ j : Nat, j < s → h.1 66 j = mkm (flB D (E j)) 15) → (∀ i, i < 32 → bt (h.1 66 s) i = (decide (i < c) && flB D (E s) i)) → zQ n 155 100 [some (.ref 58), some (.int x1), some (.int x2), o3] [] h Q) ∧
      (∀ (s c d : Nat) (x1 x2 x3 : Int32) (h : zH), x1.toInt = (s : Int) → s < K → x2.toInt = (c : Int) → c < 15 → x3.toInt = (d : Int) → d ≤ 15 → (∀ q, q ≠ 66 → h.1 q = g.1 q) → (∀ j : Nat, j < s → h.1 66 j = mkm (flB D (E j)) 15) → (∀ i, i < 32 → bt (h.1 66 s) i = ((decide (i < c) && flB D (E s) i) || (decide (i = c) && (decide (D c = E s) || (smB D c && anyc d fun e => adj c e && decide (D e = E s)))))) → zQ n 155 141 [some (.ref 58), some (.int x1), some (.int x2), some (.int x3)] [] h Q)
  | 0 => ⟨fun _ _ _ _ _ _ _ _ _ => zQ_zero, fun _ _ _ _ _ _ _ _ _ _ _ _ _ => zQ_zero, fun _ _ _ _ _ _ _ _ _ _ _ _ _ _ _ _ => zQ_zero⟩
  | n + 1 => by
    obtain ⟨ih1, ih2, ih3⟩ := l_155b D E K g hD hE hK K4 hS H n
    refine ⟨fun s x1 o2 o3 h e1 hs f1 f2 => ?_, fun s c x1 x2 o3 h e1 hs e2 hc f1 f2 f3 => ?_, fun s c d x1 x2 x3 h e1 hs e2 hc e3 hd f1 f2 f3 => ?_⟩
    · refine s_155_80 x1 o2 o3 ?_
      rw [f1 64 (by decide), hK]
      refine ⟨fun z => H h f1 (fun j hj => f2 j (by omega)), fun z b1 b2 => ?_⟩
      refine ih2 s 0 x1 _ o3 _ e1 (by omega) kc_0 (by omega) (fun q hq => by rw [fr1 hq, f1 q hq]) (fun j hj => ?_) (fun i hi => ?_)
      · rw [fr2 (by omega)]; exact f2 j hj
      · rw [show x1.toInt.toNat = s by omega, fr3, bt_0]
        rfl
    · refine s_155_100 x1 x2 o3 ⟨fun z => ?_, fun z b1 b2 => ?_⟩
      · have c15 : c = 15 := by omega
        subst c15
        have e1' := ai (x := x1) (k := 1) (by omega) (by omega) (by omega) (by omega)
        refine ih1 (s + 1) _ _ o3 h (by omega) (by omega) f1 (fun j hj => ?_)
        by_cases y : j = s
        · subst y
          exact mkm_eq (by omega) f3
        · exact f2 j (by omega)
      · rw [oI30 e2 (by omega), n30]
        intro b3 b4
        refine q_159 x1 s e1 (by omega) ?_
        refine zri_int ?_
        rw [f1 64 (by decide), hD c (by omega), hE s hs, show x1.toInt.toNat = s by omega]
        have nx : ∀ w : Int32, (∀ i, i < 32 → bt w i = (bt (h.1 66 s) i || (decide (i = c) && decide (D c = E s)))) → zQ n 155 141 [some (.ref 58), some (.int x1), some (.int x2), some (.int (Int32.ofInt 0))] [] (zSet h 66 s w) Q := fun w hw => by
          refine ih3 s c 0 x1 x2 _ _ e1 hs e2 (by omega) kc_0 (by omega) (fun q hq => by rw [fr1 hq, f1 q hq]) (fun j hj => by rw [fr2 (by omega)]; exact f2 j hj) (fun i hi => ?_)
          rw [fr3, hw i hi, f3 i hi]
          show _ = (_ || (_ && (_ || (_ && false))))
          rw [Bool.and_false, Bool.or_false]
        refine ⟨fun y _ _ => nx _ (fun i hi => ?_), fun y _ _ => nx _ (fun i hi => ?_)⟩
        · rw [b_or, bt_0, decide_eq_false y, Bool.and_false]
        · rw [b_or, bt_1shl e2 (by omega) hi, decide_eq_true (Decidable.not_not.mp y), Bool.and_true]
    · refine s_155_141 x1 x2 x3 ⟨fun z => ?_, fun z b1 b2 => ?_⟩
      · have d15 : d = 15 := by omega
        subst d15
        have e2' := ai (x := x2) (k := 1) (by omega) (by omega) (by omega) (by omega)
        refine ih2 s (c + 1) x1 _ _ h e1 hs (by omega) (by omega) f1 f2 (fun i hi => ?_)
        rw [f3 i hi]
        by_cases y : i = c
        · subst y
          rw [decide_eq_false (show ¬ i < i by omega), decide_eq_true (rfl : i = i), decide_eq_true (show i < i + 1 by omega)]
          simp [flB]
        · rw [decide_eq_false y, Bool.false_and, Bool.or_false]
          by_cases w : i < c
          · rw [decide_eq_true w, decide_eq_true (show i < c + 1 by omega)]
          · rw [decide_eq_false w, decide_eq_false (show ¬ i < c + 1 by omega)]
      · have e3' := ai (x := x3) (k := 1) (by omega) (by omega) (by omega) (by omega)
        rw [show x1.toInt.toNat = s by omega]
        have nx : ∀ w : Int32, (∀ i, i < 32 → bt w i = (bt (h.1 66 s) i || (decide (i = c) && (smB D c && (adj c d && decide (D d = E s)))))) → zQ n 155 141 [some (.ref 58), some (.int x1), some (.int x2), some (.int (x3 + Int32.ofInt 1))] [] (zSet h 66 s w) Q := fun w hw => by
          refine ih3 s c (d + 1) x1 x2 _ _ e1 hs e2 hc (by omega) (by omega) (fun q hq => by rw [fr1 hq, f1 q hq]) (fun j hj => by rw [fr2 (by omega)]; exact f2 j hj) (fun i hi => ?_)
          rw [fr3, hw i hi, f3 i hi, anyc_s]
          cases decide (i < c) <;> cases flB D (E s) i <;> cases decide (i = c) <;> cases decide (D c = E s) <;> cases smB D c <;> simp
        have o : ∀ i, i < 32 → bt (h.1 66 s ||| Int32.ofInt 0) i = (bt (h.1 66 s) i || (decide (i = c) && false)) := fun i hi => by
          rw [b_or, bt_0, Bool.and_false]
        refine q_154 x2 c e2 (by omega) ?_
        refine zri_int ?_
        rw [f1 58 (by decide), hS, mkm_bt _ _ (by omega) c (by omega), decide_eq_true hc, Bool.true_and]
        refine ⟨fun y _ _ => nx _ (fun i hi => ?_), fun y => ?_⟩
        · rw [o i hi, Bool.eq_false_iff.mpr (zb0.mp y)]
          rfl
        · have y := zb1.mp y
          refine q_153 x2 x3 c d e2 e3 hc (by omega) ?_
          refine zri_int ?_
          refine ⟨fun u _ _ => nx _ (fun i hi => ?_), fun u => ?_⟩
          · rw [o i hi, y, Bool.eq_false_iff.mpr (zb0.mp u)]
            rfl
          · have u := zb1.mp u
            rw [oI30 e3 (by omega), n30]
            intro b3 b4
            refine q_159 x1 s e1 (by omega) ?_
            refine zri_int ?_
            rw [f1 64 (by decide), hD d (by omega), hE s hs]
            refine ⟨fun v _ _ => nx _ (fun i hi => ?_), fun v _ _ => nx _ (fun i hi => ?_)⟩
            · rw [o i hi, y, u, decide_eq_false v]
              rfl
            · rw [b_or, bt_1shl e2 (by omega) hi, y, u, decide_eq_true (Decidable.not_not.mp v)]
              simp
theorem q_155 {h : zH} {Q : Option Value → zH → Prop} (D E : Nat → Int) (K : Nat) (hD : ∀ c : Nat, c < 15 → (h.1 64 (30 + c)).toInt = D c) (hE : ∀ s : Nat, s < K → (h.1 64 (45 + 3 * s + 1)).toInt = E s) (hK : (h.1 64 57).toInt = (K : Int)) (K4 : K ≤ 4)
    (H : ∀ (h' : zH), (∀ q, q ≠ 58 → q ≠ 66 → h'.1 q = h.1 q) → (∀ j, j ≠ 13 → h'.1 58 j = h.1 58 j) → h'.1 58 13 = mkm (smB D) 15 → (∀ s : Nat, s < K → h'.1 66 s = mkm (flB D (E s)) 15) → Q none h') : zqm 155 [.ref 58] h Q := by
  refine s_155 (fun n => ?_)
  refine (l_155a D (zSet h 58 13 (Int32.ofInt 0)) (fun c hc => by rw [fr1 (by decide)]; exact hD c hc) (fun n o2 h1 f1 f2 f3 => ?_) n).1 0 _ _ _ kc_0 (by omega) (fun _ _ => rfl) (fun _ _ => rfl) (fun i hi => by rw [fr3, bt_0]; rfl)
  have g64 : h1.1 64 = h.1 64 := by rw [f1 64 (by decide), fr1 (by decide)]
  refine (l_155b D E K h1 (fun c hc => by rw [g64]; exact hD c hc) (fun s hs => by rw [g64]; exact hE s hs) (by rw [g64]; exact hK) K4 f3 (fun h2 w1 w2 => ?_) n).1 0 _ _ _ _ kc_0 (by omega) (fun _ _ => rfl) (fun j hj => absurd hj (Nat.not_lt_zero j))
  refine H h2 (fun q c1 c2 => ?_) (fun j hj => ?_) ?_ w2
  · rw [w1 q c2, f1 q c1, fr1 c1]
  · rw [w1 58 (by decide), f2 j hj, fr2 hj]
  · rw [w1 58 (by decide), f3]

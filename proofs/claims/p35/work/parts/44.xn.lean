/-! acts: what is kept of a county, on both sides -/
def clA (h : zH) (n : Nat) (A : Nat → Nat → Int) : Prop := (h.1 48 4).toInt = (n : Int) ∧ n ≤ 24 ∧ ∃ x : Nat, (h.1 48 3).toInt = (x : Int) ∧ x < 24 ∧ ∀ i : Nat, i < n → pl (h.1 49 ((x + 24 - n + i) % 24)) (A i) ∧ pl (h.1 50 ((x + 24 - n + i) % 24)) (fun c => A i (15 + c)) ∧ (h.1 51 ((x + 24 - n + i) % 24)).toInt = A i 60
def rfA (h : zH) (n : Nat) (A : Nat → Nat → Int) : Prop := (h.1 58 12).toInt = (n : Int) ∧ n ≤ 24 ∧ ∀ i : Nat, i < n → ∀ k : Nat, k < 62 → (h.1 65 (62 * i + k)).toInt = A i k
def pushN (n : Nat) : Nat := if n < 24 then n + 1 else 24
def pushA (n : Nat) (A : Nat → Nat → Int) (G : Nat → Int) (i : Nat) : Nat → Int := if n < 24 then (if i = n then G else A i) else (if i = 23 then G else A (i + 1))
theorem clA_fr {h h' : zH} {n : Nat} {A : Nat → Nat → Int} (hf : ∀ q : Nat, 48 ≤ q → q < 52 → h'.1 q = h.1 q) (hA : clA h n A) : clA h' n A := by
  unfold clA
  rw [hf 48 (by omega) (by omega), hf 49 (by omega) (by omega), hf 50 (by omega) (by omega), hf 51 (by omega) (by omega)]
  exact hA
theorem rfA_fr {h h' : zH} {n : Nat} {A : Nat → Nat → Int} (h1 : h'.1 58 12 = h.1 58 12) (h2 : h'.1 65 = h.1 65) (hA : rfA h n A) : rfA h' n A := by
  unfold rfA
  rw [h1, h2]
  exact hA
theorem rem24 : ∀ c, c < 49 → (nI c - nI c / Int32.ofInt 24 * Int32.ofInt 24).toInt = ((c % 24 : Nat) : Int) := by decide
theorem rem24' {x : Int32} {c : Nat} (e : x.toInt = (c : Int)) (hc : c < 49) : (x - x / Int32.ofInt 24 * Int32.ofInt 24).toInt = ((c % 24 : Nat) : Int) := by
  rw [x_nI e (by omega)]
  exact rem24 c hc
theorem q_221 {h : zH} {Q : Option Value → zH → Prop} (a0 a1 : Int32) (H : ∀ v : Int32, v.toInt = (if a1.toInt < a0.toInt then a1.toInt else a0.toInt) → Q (some (.int v)) h) : zqm 221 [.int a0, .int a1] h Q := by
  refine s_221 a0 a1 ⟨fun c => H _ ?_, fun c => H _ ?_⟩
  · rw [if_pos c]
  · rw [if_neg c]
/-- an act is kept, by the class -/
theorem q_1 {h : zH} {Q : Option Value → zH → Prop} {n : Nat} {A : Nat → Nat → Int} {G : Nat → Int} (hA : clA h n A) (p1 : pl (h.1 15 3) G) (p2 : pl (h.1 15 4) (fun c => G (15 + c))) (p3 : (h.1 15 5).toInt = G 60) (H : ∀ h', (∀ q : Nat, (q < 48 ∨ 52 ≤ q) → h'.1 q = h.1 q) → clA h' (pushN n) (pushA n A G) → Q none h') : zqm 1 [.ref 48, .ref 15] h Q := by
  obtain ⟨a1, a2, x, a3, a4, a5⟩ := hA
  refine s_1 ⟨fun c => by exfalso; omega, fun c => ⟨fun d => ?_, fun d => by exfalso; omega⟩⟩
  have en : (h.1 48 3).toInt.toNat = x := by omega
  rw [en]
  intro _ _ _ _ _ _
  have k1 := ai (x := h.1 48 4) (k := 1) (by omega) (by omega) (by omega) (by omega)
  have x1 := ai (x := h.1 48 3) (k := 1) (by omega) (by omega) (by omega) (by omega)
  refine q_221 _ _ (fun v6 e6 => ?_)
  refine zri_int ?_
  rw [k1, kc_24, a1] at e6
  have r1 : ((h.1 48 3 + Int32.ofInt 1) - (h.1 48 3 + Int32.ofInt 1) / Int32.ofInt 24 * Int32.ofInt 24).toInt = (((x + 1) % 24 : Nat) : Int) := rem24' (by rw [x1, a3]; omega) (by omega)
  generalize (h.1 48 3 + Int32.ofInt 1) - (h.1 48 3 + Int32.ofInt 1) / Int32.ofInt 24 * Int32.ofInt 24 = w at r1
  have pn : v6.toInt = ((pushN n : Nat) : Int) := by
    rw [e6]
    unfold pushN
    by_cases z : n < 24
    · rw [if_pos z, if_neg (by omega)]; omega
    · rw [if_neg z, if_pos (by omega)]; rfl
  refine H _ (fun q hq => ?_) ⟨?_, ?_, (x + 1) % 24, ?_, by omega, fun i hi => ?_⟩
  · rw [fr1 (by omega), fr1 (by omega), fr1 (by omega), fr1 (by omega), fr1 (by omega)]
  · rw [fr3]; exact pn
  · unfold pushN; split <;> omega
  · rw [fr2 (by decide), fr3]; exact r1
  · have g49 : ∀ j, (zSet (zSet (zSet (zSet (zSet h 49 x (h.1 15 3)) 50 x (h.1 15 4)) 51 x (h.1 15 5)) 48 3 w) 48 4 v6).1 49 j = if j = x then h.1 15 3 else h.1 49 j := fun j => by
      rw [fr1 (by decide), fr1 (by decide), fr1 (by decide), fr1 (by decide), sg1, if_pos rfl]
    have g50 : ∀ j, (zSet (zSet (zSet (zSet (zSet h 49 x (h.1 15 3)) 50 x (h.1 15 4)) 51 x (h.1 15 5)) 48 3 w) 48 4 v6).1 50 j = if j = x then h.1 15 4 else h.1 50 j := fun j => by
      rw [fr1 (by decide), fr1 (by decide), fr1 (by decide), sg1, if_pos rfl, fr1 (show (50 : Nat) ≠ 49 by decide)]
    have g51 : ∀ j, (zSet (zSet (zSet (zSet (zSet h 49 x (h.1 15 3)) 50 x (h.1 15 4)) 51 x (h.1 15 5)) 48 3 w) 48 4 v6).1 51 j = if j = x then h.1 15 5 else h.1 51 j := fun j => by
      rw [fr1 (by decide), fr1 (by decide), sg1, if_pos rfl, fr1 (show (51 : Nat) ≠ 50 by decide), fr1 (show (51 : Nat) ≠ 49 by decide)]
    rw [g49, g50, g51]
    unfold pushN at hi ⊢
    unfold pushA
    by_cases z : n < 24
    · rw [if_pos z] at hi ⊢
      by_cases y : i = n
      · subst y
        rw [show ((x + 1) % 24 + 24 - (i + 1) + i) % 24 = x by omega, if_pos rfl, if_pos rfl, if_pos rfl]
        simp only [if_pos z, if_pos trivial]
        exact ⟨p1, p2, p3⟩
      · have ne : ¬ ((x + 1) % 24 + 24 - (n + 1) + i) % 24 = x := by omega
        have eq : ((x + 1) % 24 + 24 - (n + 1) + i) % 24 = (x + 24 - n + i) % 24 := by omega
        rw [if_neg ne, if_neg ne, if_neg ne, eq]
        simp only [if_pos z, if_neg y]
        exact a5 i (by omega)
    · rw [if_neg z] at hi ⊢
      have n24 : n = 24 := by omega
      subst n24
      by_cases y : i = 23
      · subst y
        rw [show ((x + 1) % 24 + 24 - 24 + 23) % 24 = x by omega, if_pos rfl, if_pos rfl, if_pos rfl]
        simp only [if_neg z, if_pos trivial]
        exact ⟨p1, p2, p3⟩
      · have ne : ¬ ((x + 1) % 24 + 24 - 24 + i) % 24 = x := by omega
        have eq : ((x + 1) % 24 + 24 - 24 + i) % 24 = (x + 24 - 24 + (i + 1)) % 24 := by omega
        rw [if_neg ne, if_neg ne, if_neg ne, eq]
        simp only [if_neg z, if_neg y]
        exact a5 (i + 1) (by omega)
/-- an act is taken back, by the class -/
theorem q_2 {h : zH} {Q : Option Value → zH → Prop} {n : Nat} {A : Nat → Nat → Int} (hA : clA h (n + 1) A) (H : ∀ h', (∀ q : Nat, q ≠ 15 → q ≠ 48 → h'.1 q = h.1 q) → (∀ j, j ≠ 3 → j ≠ 4 → j ≠ 5 → h'.1 15 j = h.1 15 j) → clA h' n A → pl (h'.1 15 3) (A n) → pl (h'.1 15 4) (fun c => A n (15 + c)) → (h'.1 15 5).toInt = A n 60 → Q none h') : zqm 2 [.ref 48, .ref 15] h Q := by
  obtain ⟨a1, a2, x, a3, a4, a5⟩ := hA
  have y1 : (h.1 48 3 + Int32.ofInt 24).toInt = (x : Int) + 24 := by rw [wk_add rfl kc_24 (by omega) (by omega), a3]
  have y2 : (h.1 48 3 + Int32.ofInt 24 - Int32.ofInt 1).toInt = ((x + 23 : Nat) : Int) := by rw [wk_sub y1 kc_1 (by omega) (by omega)]; omega
  have r := rem24' y2 (by omega)
  refine s_2 ?_
  generalize (h.1 48 3 + Int32.ofInt 24 - Int32.ofInt 1) - (h.1 48 3 + Int32.ofInt 24 - Int32.ofInt 1) / Int32.ofInt 24 * Int32.ofInt 24 = w at r ⊢
  refine ⟨fun z => by exfalso; omega, fun z => ⟨fun y => ?_, fun y => by exfalso; omega⟩⟩
  have en : w.toInt.toNat = (x + 23) % 24 := by omega
  rw [en]
  intro _ _ _ _ _ _
  have m1 := si (x := h.1 48 4) (k := 1) (by omega) (by omega) (by omega) (by omega)
  obtain ⟨b1, b2, b3⟩ := a5 n (by omega)
  rw [show (x + 24 - (n + 1) + n) % 24 = (x + 23) % 24 by omega] at b1 b2 b3
  refine H _ (fun q c1 c2 => ?_) (fun j c1 c2 c3 => ?_) ⟨?_, by omega, (x + 23) % 24, ?_, by omega, fun i hi => ?_⟩ ?_ ?_ ?_
  · rw [fr1 c2, fr1 c2, fr1 c1, fr1 c1, fr1 c1]
  · rw [fr1 (by decide), fr1 (by decide), fr2 c3, fr2 c2, fr2 c1]
  · rw [fr3, m1, a1]; omega
  · rw [fr2 (by decide), fr3, r]
  · have g : ∀ q : Nat, q ≠ 48 → q ≠ 15 → (zSet (zSet (zSet (zSet (zSet h 15 3 (h.1 49 ((x + 23) % 24))) 15 4 (h.1 50 ((x + 23) % 24))) 15 5 (h.1 51 ((x + 23) % 24))) 48 3 w) 48 4 (h.1 48 4 - Int32.ofInt 1)).1 q = h.1 q := fun q c1 c2 => by rw [fr1 c1, fr1 c1, fr1 c2, fr1 c2, fr1 c2]
    rw [g 49 (by decide) (by decide), g 50 (by decide) (by decide), g 51 (by decide) (by decide), show ((x + 23) % 24 + 24 - n + i) % 24 = (x + 24 - (n + 1) + i) % 24 by omega]
    exact a5 i (by omega)
  · rw [fr1 (by decide), fr1 (by decide), fr2 (by decide), fr2 (by decide), fr3]; exact b1
  · rw [fr1 (by decide), fr1 (by decide), fr2 (by decide), fr3]; exact b2
  · rw [fr1 (by decide), fr1 (by decide), fr3]; exact b3
theorem oI62 {y : Int32} {k : Nat} (e : y.toInt = (k : Int)) (hk : k < 5000) : (Int32.ofInt 62 + y).toInt = ((62 + k : Nat) : Int) := by
  rw [wk_add kc_62 e (by omega) (by omega)]
  omega
theorem mI62 {x y : Int32} {i k : Nat} (e : x.toInt = (i : Int)) (e' : y.toInt = (k : Int)) (hi : i < 30) (hk : k < 62) : (Int32.ofInt 62 * x + y).toInt = ((62 * i + k : Nat) : Int) := by
  rw [wk_add (wk_mul kc_62 e (by omega) (by omega)) e' (by omega) (by omega)]
  omega
theorem nat_c (k : Nat) : ((k : Nat) : Int).toNat = k := by omega
theorem l_148b {Q : Option Value → zH → Prop} (g : zH) (n : Nat) (hn : n < 24) (e12 : (g.1 58 12).toInt = (n : Int)) (H : ∀ h', (∀ q, q ≠ 65 → h'.1 q = g.1 q) → (∀ j : Nat, h'.1 65 j = if 62 * n ≤ j ∧ j < 62 * n + 62 then g.1 64 (j - 62 * n) else g.1 65 j) → Q none (zSet h' 58 12 (h'.1 58 12 + Int32.ofInt 1))) : ∀ (f c : Nat) (x1 : Int32) (h : zH), x1.toInt = (c : Int) → c ≤ 62 → (∀ q, q ≠ 65 → h.1 q = g.1 q) → (∀ j : Nat, h.1 65 j = if 62 * n ≤ j ∧ j < 62 * n + c then g.1 64 (j - 62 * n) else g.1 65 j) → zQ f 148 51 [some (.ref 58), some (.int x1)] [] h Q
  | 0, _, _, _, _, _, _, _ => zQ_zero
  | f + 1, c, x1, h, e, hc, f1, f2 => by
    refine s_148_51 x1 ⟨fun d => ?_, fun d b1 b2 => ?_⟩
    · have c62 : c = 62 := by omega
      subst c62
      exact H h f1 f2
    · rw [f1 58 (by decide), mI62 e12 e (by omega) (by omega), nat_c]
      intro b3 b4
      have e' := ai (x := x1) (k := 1) (by omega) (by omega) (by omega) (by omega)
      refine l_148b g n hn e12 H f (c + 1) _ _ (by omega) (by omega) (fun q hq => by rw [fr1 hq, f1 q hq]) (fun j => ?_)
      rw [sg1, if_pos rfl, f1 64 (by decide), show x1.toInt.toNat = c by omega]
      by_cases z : j = 62 * n + c
      · rw [if_pos z, if_pos (by omega), show j - 62 * n = c by omega]
      · rw [if_neg z, f2 j]
        by_cases y : 62 * n ≤ j ∧ j < 62 * n + c
        · rw [if_pos y, if_pos (by omega)]
        · rw [if_neg y, if_neg (by omega)]
theorem l_148a {Q : Option Value → zH → Prop} (g : zH) (H : ∀ (f : Nat) (h' : zH), (∀ q, q ≠ 65 → h'.1 q = g.1 q) → (∀ j : Nat, h'.1 65 j = if j < 1426 then g.1 65 (62 + j) else g.1 65 j) → zQ f 148 51 [some (.ref 58), some (.int (Int32.ofInt 0))] [] (zSet h' 58 12 (h'.1 58 12 - Int32.ofInt 1)) Q) : ∀ (f c : Nat) (x1 : Int32) (h : zH), x1.toInt = (c : Int) → c ≤ 1426 → (∀ q, q ≠ 65 → h.1 q = g.1 q) → (∀ j : Nat, h.1 65 j = if j < c then g.1 65 (62 + j) else g.1 65 j) → zQ f 148 11 [some (.ref 58), some (.int x1)] [] h Q
  | 0, _, _, _, _, _, _, _ => zQ_zero
  | f + 1, c, x1, h, e, hc, f1, f2 => by
    refine s_148_11 x1 ⟨fun d => ?_, fun d => ?_⟩
    · have c62 : c = 1426 := by omega
      subst c62
      exact H f h f1 f2
    · rw [oI62 e (by omega), nat_c]
      intro b1 b2 b3 b4
      have e' := ai (x := x1) (k := 1) (by omega) (by omega) (by omega) (by omega)
      refine l_148a g H f (c + 1) _ _ (by omega) (by omega) (fun q hq => by rw [fr1 hq, f1 q hq]) (fun j => ?_)
      rw [sg1, if_pos rfl, show x1.toInt.toNat = c by omega]
      by_cases z : j = c
      · rw [if_pos z, if_pos (by omega), f2 (62 + c), if_neg (by omega), z]
      · rw [if_neg z, f2 j]
        by_cases y : j < c
        · rw [if_pos y, if_pos (by omega)]
        · rw [if_neg y, if_neg (by omega)]
/-- an act is kept, by the reference -/
theorem q_148 {h : zH} {Q : Option Value → zH → Prop} {n : Nat} {A : Nat → Nat → Int} (hA : rfA h n A) (H : ∀ h', (∀ q : Nat, q ≠ 58 → q ≠ 65 → h'.1 q = h.1 q) → (∀ j, j ≠ 12 → h'.1 58 j = h.1 58 j) → rfA h' (pushN n) (pushA n A (nowG h)) → Q none h') : zqm 148 [.ref 58] h Q := by
  obtain ⟨a1, a2, a3⟩ := hA
  refine s_148 (fun f => ⟨fun c => ?_, fun c => ?_⟩)
  · have hn : n < 24 := by omega
    refine l_148b h n hn a1 (fun h1 f1 f2 => ?_) f 0 _ h kc_0 (by omega) (fun _ _ => rfl) (fun j => by rw [if_neg (by omega)])
    have e1 := ai (x := h.1 58 12) (k := 1) (by omega) (by omega) (by omega) (by omega)
    refine H _ (fun q c1 c2 => by rw [fr1 c1, f1 q c2]) (fun j hj => by rw [fr2 hj, f1 58 (by decide)]) ⟨?_, ?_, fun i hi k hk => ?_⟩
    · rw [fr3, f1 58 (by decide), e1, a1]
      unfold pushN
      rw [if_pos hn]; omega
    · unfold pushN; split <;> omega
    · unfold pushN at hi
      rw [if_pos hn] at hi
      rw [fr1 (by decide), f2]
      unfold pushA
      simp only [if_pos hn]
      by_cases y : i = n
      · subst y
        rw [if_pos (by omega), if_pos rfl, show 62 * i + k - 62 * i = k by omega]
        rfl
      · rw [if_neg (by omega), if_neg y]
        exact a3 i (by omega) k hk
  · have n24 : n = 24 := by omega
    subst n24
    refine l_148a h (fun f h1 f1 f2 => ?_) f 0 _ h kc_0 (by omega) (fun _ _ => rfl) (fun j => by rw [if_neg (by omega)])
    have m1 := si (x := h.1 58 12) (k := 1) (by omega) (by omega) (by omega) (by omega)
    have e23 : ((zSet h1 58 12 (h1.1 58 12 - Int32.ofInt 1)).1 58 12).toInt = ((23 : Nat) : Int) := by
      rw [fr3, f1 58 (by decide), m1, a1]; rfl
    refine l_148b _ 23 (by omega) e23 (fun h2 w1 w2 => ?_) f 0 _ _ kc_0 (by omega) (fun _ _ => rfl) (fun j => by rw [if_neg (by omega)])
    have e1 := wk_add e23 kc_1 (by omega) (by omega)
    refine H _ (fun q c1 c2 => by rw [fr1 c1, w1 q c2, fr1 c1, f1 q c2]) (fun j hj => by rw [fr2 hj, w1 58 (by decide), fr2 hj, f1 58 (by decide)]) ⟨?_, by decide, fun i hi k hk => ?_⟩
    · rw [fr3, w1 58 (by decide), e1]; decide
    · have hi : i < 24 := hi
      rw [fr1 (by decide), w2]
      unfold pushA
      simp only [if_neg (show ¬ 24 < 24 by omega)]
      by_cases y : i = 23
      · subst y
        rw [if_pos (by omega), if_pos rfl, fr1 (by decide), f1 64 (by decide), show 62 * 23 + k - 62 * 23 = k by omega]
        rfl
      · rw [if_neg (by omega), if_neg y, fr1 (by decide), f2, if_pos (by omega), show 62 + (62 * i + k) = 62 * (i + 1) + k by omega]
        exact a3 (i + 1) (by omega) k hk
theorem l_149 {Q : Option Value → zH → Prop} (g : zH) (n : Nat) (hn : n < 24) (e12 : (g.1 58 12).toInt = (n : Int)) (H : ∀ h', (∀ q, q ≠ 64 → h'.1 q = g.1 q) → (∀ j : Nat, j < 62 → h'.1 64 j = g.1 65 (62 * n + j)) → Q (some (.int (h'.1 58 12))) h') : ∀ (f c : Nat) (x1 : Int32) (h : zH), x1.toInt = (c : Int) → c ≤ 62 → (∀ q, q ≠ 64 → h.1 q = g.1 q) → (∀ j : Nat, j < c → h.1 64 j = g.1 65 (62 * n + j)) → zQ f 149 22 [some (.ref 58), some (.int x1)] [] h Q
  | 0, _, _, _, _, _, _, _ => zQ_zero
  | f + 1, c, x1, h, e, hc, f1, f2 => by
    refine s_149_22 x1 ⟨fun d => H h f1 (fun j hj => f2 j (by omega)), fun d => ?_⟩
    rw [f1 58 (by decide), mI62 e12 e (by omega) (by omega), nat_c]
    intro b1 b2 b3 b4
    have e' := ai (x := x1) (k := 1) (by omega) (by omega) (by omega) (by omega)
    refine l_149 g n hn e12 H f (c + 1) _ _ (by omega) (by omega) (fun q hq => by rw [fr1 hq, f1 q hq]) (fun j hj => ?_)
    rw [sg1, if_pos rfl, f1 65 (by decide), show x1.toInt.toNat = c by omega]
    by_cases z : j = c
    · rw [if_pos z, z]
    · rw [if_neg z]
      exact f2 j (by omega)
theorem q_149 {h : zH} {Q : Option Value → zH → Prop} {n : Nat} {A : Nat → Nat → Int} (hA : rfA h n A) (k1 : n = 0 → Q (some (.int (-1000002 : Int32))) h) (k2 : ∀ m, n = m + 1 → ∀ h', (∀ q : Nat, q ≠ 58 → q ≠ 64 → h'.1 q = h.1 q) → (∀ j, j ≠ 12 → h'.1 58 j = h.1 58 j) → rfA h' m A → (∀ k : Nat, k < 62 → nowG h' k = A m k) → Q (some (.int (h'.1 58 12))) h') : zqm 149 [.ref 58] h Q := by
  obtain ⟨a1, a2, a3⟩ := hA
  refine s_149 (fun f => ⟨fun c => ?_, fun c => k1 (by omega)⟩)
  obtain ⟨m, rfl⟩ : ∃ m, n = m + 1 := ⟨n - 1, by omega⟩
  have m1 := si (x := h.1 58 12) (k := 1) (by omega) (by omega) (by omega) (by omega)
  have em : ((zSet h 58 12 (h.1 58 12 - Int32.ofInt 1)).1 58 12).toInt = (m : Int) := by rw [fr3, m1, a1]; omega
  refine l_149 _ m (by omega) em (fun h1 f1 f2 => ?_) f 0 _ _ kc_0 (by omega) (fun _ _ => rfl) (fun j hj => absurd hj (Nat.not_lt_zero j))
  refine k2 m rfl h1 (fun q c1 c2 => by rw [f1 q c2, fr1 c1]) (fun j hj => by rw [f1 58 (by decide), fr2 hj]) ⟨by rw [f1 58 (by decide)]; exact em, by omega, fun i hi k hk => ?_⟩ (fun k hk => ?_)
  · rw [f1 65 (by decide), fr1 (by decide)]
    exact a3 i (by omega) k hk
  · show (h1.1 64 k).toInt = _
    rw [f2 k hk, fr1 (by decide)]
    exact a3 m (by omega) k hk

/-! a whole text, by the class -/
section PG
variable (T : Nat → Int32) (N : Int)
def e0 : Int × Int := law3 T N (0, 0)
def e1 : Int × Int := secE T N 109 97 100 (e0 T N)
def e2 : Int × Int := secE T N 110 97 100 (e1 T N)
def e3 : Int × Int := secE T N 99 101 103 (e2 T N)
def vLand : Nat → Int := itV T N 97 100 (secB T N 109 (e0 T N))
def vSheet : Nat → Int := itV T N 97 100 (secB T N 110 (e1 T N))
def vDist : Nat → Int := itV T N 101 103 (secB T N 99 (e2 T N))
/-- what the class has of a text that is read, ahead of what follows from it -/
def ctD (h : zH) (K : Nat) : Prop := (h.1 23 1).toInt = (law1 T N (0, 0)).2 ∧ (h.1 23 2).toInt = (law2 T N (0, 0)).2 ∧ pl (h.1 23 3) (vLand T N) ∧ pl (h.1 23 4) (vSheet T N) ∧ h.1 23 5 = Int32.ofInt 0 ∧ (h.1 23 6).toInt = (K : Int) ∧ (∀ d : Nat, d < 3 → h.1 24 d = mkm (fun c => decide (vDist T N c = (d : Int))) 15) ∧ ∀ j : Nat, j < K → (h.1 25 j).toInt = kd (pk T N (menS T N (e3 T N) j).1) ∧ (h.1 26 j).toInt = (man1 T N (menS T N (e3 T N) j)).2 ∧ (h.1 27 j).toInt = (man2 T N (menS T N (e3 T N) j)).2
end PG
theorem l_10 {Q : Option Value → zH → Prop} (g : zH) (H : ∀ h', (∀ q, q ≠ 24 → h'.1 q = g.1 q) → (∀ d : Nat, d < 3 → h'.1 24 d = Int32.ofInt 0) → Q none h') : ∀ (n c : Nat) (x1 : Int32) (h : zH), x1.toInt = (c : Int) → c ≤ 3 → (∀ q, q ≠ 24 → h.1 q = g.1 q) → (∀ d : Nat, d < c → h.1 24 d = Int32.ofInt 0) → zQ n 10 37 [some (.ref 23), some (.int x1)] [] h Q
  | 0, _, _, _, _, _, _, _ => zQ_zero
  | n + 1, c, x1, h, e, hc, f1, f2 => by
    refine s_10_37 x1 ⟨fun d => H h f1 (fun j hj => f2 j (by omega)), fun d b1 b2 => ?_⟩
    have e' := ai (x := x1) (k := 1) (by omega) (by omega) (by omega) (by omega)
    refine l_10 g H n (c + 1) _ _ (by omega) (by omega) (fun q hq => ?_) (fun j hj => ?_)
    · rw [fr1 hq, f1 q hq]
    · rw [sg1, if_pos rfl]
      by_cases z : j = x1.toInt.toNat
      · rw [if_pos z]
      · rw [if_neg z]
        exact f2 j (by omega)
theorem q_10 {h : zH} {Q : Option Value → zH → Prop} (H : ∀ h', (∀ q, q ≠ 23 → q ≠ 24 → h'.1 q = h.1 q) → (∀ j, j < 7 → h'.1 23 j = Int32.ofInt 0) → (∀ d : Nat, d < 3 → h'.1 24 d = Int32.ofInt 0) → Q none h') : zqm 10 [.ref 23] h Q := by
  refine s_10 (fun n => ?_)
  refine l_10 _ (fun h' f1 f2 => H h' (fun q c1 c2 => ?_) (fun j hj => ?_) f2) n 0 _ _ kc_0 (by omega) (fun _ _ => rfl) (fun d hd => absurd hd (Nat.not_lt_zero d))
  · rw [f1 q c2, fr1 c1, fr1 c1, fr1 c1, fr1 c1, fr1 c1, fr1 c1, fr1 c1]
  · rw [f1 23 (by decide)]
    have : j = 0 ∨ j = 1 ∨ j = 2 ∨ j = 3 ∨ j = 4 ∨ j = 5 ∨ j = 6 := by omega
    rcases this with z | z | z | z | z | z | z <;> subst z <;> simp [sg1]
theorem l_55 {Q : Option Value → zH → Prop} {T : Nat → Int32} {N : Int} (g : zH)
    (k1 : ∀ (K : Nat) (h' : zH), stp T N (e3 T N) K → ¬ (menS T N (e3 T N) K).2 = 0 → (∀ q, q ≠ 13 → q ≠ 23 → q ≠ 24 → q ≠ 25 → q ≠ 26 → q ≠ 27 → h'.1 q = g.1 q) → rst h' = menS T N (e3 T N) K → Q none (zSet h' 13 1 (Int32.ofInt 0)))
    (k2 : ∀ (K : Nat) (h' : zH), stp T N (e3 T N) K → (menS T N (e3 T N) K).2 = 0 → (∀ q, q ≠ 13 → q ≠ 23 → q ≠ 24 → q ≠ 25 → q ≠ 26 → q ≠ 27 → h'.1 q = g.1 q) → rst h' = menS T N (e3 T N) K → ctD T N h' K → zqm 12 [.ref 23] h' (fun _ h3 => Q none (zSet h3 13 1 (Int32.ofInt 0)))) :
    ∀ (n k : Nat) (x2 : Int32) (h : zH), x2.toInt = (k : Int) → k ≤ 5 → tp h T N → (∀ q, q ≠ 13 → q ≠ 23 → q ≠ 24 → q ≠ 25 → q ≠ 26 → q ≠ 27 → h.1 q = g.1 q) → rst h = menS T N (e3 T N) k → (∀ j, j < k → go T N (e3 T N) j) → ((h.1 13 3).toInt = 0 → ctD T N h k) → zQ n 55 46 [some (.ref 13), some (.ref 23), some (.int x2)] [] h Q
  | 0, _, _, _, _, _, _, _, _, _, _ => zQ_zero
  | n + 1, k, x2, h, e2, hk, t, f1, f2, f3, f4 => by
    obtain ⟨t1, t2, t3, t4, t5⟩ := id t
    have a1 : (menS T N (e3 T N) k).1 = (h.1 13 2).toInt := by rw [← f2]; rfl
    have a2 : (menS T N (e3 T N) k).2 = (h.1 13 3).toInt := by rw [← f2]; rfl
    have st : ¬ ((h.1 13 3).toInt = 0 ∧ (h.1 13 2).toInt < N) → stp T N (e3 T N) k := fun z => ⟨fun y => z (by
      unfold go at y
      rw [a1, a2] at y
      exact y), f3⟩
    have E1 : stp T N (e3 T N) k → ¬ (h.1 13 3).toInt = 0 → Q none (zSet h 13 1 (Int32.ofInt 0)) := fun z y => k1 k h z (by rw [a2]; exact y) f1 f2
    have E2 : stp T N (e3 T N) k → (h.1 13 3).toInt = 0 → zqm 12 [.ref 23] h (fun _ h3 => Q none (zSet h3 13 1 (Int32.ofInt 0))) := fun z y => k2 k h z (by rw [a2]; exact y) f1 f2 (f4 y)
    have no5 : (4 : Int) < x2.toInt → ¬ (h.1 13 3).toInt = 0 := fun z => by
      have k5 : k = 5 := by omega
      rw [← a2, k5]
      exact manE_4 (by decide)
    refine s_55_46 x2 ⟨fun c => ⟨fun d => E1 (st (by omega)) d, fun d => absurd (no5 c) d⟩, fun c => ⟨fun d => ⟨fun y => E1 (st (by omega)) y, fun y => absurd d y⟩, fun d => ⟨fun e => ⟨fun y => absurd y d, fun y => E2 (st (by omega)) (Decidable.not_not.mp d)⟩, fun e => ?_⟩⟩⟩
    have f0 : (h.1 13 3).toInt = 0 := Decidable.not_not.mp d
    obtain ⟨g1, g2, g3, g4, g5, g6, g7, g8⟩ := f4 f0
    have gk : go T N (e3 T N) k := by
      unfold go
      rw [a1, a2]
      exact ⟨f0, by omega⟩
    refine q_59 t k (by omega) g6 f0 (by omega) (fun h' t' w1 w2 w3 w4 => ?_)
    have e2' := ai (x := x2) (k := 1) (by omega) (by omega) (by omega) (by omega)
    have ms : rst h' = menS T N (e3 T N) (k + 1) := by
      rw [w3, f2]
      rfl
    refine l_55 g k1 k2 n (k + 1) _ h' (by omega) (by omega) t' (fun q c1 c2 c3 c4 c5 c6 => ?_) ms (fun j hj => ?_) (fun z => ?_)
    · rw [w1 q c1 c2 c4 c5 c6, f1 q c1 c2 c3 c4 c5 c6]
    · by_cases y : j < k
      · exact f3 j y
      · rw [show j = k by omega]
        exact gk
    · have z2 : (manE T N (k : Int) (rst h)).2 = 0 := by
        rw [← w3]
        exact z
      obtain ⟨m1, m2, m3, m4, m5, m6⟩ := w4 z2
      rw [f2] at m4 m5 m6
      refine ⟨?_, ?_, ?_, ?_, ?_, ?_, fun d hd => ?_, fun j hj => ?_⟩
      · rw [m1 1 (by decide)]; exact g1
      · rw [m1 2 (by decide)]; exact g2
      · rw [m1 3 (by decide)]; exact g3
      · rw [m1 4 (by decide)]; exact g4
      · rw [m1 5 (by decide)]; exact g5
      · rw [m2]; omega
      · rw [w1 24 (by decide) (by decide) (by decide) (by decide) (by decide)]
        exact g7 d hd
      · by_cases y : j = k
        · subst y
          exact ⟨m4, m5, m6⟩
        · obtain ⟨n1, n2, n3⟩ := m3 j y
          rw [n1, n2, n3]
          exact g8 j (by omega)
theorem q_55 {h : zH} {Q : Option Value → zH → Prop} {T : Nat → Int32} {N : Int} (hT : h.1 14 = T) (hN : (h.1 13 1).toInt = N) (n0 : 0 ≤ N) (n1 : N ≤ 120)
    (k1 : ∀ (K : Nat) (h' : zH), stp T N (e3 T N) K → ¬ (menS T N (e3 T N) K).2 = 0 → (∀ q, q ≠ 13 → q ≠ 23 → q ≠ 24 → q ≠ 25 → q ≠ 26 → q ≠ 27 → h'.1 q = h.1 q) → rst h' = menS T N (e3 T N) K → Q none (zSet h' 13 1 (Int32.ofInt 0)))
    (k2 : ∀ (K : Nat) (h' : zH), stp T N (e3 T N) K → (menS T N (e3 T N) K).2 = 0 → (∀ q, q ≠ 13 → q ≠ 23 → q ≠ 24 → q ≠ 25 → q ≠ 26 → q ≠ 27 → h'.1 q = h.1 q) → rst h' = menS T N (e3 T N) K → ctD T N h' K → zqm 12 [.ref 23] h' (fun _ h3 => Q none (zSet h3 13 1 (Int32.ofInt 0)))) : zqm 55 [.ref 13, .ref 23] h Q := by
  refine s_55 (fun n => ?_)
  refine q_10 (fun h1 w1 w2 w3 => ?_)
  have t1 : tp h1 T N := by
    unfold tp
    rw [w1 13 (by decide) (by decide), w1 14 (by decide) (by decide)]
    refine ⟨?_, ?_, n1, ?_, ?_⟩
    · rw [fr1 (by decide), fr1 (by decide)]; exact hT
    · rw [fr2 (by decide), fr2 (by decide)]; exact hN
    · rw [fr2 (by decide), fr3]; decide
    · rw [fr2 (by decide), fr3, kc_0]; exact n0
  have s1 : rst h1 = (0, 0) := by
    unfold rst
    rw [w1 13 (by decide) (by decide), fr2 (by decide), fr3, fr3, kc_0]
  refine q_56 t1 (fun h2 t2 a1 a2 a3 a4 a5 a6 => ?_)
  rw [s1] at a3 a4 a5
  refine q_57 _ t2 (by decide) (by decide) (fun v3 h3 t3 r3 p3 => ?_)
  rw [kc_109, a3] at r3 p3
  refine zri_int ?_
  refine q_57 _ (tp_set t3 (by decide) (by decide)) (by decide) (by decide) (fun v4 h4 t4 r4 p4 => ?_)
  rw [kc_110, rst_set (by decide), rdS_st r3] at r4 p4
  refine zri_int ?_
  refine q_58 (tp_set t4 (by decide) (by decide)) (fun d hd => ?_) (fun h5 t5 b1 b2 b3 b4 => ?_)
  · rw [fr1 (by decide), r4.1 24 (by decide), fr1 (by decide), r3.1 24 (by decide), a1 24 (by decide) (by decide)]
    exact w3 d hd
  rw [rst_set (by decide), rdS_st r4] at b3 b4
  have c23 : ∀ j, h5.1 23 j = (zSet h4 23 4 v4).1 23 j := fun j => by rw [b1 23 (by decide) (by decide)]
  have c3 : h4.1 23 = (zSet h3 23 3 v3).1 23 := r4.1 23 (by decide)
  have c2 : h3.1 23 = h2.1 23 := r3.1 23 (by decide)
  refine l_55 h k1 k2 n 0 _ h5 kc_0 (by omega) t5 (fun q c1 c2 c3 c4 c5 c6 => ?_) b3 (fun j hj => absurd hj (Nat.not_lt_zero j)) (fun _ => ⟨?_, ?_, ?_, ?_, ?_, ?_, b4, fun j hj => absurd hj (Nat.not_lt_zero j)⟩)
  · rw [b1 q c1 c3, fr1 c2, r4.1 q c1, fr1 c2, r3.1 q c1, a1 q c1 c2, w1 q c2 c3, fr1 c1, fr1 c1]
  · rw [c23, fr2 (by decide), c3, fr2 (by decide), c2]; exact a4
  · rw [c23, fr2 (by decide), c3, fr2 (by decide), c2]; exact a5
  · rw [c23, fr2 (by decide), c3, fr3]; exact p3
  · rw [c23, fr3]; exact p4
  · rw [c23, fr2 (by decide), c3, fr2 (by decide), c2, a6 5 (by decide) (by decide)]; exact w2 5 (by decide)
  · rw [c23, fr2 (by decide), c3, fr2 (by decide), c2, a6 6 (by decide) (by decide), w2 6 (by decide)]; exact kc_0

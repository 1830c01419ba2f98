/-! a whole text, by the reference; feed -/
def rA (T : Nat → Int32) (N : Int) (h : zH) (q : Nat) (K : Nat) : Prop := (∀ c : Nat, c < 15 → (h.1 q c).toInt = vLand T N c ∧ (h.1 q (15 + c)).toInt = vSheet T N c ∧ (h.1 q (30 + c)).toInt = vDist T N c) ∧ (h.1 q 57).toInt = (K : Int) ∧ (h.1 q 58).toInt = (law1 T N (0, 0)).2 ∧ (h.1 q 59).toInt = (law2 T N (0, 0)).2 ∧ (∀ j : Nat, j < K → (h.1 q (45 + 3 * j)).toInt = kd (pk T N (menS T N (e3 T N) j).1) ∧ (h.1 q (45 + 3 * j + 1)).toInt = (man1 T N (menS T N (e3 T N) j)).2 ∧ (h.1 q (45 + 3 * j + 2)).toInt = (man2 T N (menS T N (e3 T N) j)).2) ∧ h.1 q 60 = Int32.ofInt 0
theorem menS_4 {T : Nat → Int32} {N : Int} {s : Int × Int} {k : Nat} (h : (menS T N s k).2 = 0) (hs : k ≠ 0 ∨ True) : k ≤ 4 := by
  apply Decidable.byContradiction
  intro z
  obtain ⟨j, rfl⟩ : ∃ j, k = j + 1 := ⟨k - 1, by omega⟩
  exact manE_4 (T := T) (N := N) (s := menS T N s j) (k := (j : Int)) (by omega) h
theorem l_145 {Q : Option Value → zH → Prop} {T : Nat → Int32} {N : Int} (g : zH)
    (k1 : ∀ (K : Nat) (h' : zH), stp T N (e3 T N) K → ¬ (menS T N (e3 T N) K).2 = 0 → rgS g h' (menS T N (e3 T N) K) → Q (some (.int (Int32.ofInt 0))) h')
    (k2 : ∀ (K : Nat) (h' : zH), stp T N (e3 T N) K → (menS T N (e3 T N) K).2 = 0 → rgS g h' (menS T N (e3 T N) K) → rA T N h' 63 K → Q (some (.int (Int32.ofInt 1))) h') :
    ∀ (n k : Nat) (h : zH), tq h T N → rgS g h (menS T N (e3 T N) k) → (menS T N (e3 T N) k).2 = 0 → (∀ j, j < k → go T N (e3 T N) j) → rA T N h 63 k → zQ n 145 50 [some (.ref 58)] [] h Q
  | 0, _, _, _, _, _, _, _ => zQ_zero
  | n + 1, k, h, t, r, f0, f1, f2 => by
    obtain ⟨t1, t2, t3, t4, t5⟩ := id t
    have ea : (h.1 58 7).toInt = (menS T N (e3 T N) k).1 := r.2.2.1
    refine s_145_50 ⟨fun c => ?_, fun c => ?_⟩
    · exact k2 k h ⟨fun z => by
        have := z.2
        omega, f1⟩ f0 r f2
    · have gk : go T N (e3 T N) k := ⟨f0, by omega⟩
      obtain ⟨w1, w2, w3, w4, w5, w6⟩ := f2
      refine q_144 t (menS T N (e3 T N) k) (rg_st r f0) k (menS_4 f0 (Or.inr trivial)) w2 gk.2 (fun h' t' r' v => ?_)
      refine zri_int ?_
      have R := rgS_tr r f0 r'
      refine ⟨fun z => ?_, fun z => ?_⟩
      · have z := zb1.mp z
        obtain ⟨u1, u2, u3, u4, u5⟩ := v z
        refine l_145 g k1 k2 n (k + 1) h' t' R z (fun j hj => ?_) ⟨fun c hc => ?_, ?_, ?_, ?_, fun j hj => ?_, ?_⟩
        · by_cases y : j < k
          · exact f1 j y
          · rw [show j = k by omega]; exact gk
        · rw [u5 c (by omega) (by omega), u5 (15 + c) (by omega) (by omega), u5 (30 + c) (by omega) (by omega)]
          exact w1 c hc
        · rw [u1]; omega
        · have := menS_4 f0 (Or.inr trivial)
          have k3 : k < 4 := by
            apply Decidable.byContradiction
            intro y
            exact manE_4 (T := T) (N := N) (s := menS T N (e3 T N) k) (k := (k : Int)) (by omega) z
          rw [u5 58 (by omega) (by omega)]; exact w3
        · have k3 : k < 4 := by
            apply Decidable.byContradiction
            intro y
            exact manE_4 (T := T) (N := N) (s := menS T N (e3 T N) k) (k := (k : Int)) (by omega) z
          rw [u5 59 (by omega) (by omega)]; exact w4
        · by_cases y : j = k
          · subst y
            exact ⟨u2, u3, u4⟩
          · have k3 : k < 4 := by
              apply Decidable.byContradiction
              intro y
              exact manE_4 (T := T) (N := N) (s := menS T N (e3 T N) k) (k := (k : Int)) (by omega) z
            rw [u5 (45 + 3 * j) (by omega) (by omega), u5 (45 + 3 * j + 1) (by omega) (by omega), u5 (45 + 3 * j + 2) (by omega) (by omega)]
            exact w5 j (by omega)
        · have k3 : k < 4 := by
            apply Decidable.byContradiction
            intro y
            exact manE_4 (T := T) (N := N) (s := menS T N (e3 T N) k) (k := (k : Int)) (by omega) z
          rw [u5 60 (by omega) (by omega)]; exact w6
      · have z := zb2.mp z
        refine k1 (k + 1) h' ⟨fun y => z y.1, fun j hj => ?_⟩ z R
        by_cases y : j < k
        · exact f1 j y
        · rw [show j = k by omega]; exact gk
theorem q_145 {h : zH} {Q : Option Value → zH → Prop} {T : Nat → Int32} {N : Int} (t : tq h T N) (ea : (h.1 58 7).toInt = 0) (z63 : ∀ j : Nat, j < 62 → h.1 63 j = Int32.ofInt 0)
    (k1 : ∀ (K : Nat) (h' : zH), stp T N (e3 T N) K → ¬ (menS T N (e3 T N) K).2 = 0 → rgS h h' (menS T N (e3 T N) K) → Q (some (.int (Int32.ofInt 0))) h')
    (k2 : ∀ (K : Nat) (h' : zH), stp T N (e3 T N) K → (menS T N (e3 T N) K).2 = 0 → rgS h h' (menS T N (e3 T N) K) → rA T N h' 63 K → Q (some (.int (Int32.ofInt 1))) h') : zqm 145 [.ref 58] h Q := by
  have F : ∀ (g : zH), rgS h g (e3 T N) → ¬ (e3 T N).2 = 0 → Q (some (.int (Int32.ofInt 0))) g := fun g rg z => k1 0 g (menS_st z) z rg
  refine s_145 (fun n => ?_)
  refine q_141 t (0, 0) (by rw [ea]) (fun h1 t1 r1 v1 => ?_)
  refine zri_int ?_
  refine ⟨fun c => ?_, fun c => ?_⟩
  · have c := zb0.mp c
    have E1 : e1 T N = e0 T N := secE_st c
    have E2 : e2 T N = e0 T N := by
      unfold e2
      rw [E1]
      exact secE_st c
    have E3 : e3 T N = e0 T N := by
      unfold e3
      rw [E2]
      exact secE_st c
    exact F h1 (by rw [E3]; exact r1) (by rw [E3]; exact c)
  have c := zb1.mp c
  obtain ⟨a1, a2, a3⟩ := v1 c
  have r1 : rgS h h1 (e0 T N) := r1
  refine q_142 _ _ _ _ t1 (e0 T N) (rg_st r1 c) 109 97 100 0 kc_109 kc_97 (by decide) kc_0 (by decide) (by decide) (by decide) (by decide) (by decide) (fun h3 t3 r3 v3 => ?_)
  refine zri_int ?_
  have R3 : rgS h h3 (e1 T N) := rgS_tr r1 c r3
  refine ⟨fun d => ?_, fun d => ?_⟩
  · have d := zb0.mp d
    have E2 : e2 T N = e1 T N := secE_st d
    have E3 : e3 T N = e1 T N := by
      unfold e3
      rw [E2]
      exact secE_st d
    exact F h3 (by rw [E3]; exact R3) (by rw [E3]; exact d)
  have d := zb1.mp d
  obtain ⟨b1, b2⟩ := v3 d
  refine q_142 _ _ _ _ t3 (e1 T N) (rg_st R3 d) 110 97 100 15 kc_110 kc_97 (by decide) kc_15 (by decide) (by decide) (by decide) (by decide) (by decide) (fun h5 t5 r5 v5 => ?_)
  refine zri_int ?_
  have R5 : rgS h h5 (e2 T N) := rgS_tr R3 d r5
  refine ⟨fun g => ?_, fun g => ?_⟩
  · have g := zb0.mp g
    have E3 : e3 T N = e2 T N := secE_st g
    exact F h5 (by rw [E3]; exact R5) (by rw [E3]; exact g)
  have g := zb1.mp g
  obtain ⟨c1, c2⟩ := v5 g
  refine q_142 _ _ _ _ t5 (e2 T N) (rg_st R5 g) 99 101 103 30 kc_99 kc_101 (by decide) kc_30 (by decide) (by decide) (by decide) (by decide) (by decide) (fun h7 t7 r7 v7 => ?_)
  refine zri_int ?_
  have R7 : rgS h h7 (e3 T N) := rgS_tr R5 g r7
  refine ⟨fun l => ?_, fun l => ?_⟩
  · have l := zb1.mp l
    obtain ⟨d1, d2⟩ := v7 l
    refine l_145 h k1 k2 n 0 h7 t7 R7 l (fun j hj => absurd hj (Nat.not_lt_zero j)) ⟨fun c hc => ⟨?_, ?_, ?_⟩, ?_, ?_, ?_, fun j hj => absurd hj (Nat.not_lt_zero j), ?_⟩
    · rw [d2 c (by omega), c2 c (by omega)]
      have := b1 c hc
      rw [Nat.zero_add] at this
      exact this
    · rw [d2 (15 + c) (by omega)]
      exact c1 c hc
    · exact d1 c hc
    · rw [d2 57 (by omega), c2 57 (by omega), b2 57 (by omega), a3 57 (by decide) (by decide), z63 57 (by decide)]
      exact kc_0
    · rw [d2 58 (by omega), c2 58 (by omega), b2 58 (by omega)]
      exact a1
    · rw [d2 59 (by omega), c2 59 (by omega), b2 59 (by omega)]
      exact a2
    · rw [d2 60 (by omega), c2 60 (by omega), b2 60 (by omega), a3 60 (by decide) (by decide), z63 60 (by decide)]
  · have l := zb2.mp l
    exact F h7 R7 l
theorem l_146b {Q : Option Value → zH → Prop} (x1 : Int32) (g : zH) (H : ∀ h', (∀ q, q ≠ 64 → h'.1 q = g.1 q) → (∀ j : Nat, j < 62 → h'.1 64 j = g.1 63 j) → zqm 155 [.ref 58] (zSet h' 58 12 (Int32.ofInt 0)) (fun _ h2 => Q (some (.int (h2.1 64 57))) h2)) : ∀ (n c : Nat) (x2 : Int32) (h : zH), x2.toInt = (c : Int) → c ≤ 62 → (∀ q, q ≠ 64 → h.1 q = g.1 q) → (∀ j : Nat, j < c → h.1 64 j = g.1 63 j) → zQ n 146 58 [some (.ref 58), some (.int x1), some (.int x2)] [] h Q
  | 0, _, _, _, _, _, _, _ => zQ_zero
  | n + 1, c, x2, h, e, hc, f1, f2 => by
    refine s_146_58 x1 x2 ⟨fun d => H h f1 (fun j hj => f2 j (by omega)), fun d b1 b2 b3 b4 => ?_⟩
    have e' := ai (x := x2) (k := 1) (by omega) (by omega) (by omega) (by omega)
    refine l_146b x1 g H n (c + 1) _ _ (by omega) (by omega) (fun q hq => ?_) (fun j hj => ?_)
    · rw [fr1 hq, f1 q hq]
    · rw [sg1, if_pos rfl]
      by_cases z : j = x2.toInt.toNat
      · rw [if_pos z, f1 63 (by decide), z]
      · rw [if_neg z]
        exact f2 j (by omega)
theorem l_146a {Q : Option Value → zH → Prop} (g : zH) (H : ∀ (n : Nat) (h' : zH), (∀ q, q ≠ 63 → h'.1 q = g.1 q) → (∀ j : Nat, j < 62 → h'.1 63 j = Int32.ofInt 0) → zqm 145 [.ref 58] h' (fun rv h2 => zri rv (fun v2 => ((¬ v2.toInt = 0 → zQ n 146 58 [some (.ref 58), some (.int v2), some (.int (Int32.ofInt 0))] [] (zSet (zSet h2 58 5 (Int32.ofInt 0)) 63 61 (Int32.ofInt 1)) Q) ∧ (¬ (¬ v2.toInt = 0) → Q (some (.int ((-1000100 : Int32) - (h2.1 58 7)))) (zSet h2 58 5 (Int32.ofInt 0))))))) : ∀ (n c : Nat) (x1 : Int32) (h : zH), x1.toInt = (c : Int) → c ≤ 62 → (∀ q, q ≠ 63 → h.1 q = g.1 q) → (∀ j : Nat, j < c → h.1 63 j = Int32.ofInt 0) → zQ n 146 7 [some (.ref 58), some (.int x1), none] [] h Q
  | 0, _, _, _, _, _, _, _ => zQ_zero
  | n + 1, c, x1, h, e, hc, f1, f2 => by
    refine s_146_7 x1 ⟨fun d => H n h f1 (fun j hj => f2 j (by omega)), fun d b1 b2 => ?_⟩
    have e' := ai (x := x1) (k := 1) (by omega) (by omega) (by omega) (by omega)
    refine l_146a g H n (c + 1) _ _ (by omega) (by omega) (fun q hq => ?_) (fun j hj => ?_)
    · rw [fr1 hq, f1 q hq]
    · rw [sg1, if_pos rfl]
      by_cases z : j = x1.toInt.toNat
      · rw [if_pos z]
      · rw [if_neg z]
        exact f2 j (by omega)
/-- county, by the reference, up to what follows from the text -/
theorem q_146 {h : zH} {Q : Option Value → zH → Prop} {T : Nat → Int32} {N : Int} (hT : ∀ k : Nat, (k : Int) < N → h.1 62 k = T k) (hN : (h.1 58 5).toInt = N) (n0 : 0 ≤ N) (n1 : N ≤ 120)
    (k1 : ∀ (K : Nat) (w : Int32) (h' : zH), stp T N (e3 T N) K → ¬ (menS T N (e3 T N) K).2 = 0 → w.toInt = (menS T N (e3 T N) K).1 → (∀ q, q ≠ 58 → q ≠ 63 → h'.1 q = h.1 q) → (∀ j, j ≠ 5 → j ≠ 6 → j ≠ 7 → j ≠ 8 → h'.1 58 j = h.1 58 j) → h'.1 58 5 = Int32.ofInt 0 → (h'.1 58 6).toInt = (menS T N (e3 T N) K).2 → Q (some (.int ((-1000100 : Int32) - w))) h')
    (k2 : ∀ (K : Nat) (h' : zH), stp T N (e3 T N) K → (menS T N (e3 T N) K).2 = 0 → (∀ q, q ≠ 58 → q ≠ 63 → q ≠ 64 → h'.1 q = h.1 q) → (∀ j, j ≠ 5 → j ≠ 7 → j ≠ 8 → j ≠ 12 → h'.1 58 j = h.1 58 j) → h'.1 58 5 = Int32.ofInt 0 → h'.1 58 12 = Int32.ofInt 0 → rA T N h' 64 K → h'.1 64 61 = Int32.ofInt 1 → zqm 155 [.ref 58] h' (fun _ h2 => Q (some (.int (h2.1 64 57))) h2)) : zqm 146 [.ref 58] h Q := by
  refine s_146 (fun n => ?_)
  refine l_146a (zSet h 58 7 (Int32.ofInt 0)) (fun n h1 w1 w2 => ?_) n 0 _ _ kc_0 (by omega) (fun _ _ => rfl) (fun j hj => absurd hj (Nat.not_lt_zero j))
  have c58 : h1.1 58 = (zSet h 58 7 (Int32.ofInt 0)).1 58 := w1 58 (by decide)
  have t : tq h1 T N := by
    unfold tq
    rw [c58, w1 62 (by decide), fr1 (show (62 : Nat) ≠ 58 by decide), fr2 (show (5 : Nat) ≠ 7 by decide), fr3, kc_0]
    exact ⟨hT, hN, n1, by omega, n0⟩
  refine q_145 t (by rw [c58, fr3]; exact kc_0) w2 (fun K h' s1 s2 r => ?_) (fun K h' s1 s2 r v => ?_)
  · refine zri_int ?_
    refine ⟨fun z => absurd kc_0 z, fun _ => ?_⟩
    refine k1 K _ _ s1 s2 r.2.2.1 (fun q c1 c2 => ?_) (fun j c1 c2 c3 c4 => ?_) fr3 ?_
    · rw [fr1 c1, r.1 q c1 c2, w1 q c2, fr1 c1]
    · rw [fr2 c1, r.2.1 j c2 c3 c4, c58, fr2 c3]
    · rw [fr2 (by decide)]
      exact r.2.2.2.2 s2
  · refine zri_int ?_
    refine ⟨fun _ => ?_, fun z => absurd (by decide : ¬ (Int32.ofInt 1).toInt = 0) z⟩
    refine l_146b _ _ (fun h3 f1 f2 => ?_) n 0 _ _ kc_0 (by omega) (fun _ _ => rfl) (fun j hj => absurd hj (Nat.not_lt_zero j))
    have g63 : ∀ j : Nat, j < 61 → h3.1 64 j = h'.1 63 j := fun j hj => by rw [f2 j (by omega), fr2 (by omega), fr1 (by decide)]
    have g58 : h3.1 58 = (zSet h' 58 5 (Int32.ofInt 0)).1 58 := by rw [f1 58 (by decide), fr1 (by decide)]
    obtain ⟨v1, v2, v3, v4, v5, v6⟩ := v
    have K4 := menS_4 s2 (Or.inr trivial)
    refine k2 K _ s1 s2 (fun q c1 c2 c3 => ?_) (fun j c1 c2 c3 c4 => ?_) ?_ fr3 ?_ ?_
    · rw [fr1 c1, f1 q c3, fr1 c2, fr1 c1, r.1 q c1 c2, w1 q c2, fr1 c1]
    · rw [fr2 c4, g58, fr2 c1]
      by_cases j6 : j = 6
      · rw [j6, r.2.2.2.1 s2, c58, fr2 (by decide)]
      · rw [r.2.1 j j6 c2 c3, c58, fr2 c2]
    · rw [fr2 (by decide), g58, fr3]
    · have e : ∀ j : Nat, (zSet h3 58 12 (Int32.ofInt 0)).1 64 j = h3.1 64 j := fun j => by rw [fr1 (by decide)]
      refine ⟨fun c hc => ?_, ?_, ?_, ?_, fun j hj => ?_, ?_⟩
      · rw [e, e, e, g63 c (by omega), g63 (15 + c) (by omega), g63 (30 + c) (by omega)]
        exact v1 c hc
      · rw [e, g63 57 (by omega)]; exact v2
      · rw [e, g63 58 (by omega)]; exact v3
      · rw [e, g63 59 (by omega)]; exact v4
      · rw [e, e, e, g63 (45 + 3 * j) (by omega), g63 (45 + 3 * j + 1) (by omega), g63 (45 + 3 * j + 2) (by omega)]
        exact v5 j hj
      · rw [e, g63 60 (by omega)]; exact v6
    · rw [fr1 (by decide), f2 61 (by decide), fr3]

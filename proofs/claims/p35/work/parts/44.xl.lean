/-! a county: what the class has, by what the reference has (62 numbers) -/
def gyN (G : Nat → Int) : Nat := (G 57).toNat
abbrev gyD (G : Nat → Int) : Nat → Int := fun c => G (30 + c)
abbrev gyK (G : Nat → Int) : Nat → Int := fun s => G (45 + 3 * s)
abbrev gyE (G : Nat → Int) : Nat → Int := fun s => G (45 + 3 * s + 1)
abbrev gyS (G : Nat → Int) : Nat → Int := fun s => G (45 + 3 * s + 2)
abbrev gyI (G : Nat → Int) : Nat → Bool := itB (gyD G) (gyN G) (gyE G) (gyK G) (gyS G)
def wfG (G : Nat → Int) : Prop := (∀ c : Nat, c < 15 → (0 ≤ G c ∧ G c ≤ 3) ∧ (0 ≤ G (15 + c) ∧ G (15 + c) ≤ 3) ∧ (0 ≤ G (30 + c) ∧ G (30 + c) < 3)) ∧ (0 ≤ G 57 ∧ G 57 ≤ 4) ∧ (0 ≤ G 58 ∧ G 58 ≤ 14) ∧ (0 ≤ G 59 ∧ G 59 ≤ 3) ∧ (∀ s : Nat, (s : Int) < G 57 → (1 ≤ gyK G s ∧ gyK G s ≤ 5) ∧ (0 ≤ gyE G s ∧ gyE G s < 3) ∧ (1 ≤ gyS G s ∧ gyS G s ≤ 5)) ∧ 0 ≤ G 60 ∧ G 60 ≤ 999
def CT1 (h : zH) (b : Nat) (G : Nat → Int) : Prop := G 61 = 1 ∧ wfG G ∧ (h.1 b 0).toInt = 1 ∧ (h.1 b 1).toInt = G 58 ∧ (h.1 b 2).toInt = G 59 ∧ pl (h.1 b 3) G ∧ pl (h.1 b 4) (fun c => G (15 + c)) ∧ (h.1 b 5).toInt = G 60 ∧ (h.1 b 6).toInt = G 57 ∧ h.1 b 7 = mkm (smB (gyD G)) 15 ∧ h.1 b 8 = mkm (gyI G) 15 ∧ (∀ d : Nat, d < 3 → h.1 (b + 1) d = mkm (fun c => decide (gyD G c = (d : Int))) 15) ∧ ∀ s : Nat, (s : Int) < G 57 → (h.1 (b + 2) s).toInt = gyK G s ∧ (h.1 (b + 3) s).toInt = gyE G s ∧ (h.1 (b + 4) s).toInt = gyS G s ∧ h.1 (b + 5) s = mkm (flB (gyD G) (gyE G s)) 15 ∧ (h.1 (b + 6) s).toInt = itA (gyK G s) (gyS G s) ∧ (h.1 (b + 7) s).toInt = itW (gyK G s) (gyS G s)
def CT0 (h : zH) (b : Nat) (G : Nat → Int) : Prop := (∀ j : Nat, j < 62 → G j = 0) ∧ ∀ j : Nat, j < 9 → (h.1 b j).toInt = 0
def CT (h : zH) (b : Nat) (G : Nat → Int) : Prop := CT0 h b G ∨ CT1 h b G
theorem CT_fr {h h' : zH} {b : Nat} {G : Nat → Int} (hf : ∀ q : Nat, b ≤ q → q < b + 8 → h'.1 q = h.1 q) (hC : CT h b G) : CT h' b G := by
  unfold CT CT0 CT1 at hC ⊢
  rw [hf b (by omega) (by omega), hf (b + 1) (by omega) (by omega), hf (b + 2) (by omega) (by omega), hf (b + 3) (by omega) (by omega), hf (b + 4) (by omega) (by omega), hf (b + 5) (by omega) (by omega), hf (b + 6) (by omega) (by omega), hf (b + 7) (by omega) (by omega)]
  exact hC
theorem CT_copy {h h' : zH} {b o : Nat} {G : Nat → Int} (h1 : ∀ j : Nat, j < 9 → h'.1 b j = h.1 o j) (h2 : ∀ d : Nat, d < 3 → h'.1 (b + 1) d = h.1 (o + 1) d) (h3 : ∀ i : Nat, 2 ≤ i → i < 8 → ∀ s : Nat, s < 4 → h'.1 (b + i) s = h.1 (o + i) s) (hC : CT h o G) : CT h' b G := by
  rcases hC with ⟨c1, c2⟩ | ⟨c1, c2, c3, c4, c5, c6, c7, c8, c9, c10, c11, c12, c13⟩
  · exact Or.inl ⟨c1, fun j hj => by rw [h1 j hj]; exact c2 j hj⟩
  · refine Or.inr ⟨c1, c2, ?_, ?_, ?_, ?_, ?_, ?_, ?_, ?_, ?_, fun d hd => ?_, fun s hs => ?_⟩
    · rw [h1 0 (by decide)]; exact c3
    · rw [h1 1 (by decide)]; exact c4
    · rw [h1 2 (by decide)]; exact c5
    · rw [h1 3 (by decide)]; exact c6
    · rw [h1 4 (by decide)]; exact c7
    · rw [h1 5 (by decide)]; exact c8
    · rw [h1 6 (by decide)]; exact c9
    · rw [h1 7 (by decide)]; exact c10
    · rw [h1 8 (by decide)]; exact c11
    · rw [h2 d hd]; exact c12 d hd
    · have s4 : s < 4 := by have := c2.2.1; omega
      rw [h3 2 (by decide) (by decide) s s4, h3 3 (by decide) (by decide) s s4, h3 4 (by decide) (by decide) s s4, h3 5 (by decide) (by decide) s s4, h3 6 (by decide) (by decide) s s4, h3 7 (by decide) (by decide) s s4]
      exact c13 s hs
/-- the same county, by other numbers that agree -/
theorem CT_congr {h : zH} {b : Nat} {G G' : Nat → Int} (e : ∀ k : Nat, k < 62 → G k = G' k) (hC : CT h b G) : CT h b G' := by
  rcases hC with ⟨c1, c2⟩ | hC
  · exact Or.inl ⟨fun j hj => by rw [← e j hj]; exact c1 j hj, c2⟩
  · right
    have eG : ∀ G G' : Nat → Int, (∀ k : Nat, k < 62 → G k = G' k) → G 57 ≤ 4 → CT1 h b G → CT1 h b G' := by
      intro G G' e h4 hC
      obtain ⟨c1, c2, c3, c4, c5, c6, c7, c8, c9, c10, c11, c12, c13⟩ := hC
      obtain ⟨w1, w2, w3, w4, w5, w6⟩ := c2
      have e57 := e 57 (by decide)
      have eD : ∀ c : Nat, c < 15 → gyD G c = gyD G' c := fun c hc => e (30 + c) (by omega)
      have sm : ∀ c : Nat, c < 15 → smB (gyD G) c = smB (gyD G') c := fun c hc => anyc_c (fun d hd => by rw [eD d hd, eD c hc])
      have fl : ∀ m : Int, ∀ c : Nat, c < 15 → flB (gyD G) m c = flB (gyD G') m c := fun m c hc => by
        unfold flB
        rw [eD c hc, sm c hc, anyc_c (fun d hd => by rw [eD d hd])]
      have eM : ∀ s : Nat, (s : Int) < G 57 → gyK G s = gyK G' s ∧ gyE G s = gyE G' s ∧ gyS G s = gyS G' s := fun s hs => ⟨e _ (by omega), e _ (by omega), e _ (by omega)⟩
      refine ⟨by rw [← e 61 (by decide)]; exact c1, ⟨fun c hc => ?_, by rw [← e57]; exact w2, by rw [← e 58 (by decide)]; exact w3, by rw [← e 59 (by decide)]; exact w4, fun s hs => ?_, by rw [← e 60 (by decide)]; exact w6⟩, c3, by rw [← e 58 (by decide)]; exact c4, by rw [← e 59 (by decide)]; exact c5, pl_congr c6 (fun c hc => e c (by omega)), pl_congr c7 (fun c hc => e (15 + c) (by omega)), by rw [← e 60 (by decide)]; exact c8, by rw [← e57]; exact c9, ?_, ?_, fun d hd => ?_, fun s hs => ?_⟩
      · rw [← e c (by omega), ← e (15 + c) (by omega), ← e (30 + c) (by omega)]; exact w1 c hc
      · rw [← e57] at hs
        obtain ⟨m1, m2, m3⟩ := eM s hs
        rw [← m1, ← m2, ← m3]; exact w5 s hs
      · rw [c10]; exact mkm_congr (by omega) sm
      · rw [c11]
        refine mkm_congr (by omega) (fun c hc => ?_)
        show itB _ _ _ _ _ c = itB _ _ _ _ _ c
        unfold itB gyN
        rw [← e57]
        refine anyc_c (fun s hs => ?_)
        obtain ⟨m1, m2, m3⟩ := eM s (by omega)
        unfold tk
        rw [m1, m2, m3, fl _ c hc, sm c hc]
      · rw [c12 d hd]; exact mkm_congr (by omega) (fun c hc => by rw [eD c hc])
      · rw [← e57] at hs
        obtain ⟨m1, m2, m3⟩ := eM s hs
        obtain ⟨u1, u2, u3, u4, u5, u6⟩ := c13 s hs
        rw [← m1, ← m2, ← m3]
        refine ⟨u1, u2, u3, ?_, u5, u6⟩
        rw [u4]; exact mkm_congr (by omega) (fl _)
    exact eG G G' e hC.2.1.2.1.2 hC
/-- the numbers of a text -/
def pg (T : Nat → Int32) (N : Int) (K : Nat) (G : Nat → Int) : Prop := (∀ c : Nat, c < 15 → G c = vLand T N c ∧ G (15 + c) = vSheet T N c ∧ G (30 + c) = vDist T N c) ∧ G 57 = (K : Int) ∧ G 58 = (law1 T N (0, 0)).2 ∧ G 59 = (law2 T N (0, 0)).2 ∧ (∀ j : Nat, j < K → G (45 + 3 * j) = kd (pk T N (menS T N (e3 T N) j).1) ∧ G (45 + 3 * j + 1) = (man1 T N (menS T N (e3 T N) j)).2 ∧ G (45 + 3 * j + 2) = (man2 T N (menS T N (e3 T N) j)).2) ∧ G 60 = 0 ∧ G 61 = 1
section PR
variable {T : Nat → Int32} {N lo hi : Int} {s : Int × Int}
theorem sL_b (h : (sL T N lo hi s).1.2 = 0) : s.2 = 0 := by
  apply Decidable.byContradiction
  intro z
  rw [sL_st z] at h
  exact z h
theorem sN_b (h : (sN T N lo hi s).1.2 = 0) : s.2 = 0 := by
  apply Decidable.byContradiction
  intro z
  rw [sN_st z] at h
  exact z h
theorem sN_v (h : (sN T N lo hi s).1.2 = 0) : lo ≤ (sN T N lo hi s).2 ∧ (sN T N lo hi s).2 ≤ hi := by
  have c := sN_b h
  by_cases d : nBad T N s.1
  · rw [sN_f1 c d] at h
    exact absurd h (by show ¬ (1 : Int) = 0; decide)
  · by_cases e : nv T N s.1 < lo ∨ hi < nv T N s.1
    · rw [sN_f2 c d e] at h
      exact absurd h (by show ¬ (2 : Int) = 0; decide)
    · rw [sN_ok c d e]
      show lo ≤ nv T N s.1 ∧ nv T N s.1 ≤ hi
      omega
theorem secE_b {hd : Int} (h : (secE T N hd lo hi s).2 = 0) : s.2 = 0 := by
  apply Decidable.byContradiction
  intro z
  rw [secE_st z] at h
  exact z h
theorem menS_ok {K : Nat} (h : stp T N s K) (h0 : (menS T N s K).2 = 0) : ∀ j : Nat, j ≤ K → (menS T N s j).2 = 0 := fun j hj => by
  by_cases z : j = K
  · rw [z]; exact h0
  · exact (h.2 j (by omega)).1
end PR
theorem pg_wf {T : Nat → Int32} {N : Int} {K : Nat} {G : Nat → Int} (hs : stp T N (e3 T N) K) (h0 : (menS T N (e3 T N) K).2 = 0) (hp : pg T N K G) : wfG G := by
  obtain ⟨p1, p2, p3, p4, p5, p6, p7⟩ := hp
  have K4 := menS_4 h0 (Or.inr trivial)
  have ok := menS_ok hs h0
  have a3 : (e3 T N).2 = 0 := ok 0 (by omega)
  have a2 : (e2 T N).2 = 0 := secE_b a3
  have a1 : (e1 T N).2 = 0 := secE_b a2
  have a0 : (e0 T N).2 = 0 := secE_b a1
  have l2 : (law2 T N (0, 0)).1.2 = 0 := sL_b a0
  have l1 : (law1 T N (0, 0)).1.2 = 0 := sL_b (sN_b l2)
  have v1 := sN_v l1
  have v2 := sN_v l2
  refine ⟨fun c hc => ?_, by rw [p2]; omega, by rw [p3]; exact v1, by rw [p4]; exact v2, fun j hj => ?_, by omega, by omega⟩
  · obtain ⟨q1, q2, q3⟩ := p1 c hc
    rw [q1, q2, q3]
    have r1 := sL_v (T := T) (N := N) (lo := 97) (hi := 100) (s := itS T N 97 100 (secB T N 109 (e0 T N)) c) (by decide)
    have r2 := sL_v (T := T) (N := N) (lo := 97) (hi := 100) (s := itS T N 97 100 (secB T N 110 (e1 T N)) c) (by decide)
    have r3 := sL_v (T := T) (N := N) (lo := 101) (hi := 103) (s := itS T N 101 103 (secB T N 99 (e2 T N)) c) (by decide)
    exact ⟨⟨r1.1, by have := r1.2; show (sL T N 97 100 _).2 ≤ 3; omega⟩, ⟨r2.1, by have := r2.2; show (sL T N 97 100 _).2 ≤ 3; omega⟩, ⟨r3.1, by have := r3.2; show (sL T N 101 103 _).2 < 3; omega⟩⟩
  · rw [p2] at hj
    obtain ⟨q1, q2, q3⟩ := p5 j (by omega)
    show (1 ≤ G (45 + 3 * j) ∧ G (45 + 3 * j) ≤ 5) ∧ (0 ≤ G (45 + 3 * j + 1) ∧ G (45 + 3 * j + 1) < 3) ∧ (1 ≤ G (45 + 3 * j + 2) ∧ G (45 + 3 * j + 2) ≤ 5)
    rw [q1, q2, q3]
    have oj : (menS T N (e3 T N) (j + 1)).2 = 0 := ok (j + 1) (by omega)
    have oj : (manE T N (j : Int) (menS T N (e3 T N) j)).2 = 0 := oj
    have kv := kd_v (pk T N (menS T N (e3 T N) j).1)
    unfold manE at oj
    split at oj
    · exact absurd oj (by show ¬ (1 : Int) = 0; decide)
    · split at oj
      · exact absurd oj (by show ¬ (3 : Int) = 0; decide)
      · have m2 : (man2 T N (menS T N (e3 T N) j)).1.2 = 0 := sL_b oj
        have m1 : (man1 T N (menS T N (e3 T N) j)).1.2 = 0 := sL_b (sN_b m2)
        have w1 := sN_v m1
        have w2 := sN_v m2
        refine ⟨by omega, ⟨w1.1, ?_⟩, w2⟩
        have := w1.2
        show (sN T N 0 2 _).2 < 3
        unfold man1 at this
        omega
theorem q_11_15_23 {h : zH} {Q : Option Value → zH → Prop} (H : ∀ h', (∀ q : Nat, (q < 15 ∨ 23 ≤ q) → h'.1 q = h.1 q) → (∀ j : Nat, j < 9 → h'.1 15 j = h.1 23 j) → (∀ d : Nat, d < 3 → h'.1 (15 + 1) d = h.1 (23 + 1) d) → (∀ i : Nat, 2 ≤ i → i < 8 → ∀ s : Nat, s < 4 → h'.1 (15 + i) s = h.1 (23 + i) s) → Q none h') : zqm 11 [.ref 15, .ref 23] h Q := by
  refine s_11_15_23 (H _ (fun q hq => ?_) (fun j hj => ?_) (fun d hd => ?_) (fun i h2 h8 s hs => ?_))
  · funext j
    simp only [sgc1, sg1]
    rw [if_neg (show ¬ q = 22 by omega), if_neg (show ¬ q = 21 by omega), if_neg (show ¬ q = 20 by omega), if_neg (show ¬ q = 19 by omega), if_neg (show ¬ q = 18 by omega), if_neg (show ¬ q = 17 by omega), if_neg (show ¬ q = 16 by omega), if_neg (show ¬ q = 15 by omega), if_neg (show ¬ q = 15 by omega), if_neg (show ¬ q = 15 by omega), if_neg (show ¬ q = 15 by omega), if_neg (show ¬ q = 15 by omega), if_neg (show ¬ q = 15 by omega), if_neg (show ¬ q = 15 by omega), if_neg (show ¬ q = 15 by omega), if_neg (show ¬ q = 15 by omega)]
  · have : j = 0 ∨ j = 1 ∨ j = 2 ∨ j = 3 ∨ j = 4 ∨ j = 5 ∨ j = 6 ∨ j = 7 ∨ j = 8 := by omega
    rcases this with z | z | z | z | z | z | z | z | z <;> subst z <;> simp [sgc1, sg1]
  · have : d = 0 ∨ d = 1 ∨ d = 2 := by omega
    rcases this with z | z | z <;> subst z <;> simp [sgc1, sg1]
  · have hi : i = 2 ∨ i = 3 ∨ i = 4 ∨ i = 5 ∨ i = 6 ∨ i = 7 := by omega
    rcases hi with z | z | z | z | z | z <;> subst z <;> simp [sgc1, sg1, hs]
theorem q_11_31_15 {h : zH} {Q : Option Value → zH → Prop} (H : ∀ h', (∀ q : Nat, (q < 31 ∨ 39 ≤ q) → h'.1 q = h.1 q) → (∀ j : Nat, j < 9 → h'.1 31 j = h.1 15 j) → (∀ d : Nat, d < 3 → h'.1 (31 + 1) d = h.1 (15 + 1) d) → (∀ i : Nat, 2 ≤ i → i < 8 → ∀ s : Nat, s < 4 → h'.1 (31 + i) s = h.1 (15 + i) s) → Q none h') : zqm 11 [.ref 31, .ref 15] h Q := by
  refine s_11_31_15 (H _ (fun q hq => ?_) (fun j hj => ?_) (fun d hd => ?_) (fun i h2 h8 s hs => ?_))
  · funext j
    simp only [sgc1, sg1]
    rw [if_neg (show ¬ q = 38 by omega), if_neg (show ¬ q = 37 by omega), if_neg (show ¬ q = 36 by omega), if_neg (show ¬ q = 35 by omega), if_neg (show ¬ q = 34 by omega), if_neg (show ¬ q = 33 by omega), if_neg (show ¬ q = 32 by omega), if_neg (show ¬ q = 31 by omega), if_neg (show ¬ q = 31 by omega), if_neg (show ¬ q = 31 by omega), if_neg (show ¬ q = 31 by omega), if_neg (show ¬ q = 31 by omega), if_neg (show ¬ q = 31 by omega), if_neg (show ¬ q = 31 by omega), if_neg (show ¬ q = 31 by omega), if_neg (show ¬ q = 31 by omega)]
  · have : j = 0 ∨ j = 1 ∨ j = 2 ∨ j = 3 ∨ j = 4 ∨ j = 5 ∨ j = 6 ∨ j = 7 ∨ j = 8 := by omega
    rcases this with z | z | z | z | z | z | z | z | z <;> subst z <;> simp [sgc1, sg1]
  · have : d = 0 ∨ d = 1 ∨ d = 2 := by omega
    rcases this with z | z | z <;> subst z <;> simp [sgc1, sg1]
  · have hi : i = 2 ∨ i = 3 ∨ i = 4 ∨ i = 5 ∨ i = 6 ∨ i = 7 := by omega
    rcases hi with z | z | z | z | z | z <;> subst z <;> simp [sgc1, sg1, hs]
theorem q_11_39_15 {h : zH} {Q : Option Value → zH → Prop} (H : ∀ h', (∀ q : Nat, (q < 39 ∨ 47 ≤ q) → h'.1 q = h.1 q) → (∀ j : Nat, j < 9 → h'.1 39 j = h.1 15 j) → (∀ d : Nat, d < 3 → h'.1 (39 + 1) d = h.1 (15 + 1) d) → (∀ i : Nat, 2 ≤ i → i < 8 → ∀ s : Nat, s < 4 → h'.1 (39 + i) s = h.1 (15 + i) s) → Q none h') : zqm 11 [.ref 39, .ref 15] h Q := by
  refine s_11_39_15 (H _ (fun q hq => ?_) (fun j hj => ?_) (fun d hd => ?_) (fun i h2 h8 s hs => ?_))
  · funext j
    simp only [sgc1, sg1]
    rw [if_neg (show ¬ q = 46 by omega), if_neg (show ¬ q = 45 by omega), if_neg (show ¬ q = 44 by omega), if_neg (show ¬ q = 43 by omega), if_neg (show ¬ q = 42 by omega), if_neg (show ¬ q = 41 by omega), if_neg (show ¬ q = 40 by omega), if_neg (show ¬ q = 39 by omega), if_neg (show ¬ q = 39 by omega), if_neg (show ¬ q = 39 by omega), if_neg (show ¬ q = 39 by omega), if_neg (show ¬ q = 39 by omega), if_neg (show ¬ q = 39 by omega), if_neg (show ¬ q = 39 by omega), if_neg (show ¬ q = 39 by omega), if_neg (show ¬ q = 39 by omega)]
  · have : j = 0 ∨ j = 1 ∨ j = 2 ∨ j = 3 ∨ j = 4 ∨ j = 5 ∨ j = 6 ∨ j = 7 ∨ j = 8 := by omega
    rcases this with z | z | z | z | z | z | z | z | z <;> subst z <;> simp [sgc1, sg1]
  · have : d = 0 ∨ d = 1 ∨ d = 2 := by omega
    rcases this with z | z | z <;> subst z <;> simp [sgc1, sg1]
  · have hi : i = 2 ∨ i = 3 ∨ i = 4 ∨ i = 5 ∨ i = 6 ∨ i = 7 := by omega
    rcases hi with z | z | z | z | z | z <;> subst z <;> simp [sgc1, sg1, hs]
theorem q_11_15_31 {h : zH} {Q : Option Value → zH → Prop} (H : ∀ h', (∀ q : Nat, (q < 15 ∨ 23 ≤ q) → h'.1 q = h.1 q) → (∀ j : Nat, j < 9 → h'.1 15 j = h.1 31 j) → (∀ d : Nat, d < 3 → h'.1 (15 + 1) d = h.1 (31 + 1) d) → (∀ i : Nat, 2 ≤ i → i < 8 → ∀ s : Nat, s < 4 → h'.1 (15 + i) s = h.1 (31 + i) s) → Q none h') : zqm 11 [.ref 15, .ref 31] h Q := by
  refine s_11_15_31 (H _ (fun q hq => ?_) (fun j hj => ?_) (fun d hd => ?_) (fun i h2 h8 s hs => ?_))
  · funext j
    simp only [sgc1, sg1]
    rw [if_neg (show ¬ q = 22 by omega), if_neg (show ¬ q = 21 by omega), if_neg (show ¬ q = 20 by omega), if_neg (show ¬ q = 19 by omega), if_neg (show ¬ q = 18 by omega), if_neg (show ¬ q = 17 by omega), if_neg (show ¬ q = 16 by omega), if_neg (show ¬ q = 15 by omega), if_neg (show ¬ q = 15 by omega), if_neg (show ¬ q = 15 by omega), if_neg (show ¬ q = 15 by omega), if_neg (show ¬ q = 15 by omega), if_neg (show ¬ q = 15 by omega), if_neg (show ¬ q = 15 by omega), if_neg (show ¬ q = 15 by omega), if_neg (show ¬ q = 15 by omega)]
  · have : j = 0 ∨ j = 1 ∨ j = 2 ∨ j = 3 ∨ j = 4 ∨ j = 5 ∨ j = 6 ∨ j = 7 ∨ j = 8 := by omega
    rcases this with z | z | z | z | z | z | z | z | z <;> subst z <;> simp [sgc1, sg1]
  · have : d = 0 ∨ d = 1 ∨ d = 2 := by omega
    rcases this with z | z | z <;> subst z <;> simp [sgc1, sg1]
  · have hi : i = 2 ∨ i = 3 ∨ i = 4 ∨ i = 5 ∨ i = 6 ∨ i = 7 := by omega
    rcases hi with z | z | z | z | z | z <;> subst z <;> simp [sgc1, sg1, hs]
theorem q_11_15_39 {h : zH} {Q : Option Value → zH → Prop} (H : ∀ h', (∀ q : Nat, (q < 15 ∨ 23 ≤ q) → h'.1 q = h.1 q) → (∀ j : Nat, j < 9 → h'.1 15 j = h.1 39 j) → (∀ d : Nat, d < 3 → h'.1 (15 + 1) d = h.1 (39 + 1) d) → (∀ i : Nat, 2 ≤ i → i < 8 → ∀ s : Nat, s < 4 → h'.1 (15 + i) s = h.1 (39 + i) s) → Q none h') : zqm 11 [.ref 15, .ref 39] h Q := by
  refine s_11_15_39 (H _ (fun q hq => ?_) (fun j hj => ?_) (fun d hd => ?_) (fun i h2 h8 s hs => ?_))
  · funext j
    simp only [sgc1, sg1]
    rw [if_neg (show ¬ q = 22 by omega), if_neg (show ¬ q = 21 by omega), if_neg (show ¬ q = 20 by omega), if_neg (show ¬ q = 19 by omega), if_neg (show ¬ q = 18 by omega), if_neg (show ¬ q = 17 by omega), if_neg (show ¬ q = 16 by omega), if_neg (show ¬ q = 15 by omega), if_neg (show ¬ q = 15 by omega), if_neg (show ¬ q = 15 by omega), if_neg (show ¬ q = 15 by omega), if_neg (show ¬ q = 15 by omega), if_neg (show ¬ q = 15 by omega), if_neg (show ¬ q = 15 by omega), if_neg (show ¬ q = 15 by omega), if_neg (show ¬ q = 15 by omega)]
  · have : j = 0 ∨ j = 1 ∨ j = 2 ∨ j = 3 ∨ j = 4 ∨ j = 5 ∨ j = 6 ∨ j = 7 ∨ j = 8 := by omega
    rcases this with z | z | z | z | z | z | z | z | z <;> subst z <;> simp [sgc1, sg1]
  · have : d = 0 ∨ d = 1 ∨ d = 2 := by omega
    rcases this with z | z | z <;> subst z <;> simp [sgc1, sg1]
  · have hi : i = 2 ∨ i = 3 ∨ i = 4 ∨ i = 5 ∨ i = 6 ∨ i = 7 := by omega
    rcases hi with z | z | z | z | z | z <;> subst z <;> simp [sgc1, sg1, hs]
/-! the ties of tape, fault, county -/
def JT (h : zH) : Prop := h.1 13 1 = h.1 58 5 ∧ ∀ k : Nat, (k : Int) < (h.1 13 1).toInt → h.1 14 k = h.1 62 k
def JF (h : zH) : Prop := h.1 0 10 = h.1 58 6
def nowG (h : zH) : Nat → Int := fun k => (h.1 64 k).toInt
def JC (h : zH) : Prop := CT h 15 (nowG h) ∧ (nowG h 61 = 1 → h.1 58 13 = mkm (smB (gyD (nowG h))) 15 ∧ ∀ s : Nat, (s : Int) < nowG h 57 → h.1 66 s = mkm (flB (gyD (nowG h)) (gyE (nowG h) s)) 15)
/-- county, by the class -/
theorem q_85 {h : zH} {Q : Option Value → zH → Prop} {T : Nat → Int32} {N : Int} (hT : h.1 14 = T) (hN : (h.1 13 1).toInt = N) (n0 : 0 ≤ N) (n1 : N ≤ 120)
    (k1 : ∀ (K : Nat) (w : Int32) (h' : zH), stp T N (e3 T N) K → ¬ (menS T N (e3 T N) K).2 = 0 → w.toInt = (menS T N (e3 T N) K).1 → (∀ q : Nat, q ≠ 0 → q ≠ 13 → (q < 23 ∨ 31 ≤ q) → h'.1 q = h.1 q) → h'.1 13 1 = Int32.ofInt 0 → (h'.1 0 10).toInt = (menS T N (e3 T N) K).2 → (∀ j, j ≠ 10 → h'.1 0 j = h.1 0 j) → Q (some (.int ((-1000100 : Int32) - w))) h')
    (k2 : ∀ (K : Nat) (h' : zH), stp T N (e3 T N) K → (menS T N (e3 T N) K).2 = 0 → (∀ q : Nat, q ≠ 13 → (q < 15 ∨ 31 ≤ q) → q ≠ 48 → h'.1 q = h.1 q) → h'.1 13 1 = Int32.ofInt 0 → h'.1 48 3 = Int32.ofInt 0 → h'.1 48 4 = Int32.ofInt 0 → (∀ G, pg T N K G → CT h' 15 G) → (h'.1 15 6).toInt = (K : Int) → Q (some (.int (h'.1 15 6))) h') : zqm 85 [.ref 0] h Q := by
  refine s_85 ?_
  refine q_55 hT hN n0 n1 (fun K h1 s1 s2 f1 f2 => ?_) (fun K h1 s1 s2 f1 f2 f3 => ?_)
  · have a1 : (h1.1 13 2).toInt = (menS T N (e3 T N) K).1 := by rw [← f2]; rfl
    have a2 : (h1.1 13 3).toInt = (menS T N (e3 T N) K).2 := by rw [← f2]; rfl
    rw [fr2 (show (3 : Nat) ≠ 1 by decide), fr2 (show (2 : Nat) ≠ 1 by decide)]
    refine ⟨fun z => absurd (by rw [← a2]; exact z) s2, fun _ => ?_⟩
    refine k1 K _ _ s1 s2 a1 (fun q c1 c2 c3 => ?_) ?_ ?_ (fun j hj => ?_)
    · rw [fr1 c1, fr1 c2, f1 q c2 (by omega) (by omega) (by omega) (by omega) (by omega)]
    · rw [fr1 (by decide), fr3]
    · rw [fr3]; exact a2
    · rw [fr2 hj, fr1 (by decide), f1 0 (by decide) (by decide) (by decide) (by decide) (by decide) (by decide)]
  · obtain ⟨d1, d2, d3, d4, d5, d6, d7, d8⟩ := f3
    have K4 := menS_4 s2 (Or.inr trivial)
    -- any numbers of this text
    have pG : pg T N K (fun k => if k < 15 then vLand T N k else if k < 30 then vSheet T N (k - 15) else if k < 45 then vDist T N (k - 30) else if k < 57 then (if (k - 45) % 3 = 0 then kd (pk T N (menS T N (e3 T N) ((k - 45) / 3)).1) else if (k - 45) % 3 = 1 then (man1 T N (menS T N (e3 T N) ((k - 45) / 3))).2 else (man2 T N (menS T N (e3 T N) ((k - 45) / 3))).2) else if k = 57 then (K : Int) else if k = 58 then (law1 T N (0, 0)).2 else if k = 59 then (law2 T N (0, 0)).2 else if k = 60 then 0 else 1) := by
      refine ⟨fun c hc => ⟨?_, ?_, ?_⟩, ?_, ?_, ?_, fun j hj => ⟨?_, ?_, ?_⟩, ?_, ?_⟩
      · simp only [if_pos hc]
      · simp only [if_neg (show ¬ 15 + c < 15 by omega), if_pos (show 15 + c < 30 by omega), show 15 + c - 15 = c by omega]
      · simp only [if_neg (show ¬ 30 + c < 15 by omega), if_neg (show ¬ 30 + c < 30 by omega), if_pos (show 30 + c < 45 by omega), show 30 + c - 30 = c by omega]
      · rfl
      · rfl
      · rfl
      · simp only [if_neg (show ¬ 45 + 3 * j < 15 by omega), if_neg (show ¬ 45 + 3 * j < 30 by omega), if_neg (show ¬ 45 + 3 * j < 45 by omega), if_pos (show 45 + 3 * j < 57 by omega), if_pos (show (45 + 3 * j - 45) % 3 = 0 by omega), show (45 + 3 * j - 45) / 3 = j by omega]
      · simp only [if_neg (show ¬ 45 + 3 * j + 1 < 15 by omega), if_neg (show ¬ 45 + 3 * j + 1 < 30 by omega), if_neg (show ¬ 45 + 3 * j + 1 < 45 by omega), if_pos (show 45 + 3 * j + 1 < 57 by omega), if_neg (show ¬ (45 + 3 * j + 1 - 45) % 3 = 0 by omega), if_pos (show (45 + 3 * j + 1 - 45) % 3 = 1 by omega), show (45 + 3 * j + 1 - 45) / 3 = j by omega]
      · simp only [if_neg (show ¬ 45 + 3 * j + 2 < 15 by omega), if_neg (show ¬ 45 + 3 * j + 2 < 30 by omega), if_neg (show ¬ 45 + 3 * j + 2 < 45 by omega), if_pos (show 45 + 3 * j + 2 < 57 by omega), if_neg (show ¬ (45 + 3 * j + 2 - 45) % 3 = 0 by omega), if_neg (show ¬ (45 + 3 * j + 2 - 45) % 3 = 1 by omega), show (45 + 3 * j + 2 - 45) / 3 = j by omega]
      · rfl
      · rfl
    have wf := pg_wf s1 s2 pG
    generalize hG : (fun k => if k < 15 then vLand T N k else if k < 30 then vSheet T N (k - 15) else if k < 45 then vDist T N (k - 30) else if k < 57 then (if (k - 45) % 3 = 0 then kd (pk T N (menS T N (e3 T N) ((k - 45) / 3)).1) else if (k - 45) % 3 = 1 then (man1 T N (menS T N (e3 T N) ((k - 45) / 3))).2 else (man2 T N (menS T N (e3 T N) ((k - 45) / 3))).2) else if k = 57 then (K : Int) else if k = 58 then (law1 T N (0, 0)).2 else if k = 59 then (law2 T N (0, 0)).2 else if k = 60 then 0 else 1) = G at pG wf
    obtain ⟨p1, p2, p3, p4, p5, p6, p7⟩ := id pG
    obtain ⟨w1, w2, w3, w4, w5, w6⟩ := id wf
    have mE : ∀ s : Nat, s < K → gyK G s = kd (pk T N (menS T N (e3 T N) s).1) ∧ gyE G s = (man1 T N (menS T N (e3 T N) s)).2 ∧ gyS G s = (man2 T N (menS T N (e3 T N) s)).2 := fun s hs => p5 s hs
    refine q_12 (gyD G) (gyE G) (gyK G) (gyS G) K d6 K4 (fun d hd => ?_) (fun c hc => (w1 c hc).2.2) (fun s hs => ?_) (fun s hs => ?_) (fun h3 u1 u2 u3 u4 u5 u6 => ?_)
    · rw [d7 d hd]
      exact mkm_congr (by omega) (fun c hc => by rw [show gyD G c = vDist T N c from (p1 c hc).2.2])
    · obtain ⟨m1, m2, m3⟩ := mE s hs
      rw [m1, m2, m3]
      exact d8 s hs
    · have := w5 s (by rw [p2]; omega)
      exact ⟨this.2.1.1, this.2.1.2, by have := this.2.2.1; omega, this.2.2.2⟩
    · have a2 : (h1.1 13 3).toInt = (menS T N (e3 T N) K).2 := by rw [← f2]; rfl
      have z13 : (zSet h3 13 1 (Int32.ofInt 0)).1 13 3 = h1.1 13 3 := by rw [fr2 (by decide), u1 13 (by decide) (by decide) (by decide) (by decide)]
      rw [z13]
      refine ⟨fun _ => ?_, fun z => absurd (by rw [a2]; exact s2) z⟩
      have C3 : CT (zSet h3 13 1 (Int32.ofInt 0)) 23 G := by
        refine CT_fr (h := h3) (fun q h1 h2 => fr1 (by omega)) (Or.inr ⟨p7, wf, ?_, ?_, ?_, ?_, ?_, ?_, ?_, u4, ?_, fun d hd => ?_, fun s hs => ?_⟩)
        · rw [u3]; decide
        · rw [u2 1 (by decide) (by decide) (by decide), p3]; exact d1
        · rw [u2 2 (by decide) (by decide) (by decide), p4]; exact d2
        · rw [u2 3 (by decide) (by decide) (by decide)]; exact pl_congr d3 (fun c hc => ((p1 c hc).1).symm)
        · rw [u2 4 (by decide) (by decide) (by decide)]; exact pl_congr d4 (fun c hc => ((p1 c hc).2.1).symm)
        · rw [u2 5 (by decide) (by decide) (by decide), p6, d5]; exact kc_0
        · rw [u2 6 (by decide) (by decide) (by decide), p2]; exact d6
        · have eK : gyN G = K := by
            unfold gyN
            rw [p2]
            omega
          rw [u6]
          show mkm (itB (gyD G) K (gyE G) (gyK G) (gyS G)) 15 = mkm (itB (gyD G) (gyN G) (gyE G) (gyK G) (gyS G)) 15
          rw [eK]
        · rw [u1 (23 + 1) (by decide) (by decide) (by decide) (by decide)]
          show h1.1 24 d = _
          rw [d7 d hd]
          exact mkm_congr (by omega) (fun c hc => by rw [show gyD G c = vDist T N c from (p1 c hc).2.2])
        · have hs' : s < K := by rw [p2] at hs; omega
          obtain ⟨m1, m2, m3⟩ := mE s hs'
          obtain ⟨x1, x2, x3⟩ := d8 s hs'
          obtain ⟨y1, y2, y3⟩ := u5 s hs'
          refine ⟨?_, ?_, ?_, y1, y2, y3⟩
          · rw [u1 (23 + 2) (by decide) (by decide) (by decide) (by decide), m1]; exact x1
          · rw [u1 (23 + 3) (by decide) (by decide) (by decide) (by decide), m2]; exact x2
          · rw [u1 (23 + 4) (by decide) (by decide) (by decide) (by decide), m3]; exact x3
      refine q_11_15_23 (fun h4 v1 v2 v3 v4 => ?_)
      refine s_0 ?_
      have C4 := CT_copy (h := zSet h3 13 1 (Int32.ofInt 0)) (h' := h4) (b := 15) (o := 23) v2 v3 v4 C3
      have C5 : CT (zSet (zSet h4 48 3 (Int32.ofInt 0)) 48 4 (Int32.ofInt 0)) 15 G := CT_fr (fun q h1 h2 => by rw [fr1 (by omega), fr1 (by omega)]) C4
      have c6 : ((zSet (zSet h4 48 3 (Int32.ofInt 0)) 48 4 (Int32.ofInt 0)).1 15 6).toInt = (K : Int) := by
        rw [fr1 (by decide), fr1 (by decide), v2 6 (by decide), fr1 (by decide), u2 6 (by decide) (by decide) (by decide)]
        exact d6
      refine k2 K _ s1 s2 (fun q c1 c2 c3 => ?_) ?_ ?_ fr3 (fun G' hG' => ?_) c6
      · rw [fr1 c3, fr1 c3, v1 q (by omega), fr1 c1, u1 q (by omega) (by omega) (by omega) (by omega), f1 q c1 (by omega) (by omega) (by omega) (by omega) (by omega)]
      · rw [fr1 (by decide), fr1 (by decide), v1 13 (by decide), fr3]
      · rw [fr2 (by decide), fr3]
      · -- numbers of one text agree where it matters
        obtain ⟨r1, r2, r3, r4, r5, r6, r7⟩ := hG'
        have C6 : CT (zSet (zSet h4 48 3 (Int32.ofInt 0)) 48 4 (Int32.ofInt 0)) 15 (fun k => if 45 + 3 * K ≤ k ∧ k < 57 then G' k else G k) := by
          rcases C5 with ⟨z1, -⟩ | C5
          · exact absurd (z1 61 (by decide)) (by rw [p7]; decide)
          · have : ∀ G1 G2 : Nat → Int, (∀ k, ¬ (45 + 3 * K ≤ k ∧ k < 57) → G1 k = G2 k) → G1 57 = (K : Int) → CT1 (zSet (zSet h4 48 3 (Int32.ofInt 0)) 48 4 (Int32.ofInt 0)) 15 G1 → CT1 (zSet (zSet h4 48 3 (Int32.ofInt 0)) 48 4 (Int32.ofInt 0)) 15 G2 := by
              intro G1 G2 e hK hC
              obtain ⟨c1, c2, c3, c4, c5, c6, c7, c8, c9, c10, c11, c12, c13⟩ := hC
              obtain ⟨w1, w2, w3, w4, w5, w6⟩ := c2
              have e57 := e 57 (by omega)
              have eD : gyD G1 = gyD G2 ∨ True := Or.inr trivial
              have eD : ∀ c : Nat, c < 15 → gyD G1 c = gyD G2 c := fun c hc => e (30 + c) (by omega)
              have sm : ∀ c : Nat, c < 15 → smB (gyD G1) c = smB (gyD G2) c := fun c hc => anyc_c (fun d hd => by rw [eD d hd, eD c hc])
              have fl : ∀ m : Int, ∀ c : Nat, c < 15 → flB (gyD G1) m c = flB (gyD G2) m c := fun m c hc => by
                unfold flB
                rw [eD c hc, sm c hc, anyc_c (fun d hd => by rw [eD d hd])]
              have eM : ∀ s : Nat, (s : Int) < G1 57 → gyK G1 s = gyK G2 s ∧ gyE G1 s = gyE G2 s ∧ gyS G1 s = gyS G2 s := fun s hs => ⟨e _ (by omega), e _ (by omega), e _ (by omega)⟩
              refine ⟨by rw [← e 61 (by omega)]; exact c1, ⟨fun c hc => ?_, by rw [← e57]; exact w2, by rw [← e 58 (by omega)]; exact w3, by rw [← e 59 (by omega)]; exact w4, fun s hs => ?_, by rw [← e 60 (by omega)]; exact w6⟩, c3, by rw [← e 58 (by omega)]; exact c4, by rw [← e 59 (by omega)]; exact c5, pl_congr c6 (fun c hc => e c (by omega)), pl_congr c7 (fun c hc => e (15 + c) (by omega)), by rw [← e 60 (by omega)]; exact c8, by rw [← e57]; exact c9, ?_, ?_, fun d hd => ?_, fun s hs => ?_⟩
              · rw [← e c (by omega), ← e (15 + c) (by omega), ← e (30 + c) (by omega)]; exact w1 c hc
              · rw [← e57] at hs
                obtain ⟨m1, m2, m3⟩ := eM s hs
                rw [← m1, ← m2, ← m3]; exact w5 s hs
              · rw [c10]; exact mkm_congr (by omega) sm
              · rw [c11]
                refine mkm_congr (by omega) (fun c hc => ?_)
                show itB _ _ _ _ _ c = itB _ _ _ _ _ c
                unfold itB gyN
                rw [← e57]
                refine anyc_c (fun s hs => ?_)
                obtain ⟨m1, m2, m3⟩ := eM s (by omega)
                unfold tk
                rw [m1, m2, m3, fl _ c hc, sm c hc]
              · rw [c12 d hd]; exact mkm_congr (by omega) (fun c hc => by rw [eD c hc])
              · rw [← e57] at hs
                obtain ⟨m1, m2, m3⟩ := eM s hs
                obtain ⟨u1, u2, u3, u4, u5, u6⟩ := c13 s hs
                rw [← m1, ← m2, ← m3]
                refine ⟨u1, u2, u3, ?_, u5, u6⟩
                rw [u4]; exact mkm_congr (by omega) (fl _)
            exact Or.inr (this G _ (fun k hk => (if_neg hk).symm) p2 C5)
        refine CT_congr (fun k hk => ?_) C6
        by_cases z : 45 + 3 * K ≤ k ∧ k < 57
        · exact if_pos z
        · rw [if_neg z]
          by_cases z1 : k < 15
          · rw [(p1 k z1).1, (r1 k z1).1]
          · by_cases z2 : k < 30
            · have a := (p1 (k - 15) (by omega)).2.1
              have b := (r1 (k - 15) (by omega)).2.1
              rw [show 15 + (k - 15) = k by omega] at a b
              rw [a, b]
            · by_cases z3 : k < 45
              · have a := (p1 (k - 30) (by omega)).2.2
                have b := (r1 (k - 30) (by omega)).2.2
                rw [show 30 + (k - 30) = k by omega] at a b
                rw [a, b]
              · by_cases z4 : k < 57
                · obtain ⟨a1, a2, a3⟩ := p5 ((k - 45) / 3) (by omega)
                  obtain ⟨b1, b2, b3⟩ := r5 ((k - 45) / 3) (by omega)
                  have : k = 45 + 3 * ((k - 45) / 3) ∨ k = 45 + 3 * ((k - 45) / 3) + 1 ∨ k = 45 + 3 * ((k - 45) / 3) + 2 := by omega
                  rcases this with y | y | y
                  · rw [y, a1, b1]
                  · rw [y, a2, b2]
                  · rw [y, a3, b3]
                · have : k = 57 ∨ k = 58 ∨ k = 59 ∨ k = 60 ∨ k = 61 := by omega
                  rcases this with y | y | y | y | y <;> subst y
                  · rw [p2, r2]
                  · rw [p3, r3]
                  · rw [p4, r4]
                  · rw [p6, r6]
                  · rw [p7, r7]

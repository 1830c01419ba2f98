/-! what is done: strokes, brooks, the land that obliges, years, what is undone -/
def actOk (G B : Nat → Int) : Prop := G 61 = 1 ∧ (∀ k : Nat, 30 ≤ k → k < 62 → k ≠ 60 → B k = G k) ∧ (∀ c : Nat, c < 15 → (0 ≤ B c ∧ B c ≤ 3) ∧ (0 ≤ B (15 + c) ∧ B (15 + c) ≤ 3)) ∧ 0 ≤ B 60 ∧ B 60 ≤ 999
def JA (h : zH) : Prop := ∃ (n : Nat) (A : Nat → Nat → Int), clA h n A ∧ rfA h n A ∧ ∀ i : Nat, i < n → actOk (nowG h) (A i)
theorem actOk_g {G G' B : Nat → Int} (e : ∀ k : Nat, 30 ≤ k → k < 62 → k ≠ 60 → G' k = G k) (h : actOk G B) : actOk G' B := ⟨by rw [e 61 (by omega) (by omega) (by omega)]; exact h.1, fun k h1 h2 h3 => by rw [e k h1 h2 h3]; exact h.2.1 k h1 h2 h3, h.2.2⟩
theorem actOk_push {n : Nat} {A : Nat → Nat → Int} {G : Nat → Int} (hA : ∀ i : Nat, i < n → actOk G (A i)) (hn : n ≤ 24) (hG : actOk G G) : ∀ i : Nat, i < pushN n → actOk G (pushA n A G i) := fun i hi => by
  unfold pushN at hi
  unfold pushA
  by_cases z : n < 24
  · rw [if_pos z] at hi
    simp only [if_pos z]
    by_cases y : i = n
    · rw [if_pos y]; exact hG
    · rw [if_neg y]; exact hA i (by omega)
  · rw [if_neg z] at hi
    simp only [if_neg z]
    by_cases y : i = 23
    · rw [if_pos y]; exact hG
    · rw [if_neg y]; exact hA (i + 1) (by omega)
theorem wf_act {G : Nat → Int} (g1 : G 61 = 1) (w : wfG G) : actOk G G := ⟨g1, fun _ _ _ _ => rfl, fun c hc => ⟨(w.1 c hc).1, (w.1 c hc).2.1⟩, w.2.2.2.2.2.1, w.2.2.2.2.2.2⟩
/-- land, sheet and year are others; the rest stands -/
theorem CT1_upd {h h' : zH} {b : Nat} {G G' : Nat → Int} (hC : CT1 h b G) (e : ∀ k : Nat, 30 ≤ k → k < 62 → k ≠ 60 → G' k = G k) (w : ∀ c : Nat, c < 15 → (0 ≤ G' c ∧ G' c ≤ 3) ∧ (0 ≤ G' (15 + c) ∧ G' (15 + c) ≤ 3)) (w60 : 0 ≤ G' 60 ∧ G' 60 ≤ 999) (hq : ∀ i : Nat, 1 ≤ i → i < 8 → h'.1 (b + i) = h.1 (b + i)) (hj : ∀ j : Nat, j ≠ 3 → j ≠ 4 → j ≠ 5 → h'.1 b j = h.1 b j) (p3 : pl (h'.1 b 3) G') (p4 : pl (h'.1 b 4) (fun c => G' (15 + c))) (p5 : (h'.1 b 5).toInt = G' 60) : CT1 h' b G' := by
  obtain ⟨c1, c2, c3, c4, c5, c6, c7, c8, c9, c10, c11, c12, c13⟩ := hC
  obtain ⟨w1, w2, w3, w4, w5, w6⟩ := c2
  have e57 := e 57 (by omega) (by omega) (by omega)
  have eD : ∀ c : Nat, c < 15 → gyD G' c = gyD G c := fun c hc => e (30 + c) (by omega) (by omega) (by omega)
  have sm : ∀ c : Nat, c < 15 → smB (gyD G) c = smB (gyD G') c := fun c hc => anyc_c (fun d hd => by rw [eD d hd, eD c hc])
  have fl : ∀ m : Int, ∀ c : Nat, c < 15 → flB (gyD G) m c = flB (gyD G') m c := fun m c hc => by
    unfold flB
    rw [eD c hc, sm c hc, anyc_c (fun d hd => by rw [← eD d hd])]
  have eM : ∀ s : Nat, (s : Int) < G 57 → gyK G' s = gyK G s ∧ gyE G' s = gyE G s ∧ gyS G' s = gyS G s := fun s hs => ⟨e _ (by omega) (by omega) (by omega), e _ (by omega) (by omega) (by omega), e _ (by omega) (by omega) (by omega)⟩
  refine ⟨by rw [e 61 (by omega) (by omega) (by omega)]; exact c1, ⟨fun c hc => ⟨(w c hc).1, (w c hc).2, by rw [e (30 + c) (by omega) (by omega) (by omega)]; exact (w1 c hc).2.2⟩, by rw [e57]; exact w2, by rw [e 58 (by omega) (by omega) (by omega)]; exact w3, by rw [e 59 (by omega) (by omega) (by omega)]; exact w4, fun s hs => ?_, w60⟩, by rw [hj 0 (by decide) (by decide) (by decide)]; exact c3, by rw [hj 1 (by decide) (by decide) (by decide), e 58 (by omega) (by omega) (by omega)]; exact c4, by rw [hj 2 (by decide) (by decide) (by decide), e 59 (by omega) (by omega) (by omega)]; exact c5, p3, p4, p5, by rw [hj 6 (by decide) (by decide) (by decide), e57]; exact c9, ?_, ?_, fun d hd => ?_, fun s hs => ?_⟩
  · rw [e57] at hs
    obtain ⟨m1, m2, m3⟩ := eM s hs
    rw [m1, m2, m3]; exact w5 s hs
  · rw [hj 7 (by decide) (by decide) (by decide), c10]; exact mkm_congr (by omega) sm
  · rw [hj 8 (by decide) (by decide) (by decide), c11]
    refine mkm_congr (by omega) (fun c hc => ?_)
    show itB _ _ _ _ _ c = itB _ _ _ _ _ c
    unfold itB gyN
    rw [e57]
    refine anyc_c (fun s hs => ?_)
    obtain ⟨m1, m2, m3⟩ := eM s (by omega)
    unfold tk
    rw [m1, m2, m3, fl _ c hc, sm c hc]
  · rw [hq 1 (by decide) (by decide), c12 d hd]; exact mkm_congr (by omega) (fun c hc => by rw [eD c hc])
  · rw [e57] at hs
    obtain ⟨m1, m2, m3⟩ := eM s hs
    obtain ⟨u1, u2, u3, u4, u5, u6⟩ := c13 s hs
    rw [m1, m2, m3, hq 2 (by decide) (by decide), hq 3 (by decide) (by decide), hq 4 (by decide) (by decide), hq 5 (by decide) (by decide), hq 6 (by decide) (by decide), hq 7 (by decide) (by decide)]
    refine ⟨u1, u2, u3, ?_, u5, u6⟩
    rw [u4]; exact mkm_congr (by omega) (fl _)
theorem q_150 {h : zH} {Q : Option Value → zH → Prop} (H : Q (some (.int (zbo (nowG h 61 = 1)))) h) : zqm 150 [.ref 58] h Q := by
  refine s_150 ⟨fun c => ?_, fun c => ?_⟩
  · rw [zbF (show ¬ nowG h 61 = 1 from c)] at H; exact H
  · rw [zbT (show nowG h 61 = 1 from Decidable.not_not.mp c)] at H; exact H
theorem q_151 {h : zH} {Q : Option Value → zH → Prop} (a0 : Int32) (H : Q (some (.int (zbo (0 ≤ a0.toInt ∧ a0.toInt < 15)))) h) : zqm 151 [.int a0] h Q := by
  refine s_151 a0 ?_
  refine q_121 _ _ _ ?_
  refine zri_int ?_
  rw [kc_0, kc_14, zbC (q := 0 ≤ a0.toInt ∧ a0.toInt < 15) (by omega)]
  exact H
theorem q_119 {h : zH} {Q : Option Value → zH → Prop} (a0 : Int32) (H : Q (some (.int (zbo (0 ≤ a0.toInt ∧ a0.toInt < 15)))) h) : zqm 119 [.int a0] h Q := by
  refine s_119 a0 ⟨fun c => ?_, fun c => ⟨fun d => ?_, fun d => ?_⟩⟩
  · rw [zbF (by omega)] at H; exact H
  · first | (rw [zbF (by omega)] at H; exact H) | (rw [zbT (by omega)] at H; exact H)
  · first | (rw [zbF (by omega)] at H; exact H) | (rw [zbT (by omega)] at H; exact H)
theorem q_25 {h : zH} {Q : Option Value → zH → Prop} (G : Nat → Int) (p3 : pl (h.1 15 3) G) (p4 : pl (h.1 15 4) (fun c => G (15 + c))) (w : ∀ c : Nat, c < 15 → (0 ≤ G c ∧ G c ≤ 3) ∧ (0 ≤ G (15 + c) ∧ G (15 + c) ≤ 3)) (H : Q (some (.int (mkm (wr G) 15))) h) : zqm 25 [.ref 15] h Q := by
  refine s_25 ?_
  refine q_51 _ _ _ _ p3 p4 (fun c hc => (w c hc).1) (fun c hc => (w c hc).2) ?_
  exact zri_int H
theorem drw_hi {G : Nat → Int} {c : Nat} {s : Int} {k : Nat} (hc : c < 15) (hk : k < 15 ∨ 30 ≤ k) : drw G c s k = G k := by
  unfold drw
  by_cases z : G 58 = 0
  · rw [if_pos z, if_neg (by omega)]
  · rw [if_neg z, if_neg (by omega), if_neg (by omega)]
theorem drw_ra {G : Nat → Int} {c : Nat} {s : Int} (w : wfG G) (s0 : 0 ≤ s) (s3 : s ≤ 3) (hc : c < 15) (d : Nat) (hd : d < 15) : 0 ≤ drw G c s (15 + d) ∧ drw G c s (15 + d) ≤ 3 := by
  have := (w.1 d hd).2.1
  unfold drw
  repeat' split
  all_goals omega
/-- the class's county behind what is done -/
theorem JC_mk {h : zH} {G : Nat → Int} (hG : ∀ k : Nat, k < 62 → nowG h k = G k) (hC : CT1 h 15 G) (hS : h.1 58 13 = mkm (smB (gyD G)) 15) (hF : ∀ s : Nat, (s : Int) < G 57 → h.1 66 s = mkm (flB (gyD G) (gyE G s)) 15) : JC h := by
  have C := CT_congr (fun k hk => (hG k hk).symm) (Or.inr hC : CT h 15 G)
  have eD : ∀ c : Nat, c < 15 → gyD G c = gyD (nowG h) c := fun c hc => (hG (30 + c) (by omega)).symm
  have sm : ∀ c : Nat, c < 15 → smB (gyD G) c = smB (gyD (nowG h)) c := fun c hc => anyc_c (fun d hd => by rw [eD d hd, eD c hc])
  refine ⟨C, fun _ => ⟨?_, fun s hs => ?_⟩⟩
  · rw [hS]; exact mkm_congr (by omega) sm
  · rw [hG 57 (by omega)] at hs
    have w4 := hC.2.1.2.1
    rw [hF s hs, show gyE (nowG h) s = gyE G s from hG (45 + 3 * s + 1) (by omega)]
    refine mkm_congr (by omega) (fun c hc => ?_)
    unfold flB
    rw [eD c hc, sm c hc, anyc_c (fun d hd => by rw [eD d hd])]
/-- what JC and JA are, where a county stands -/
theorem JC_1 {h : zH} (jC : JC h) (hs : nowG h 61 = 1) : CT1 h 15 (nowG h) ∧ h.1 58 13 = mkm (smB (gyD (nowG h))) 15 ∧ ∀ s : Nat, (s : Int) < nowG h 57 → h.1 66 s = mkm (flB (gyD (nowG h)) (gyE (nowG h) s)) 15 := by
  obtain ⟨c, d⟩ := jC
  rcases c with c | c
  · exact absurd (c.1 61 (by decide)) (by rw [hs]; decide)
  · exact ⟨c, d hs⟩
theorem JC_0 {h : zH} (jC : JC h) (hs : ¬ nowG h 61 = 1) : (∀ j : Nat, j < 62 → nowG h j = 0) ∧ ∀ j : Nat, j < 9 → (h.1 15 j).toInt = 0 := by
  obtain ⟨c, d⟩ := jC
  rcases c with c | c
  · exact c
  · exact absurd c.1 hs
/-- the reference's and the class's cells behind an act that changes land, sheet or year alone -/
theorem JCA_act {h h1 h2 : zH} {n : Nat} {A : Nat → Nat → Int} {G' : Nat → Int} (C : CT1 h 15 (nowG h)) (cS : h.1 58 13 = mkm (smB (gyD (nowG h))) 15) (cF : ∀ s : Nat, (s : Int) < nowG h 57 → h.1 66 s = mkm (flB (gyD (nowG h)) (gyE (nowG h) s)) 15)
    (oA : ∀ i : Nat, i < n → actOk (nowG h) (A i)) (hn : n ≤ 24)
    (e : ∀ k : Nat, 30 ≤ k → k < 62 → k ≠ 60 → G' k = nowG h k) (w : ∀ c : Nat, c < 15 → (0 ≤ G' c ∧ G' c ≤ 3) ∧ (0 ≤ G' (15 + c) ∧ G' (15 + c) ≤ 3)) (w60 : 0 ≤ G' 60 ∧ G' 60 ≤ 999)
    (q1 : ∀ i : Nat, 1 ≤ i → i < 8 → h1.1 (15 + i) = h.1 (15 + i)) (q2 : ∀ j : Nat, j ≠ 3 → j ≠ 4 → j ≠ 5 → h1.1 15 j = h.1 15 j) (p3 : pl (h1.1 15 3) G') (p4 : pl (h1.1 15 4) (fun c => G' (15 + c))) (p5 : (h1.1 15 5).toInt = G' 60) (cA : clA h1 (pushN n) (pushA n A (nowG h)))
    (r1 : ∀ q : Nat, q < 58 → h2.1 q = h1.1 q) (r2 : h2.1 58 13 = h.1 58 13) (r3 : h2.1 66 = h.1 66) (r4 : rfA h2 (pushN n) (pushA n A (nowG h))) (r5 : ∀ k : Nat, k < 62 → nowG h2 k = G' k) : JC h2 ∧ JA h2 := by
  have C1 : CT1 h1 15 G' := CT1_upd C e w w60 q1 q2 p3 p4 p5
  have C2 : CT1 h2 15 G' := by
    have : CT h2 15 G' := CT_fr (fun q a b => r1 q (by omega)) (Or.inr C1)
    rcases this with z | z
    · exact absurd (z.1 61 (by decide)) (by rw [C1.1]; decide)
    · exact z
  have w57 := C.2.1.2.1
  have eD : ∀ c : Nat, c < 15 → gyD G' c = gyD (nowG h) c := fun c hc => e (30 + c) (by omega) (by omega) (by omega)
  have sm : ∀ c : Nat, c < 15 → smB (gyD (nowG h)) c = smB (gyD G') c := fun c hc => anyc_c (fun d hd => by rw [eD d hd, eD c hc])
  refine ⟨JC_mk r5 C2 ?_ (fun s hs => ?_), pushN n, pushA n A (nowG h), clA_fr (fun q a b => r1 q (by omega)) cA, r4, fun i hi => ?_⟩
  · rw [r2, cS]; exact mkm_congr (by omega) sm
  · rw [e 57 (by omega) (by omega) (by omega)] at hs
    rw [r3, cF s hs, show gyE G' s = gyE (nowG h) s from e (45 + 3 * s + 1) (by omega) (by omega) (by omega)]
    refine mkm_congr (by omega) (fun c hc => ?_)
    unfold flB
    rw [eD c hc, sm c hc, anyc_c (fun d hd => by rw [← eD d hd])]
  · refine actOk_g (G := nowG h) (fun k a b c => ?_) (actOk_push oA hn (wf_act C.1 C.2.1) i hi)
    rw [r5 k b, e k a b c]
abbrev JCA : zH → Prop := fun h => JC h ∧ JA h
theorem pr_stroke : pr2 88 168 2 JCA := by
  intro as hl hv h ht hJ
  match as, hl, hv with
  | [v1, v2], hl, hv =>
    obtain ⟨a, rfl⟩ := hv v1 (by simp)
    obtain ⟨s, rfl⟩ := hv v2 (by simp)
    obtain ⟨jC, jA⟩ := id hJ
    by_cases hs : nowG h 61 = 1
    · obtain ⟨C, cS, cF⟩ := JC_1 jC hs
      obtain ⟨n, A, cA, rA', oA⟩ := id jA
      obtain ⟨c1, c2, c3, c4, c5, c6, c7, c8, c9, c10, c11, c12, c13⟩ := id C
      obtain ⟨w1, w2, w3, w4, w5, w6⟩ := id c2
      have wS : ∀ d : Nat, d < 15 → 0 ≤ nowG h (15 + d) ∧ nowG h (15 + d) ≤ 3 := fun d hd => (w1 d hd).2.1
      have bad : ¬ ((0 ≤ a.toInt ∧ a.toInt < 15) ∧ 0 ≤ s.toInt ∧ s.toInt ≤ 3) → zqm 168 [.ref 58, .int a, .int s] h (fun rv' h2 => hTy h2 → rv' = some (.int (-1000001 : Int32)) ∧ JCA h2) := fun hb => by
        refine s_168 a s ?_
        refine q_150 ?_
        refine zri_int ?_
        refine ⟨fun _ => ?_, fun z => absurd hs (zb2.mp z)⟩
        refine q_151 a ?_
        refine zri_int ?_
        refine ⟨fun _ _ => ⟨rfl, hJ⟩, fun z => ?_⟩
        have z := zb1.mp z
        refine q_121 _ _ _ ?_
        refine zri_int ?_
        rw [kc_0, kc_3]
        exact ⟨fun y => absurd ⟨z, zb1.mp y⟩ hb, fun _ _ => ⟨rfl, hJ⟩⟩
      refine s_88 a s ⟨fun _ => ?_, fun z => absurd (by rw [c3]; decide) z⟩
      refine q_119 a ?_
      refine zri_int ?_
      refine ⟨fun z _ => bad (fun y => zb0.mp z y.1), fun z => ?_⟩
      have z := zb1.mp z
      refine ⟨fun y _ => bad (fun u => by omega), fun y => ⟨fun u => ?_, fun u _ => bad (fun v => by omega)⟩⟩
      have ea : a.toInt = ((a.toInt.toNat : Nat) : Int) := by omega
      have a15 : a.toInt.toNat < 15 := by omega
      -- the reference, up to whether it is drawn so
      have REF : ∀ (g : zH) (P : Option Value → zH → Prop), nowG g = nowG h → (¬ nowG h (15 + a.toInt.toNat) = s.toInt → zqm 148 [.ref 58] g (fun _ h9 => zqm 167 [.ref 58, .ref 64, .int a, .int s] h9 (fun _ h10 => zqm 156 [.ref 58, .ref 64] h10 (fun rv h11 => zri rv (fun v11 => P (some (.int v11)) h11))))) → (nowG h (15 + a.toInt.toNat) = s.toInt → P (some (.int (-1000002 : Int32))) g) → zqm 168 [.ref 58, .int a, .int s] g P := fun g P eg k1 k2 => by
        refine s_168 a s ?_
        refine q_150 ?_
        refine zri_int ?_
        refine ⟨fun _ => ?_, fun t => absurd (by rw [eg]; exact hs) (zb2.mp t)⟩
        refine q_151 a ?_
        refine zri_int ?_
        refine ⟨fun t => absurd z (zb0.mp t), fun _ => ?_⟩
        refine q_121 _ _ _ ?_
        refine zri_int ?_
        rw [kc_0, kc_3]
        refine ⟨fun _ => ?_, fun t => absurd (by omega) (zb2.mp t)⟩
        rw [oI15 ea a15, n15]
        intro _ _
        have e1 : (g.1 64 (15 + a.toInt.toNat)).toInt = nowG h (15 + a.toInt.toNat) := by rw [← eg]; rfl
        rw [e1]
        exact ⟨k1, fun t => k2 (Decidable.not_not.mp t)⟩
      refine q_48 c7 ea a15 (wS _ a15).1 (wS _ a15).2 (fun v6 e6 => ?_)
      refine zri_int ?_
      rw [e6]
      refine ⟨fun t => ?_, fun t _ => REF h _ rfl (fun r => absurd r t) (fun _ _ => ⟨rfl, hJ⟩)⟩
      refine q_1 cA c6 c7 c8 (fun h8 f1 f2 => ?_)
      have g15 : h8.1 15 = h.1 15 := f1 15 (by omega)
      have s4 : ((Int32.ofInt 4 * a) + s).toInt = ((4 * a.toInt.toNat + s.toInt.toNat : Nat) : Int) := by
        rw [wk_add (mi (x := a) (k := 4) (by omega) (by omega) (by omega) (by omega)) rfl (by omega) (by omega)]
        omega
      refine q_27 _ _ (nowG h) a.toInt.toNat s.toInt.toNat (by rw [g15]; exact c7) s4 a15 (by omega) (by rw [g15]; exact c4) (by rw [g15]; exact c5) w3 w4 wS (fun v9 p9 => ?_)
      refine zri_int ?_
      rw [show ((s.toInt.toNat : Nat) : Int) = s.toInt by omega] at p9
      -- the numbers behind the stroke
      have gw : ∀ c : Nat, c < 15 → (0 ≤ drw (nowG h) a.toInt.toNat s.toInt c ∧ drw (nowG h) a.toInt.toNat s.toInt c ≤ 3) ∧ (0 ≤ drw (nowG h) a.toInt.toNat s.toInt (15 + c) ∧ drw (nowG h) a.toInt.toNat s.toInt (15 + c) ≤ 3) := fun c hc => ⟨by rw [drw_hi a15 (Or.inl hc)]; exact (w1 c hc).1, drw_ra c2 (by omega) (by omega) a15 c hc⟩
      have p3 : pl ((zSet h8 15 4 v9).1 15 3) (drw (nowG h) a.toInt.toNat s.toInt) := by
        rw [fr2 (by decide), g15]
        exact pl_congr c6 (fun c hc => (drw_hi a15 (Or.inl hc)).symm)
      refine q_25 (drw (nowG h) a.toInt.toNat s.toInt) p3 (by rw [fr3]; exact p9) gw ?_
      refine zri_int ?_
      intro ht1
      have g64 : (zSet h8 15 4 v9).1 64 = h.1 64 := by rw [fr1 (by decide), f1 64 (by omega)]
      have gG : nowG (zSet h8 15 4 v9) = nowG h := by unfold nowG; rw [g64]
      have g58 : (zSet h8 15 4 v9).1 58 = h.1 58 := by rw [fr1 (by decide), f1 58 (by omega)]
      have g65 : (zSet h8 15 4 v9).1 65 = h.1 65 := by rw [fr1 (by decide), f1 65 (by omega)]
      have g66 : (zSet h8 15 4 v9).1 66 = h.1 66 := by rw [fr1 (by decide), f1 66 (by omega)]
      refine REF _ _ gG (fun _ => ?_) (fun r => absurd r t)
      refine q_148 (rfA_fr (by rw [g58]) g65 rA') (fun h9 x1 x2 x3 => ?_)
      rw [gG] at x3
      have h9G : arG h9 64 = nowG h := by
        unfold arG
        rw [x1 64 (by decide) (by decide), g64]
        rfl
      refine q_167_64 a s a.toInt.toNat ea a15 (by omega) (by omega) (by rw [h9G]; exact w3) (by rw [h9G]; exact w4) (fun d hd => by rw [h9G]; exact wS d hd) (fun h10 y1 y2 => ?_)
      rw [h9G] at y2
      refine q_156_64 ?_
      refine zri_int ?_
      intro _
      have e10 : nowG h10 = drw (nowG h) a.toInt.toNat s.toInt := funext y2
      refine ⟨by rw [show arG h10 64 = drw (nowG h) a.toInt.toNat s.toInt from e10], JCA_act (h1 := zSet h8 15 4 v9) (G' := drw (nowG h) a.toInt.toNat s.toInt) C cS cF oA rA'.2.1 (fun k b1 b2 b3 => drw_hi a15 (Or.inr b1)) gw (by rw [drw_hi a15 (Or.inr (by omega))]; exact w6) (fun i b1 b2 => ?_) (fun j b1 b2 b3 => ?_) p3 (by rw [fr3]; exact p9) ?_ ?_ (fun q hq => ?_) ?_ ?_ (rfA_fr (by rw [y1 58 (by decide)]) (y1 65 (by decide)) x3) (fun k _ => by rw [e10])⟩
      · rw [fr1 (by omega), f1 _ (by omega)]
      · rw [fr2 b2, g15]
      · rw [fr2 (by decide), g15, drw_hi a15 (Or.inr (by omega))]; exact c8
      · exact clA_fr (fun q b1 b2 => fr1 (by omega)) f2
      · rw [y1 q (by omega), x1 q (by omega) (by omega)]
      · rw [y1 58 (by decide), x2 13 (by decide), g58]
      · rw [y1 66 (by decide), x1 66 (by decide) (by decide), g66]
    · obtain ⟨z1, z2⟩ := JC_0 jC hs
      refine s_88 a s ⟨fun z => absurd (z2 0 (by decide)) z, fun _ _ => ?_⟩
      refine s_168 a s ?_
      refine q_150 ?_
      refine zri_int ?_
      exact ⟨fun z => absurd (zb1.mp z) hs, fun _ _ => ⟨rfl, hJ⟩⟩
/-! a brook -/
def brG (G : Nat → Int) (c k : Nat) : Int := if k = c then (G c + 1) % 4 else G k
theorem pr_brook : pr2 89 170 1 JCA := by
  intro as hl hv h ht hJ
  match as, hl, hv with
  | [v1], hl, hv =>
    obtain ⟨a, rfl⟩ := hv v1 (by simp)
    obtain ⟨jC, jA⟩ := id hJ
    by_cases hs : nowG h 61 = 1
    · obtain ⟨C, cS, cF⟩ := JC_1 jC hs
      obtain ⟨n, A, cA, rA', oA⟩ := id jA
      obtain ⟨c1, c2, c3, c4, c5, c6, c7, c8, c9, c10, c11, c12, c13⟩ := id C
      obtain ⟨w1, w2, w3, w4, w5, w6⟩ := id c2
      refine s_89 a ⟨fun _ => ?_, fun z => absurd (by rw [c3]; decide) z⟩
      refine q_119 a ?_
      refine zri_int ?_
      refine ⟨fun z => ?_, fun z _ => ?_⟩
      · have z := zb1.mp z
        have ea : a.toInt = ((a.toInt.toNat : Nat) : Int) := by omega
        have a15 : a.toInt.toNat < 15 := by omega
        have wa := (w1 _ a15).1
        refine q_1 cA c6 c7 c8 (fun h4 f1 f2 => ?_)
        have g15 : h4.1 15 = h.1 15 := f1 15 (by omega)
        refine q_50 _ a _ (nowG h) a.toInt.toNat (by rw [g15]; exact c6) ea a15 wa.1 wa.2 (by decide) (by decide) (fun v5 p5 => ?_)
        refine zri_int ?_
        rw [kc_1] at p5
        have p5 : pl v5 (brG (nowG h) a.toInt.toNat) := p5
        have b0 : brG (nowG h) a.toInt.toNat a.toInt.toNat = (nowG h a.toInt.toNat + 1) % 4 := if_pos rfl
        have bo : ∀ k : Nat, k ≠ a.toInt.toNat → brG (nowG h) a.toInt.toNat k = nowG h k := fun k hk => if_neg hk
        refine q_48 p5 ea a15 (by rw [b0]; omega) (by rw [b0]; omega) (fun v6 e6 => ?_)
        refine zri_int ?_
        intro ht1
        have g64 : (zSet h4 15 3 v5).1 64 = h.1 64 := by rw [fr1 (by decide), f1 64 (by omega)]
        have gG : nowG (zSet h4 15 3 v5) = nowG h := by unfold nowG; rw [g64]
        have g58 : (zSet h4 15 3 v5).1 58 = h.1 58 := by rw [fr1 (by decide), f1 58 (by omega)]
        have g65 : (zSet h4 15 3 v5).1 65 = h.1 65 := by rw [fr1 (by decide), f1 65 (by omega)]
        have g66 : (zSet h4 15 3 v5).1 66 = h.1 66 := by rw [fr1 (by decide), f1 66 (by omega)]
        refine s_170 a ?_
        refine q_150 ?_
        refine zri_int ?_
        refine ⟨fun _ => ?_, fun t => absurd (by rw [gG]; exact hs) (zb2.mp t)⟩
        refine q_151 a ?_
        refine zri_int ?_
        refine ⟨fun _ => ?_, fun t => absurd z (zb2.mp t)⟩
        refine q_148 (rfA_fr (by rw [g58]) g65 rA') (fun h9 x1 x2 x3 => ?_)
        rw [gG] at x3
        have h9G : arG h9 64 = nowG h := by
          unfold arG
          rw [x1 64 (by decide) (by decide), g64]
          rfl
        refine q_169_64 a a.toInt.toNat ea a15 (by rw [h9G]; exact wa.1) (by rw [h9G]; exact wa.2) (fun h10 y1 y2 => ?_)
        rw [h9G] at y2
        have e10 : nowG h10 = brG (nowG h) a.toInt.toNat := funext y2
        rw [oI0 ea a15, nat_c]
        intro _ _ _
        have gw : ∀ c : Nat, c < 15 → (0 ≤ brG (nowG h) a.toInt.toNat c ∧ brG (nowG h) a.toInt.toNat c ≤ 3) ∧ (0 ≤ brG (nowG h) a.toInt.toNat (15 + c) ∧ brG (nowG h) a.toInt.toNat (15 + c) ≤ 3) := fun c hc => by
          refine ⟨?_, by rw [bo _ (by omega)]; exact (w1 c hc).2.1⟩
          by_cases y : c = a.toInt.toNat
          · rw [y, b0]; omega
          · rw [bo c y]; exact (w1 c hc).1
        refine ⟨?_, JCA_act (h1 := zSet h4 15 3 v5) (G' := brG (nowG h) a.toInt.toNat) C cS cF oA rA'.2.1 (fun k b1 b2 b3 => bo k (by omega)) gw (by rw [bo 60 (by omega)]; exact w6) (fun i b1 b2 => ?_) (fun j b1 b2 b3 => ?_) (by rw [fr3]; exact p5) ?_ ?_ ?_ (fun q hq => ?_) ?_ ?_ (rfA_fr (by rw [y1 58 (by decide)]) (y1 65 (by decide)) x3) (fun k _ => by rw [e10])⟩
        · refine congrArg (fun z => some (Value.int z)) (e10m ?_)
          rw [e6]
          exact congrFun e10 _
        · rw [fr1 (by omega), f1 _ (by omega)]
        · rw [fr2 b1, g15]
        · rw [fr2 (by decide), g15]
          exact pl_congr c7 (fun c hc => (bo _ (by omega)).symm)
        · rw [fr2 (by decide), g15, bo 60 (by omega)]; exact c8
        · exact clA_fr (fun q b1 b2 => fr1 (by omega)) f2
        · rw [y1 q (by omega), x1 q (by omega) (by omega)]
        · rw [y1 58 (by decide), x2 13 (by decide), g58]
        · rw [y1 66 (by decide), x1 66 (by decide) (by decide), g66]
      · refine s_170 a ?_
        refine q_150 ?_
        refine zri_int ?_
        refine ⟨fun _ => ?_, fun t => absurd hs (zb2.mp t)⟩
        refine q_151 a ?_
        refine zri_int ?_
        exact ⟨fun t => absurd (zb1.mp t) (zb2.mp z), fun _ _ => ⟨rfl, hJ⟩⟩
    · obtain ⟨z1, z2⟩ := JC_0 jC hs
      refine s_89 a ⟨fun z => absurd (z2 0 (by decide)) z, fun _ _ => ?_⟩
      refine s_170 a ?_
      refine q_150 ?_
      refine zri_int ?_
      exact ⟨fun z => absurd (zb1.mp z) hs, fun _ _ => ⟨rfl, hJ⟩⟩
/-! the latest act is undone -/
theorem pr_undo : pr2 87 149 0 JCA := by
  intro as hl hv h ht hJ
  have e : as = [] := List.eq_nil_of_length_eq_zero hl
  subst e
  obtain ⟨jC, jA⟩ := id hJ
  obtain ⟨n, A, cA, rA', oA⟩ := id jA
  refine s_87 ⟨fun z => ?_, fun z _ => ?_⟩
  · obtain ⟨m, rfl⟩ : ∃ m, n = m + 1 := ⟨n - 1, by have := cA.1; omega⟩
    have om := oA m (by omega)
    obtain ⟨C, cS, cF⟩ := JC_1 jC om.1
    refine q_2 cA (fun h1 f1 f2 f3 f4 f5 f6 ht1 => ?_)
    have g58 : h1.1 58 = h.1 58 := f1 58 (by decide) (by decide)
    have g65 : h1.1 65 = h.1 65 := f1 65 (by decide) (by decide)
    refine q_149 (rfA_fr (by rw [g58]) g65 rA') (fun z => by cases z) (fun m' em h2 x1 x2 x3 x4 _ => ?_)
    cases em
    have C1 : CT1 h1 15 (A m) := CT1_upd C om.2.1 om.2.2.1 om.2.2.2 (fun i a b => f1 (15 + i) (by omega) (by omega)) f2 f4 f5 f6
    have C2 : CT1 h2 15 (A m) := by
      have : CT h2 15 (A m) := CT_fr (fun q a b => x1 q (by omega) (by omega)) (Or.inr C1)
      rcases this with y | y
      · exact absurd (y.1 61 (by decide)) (by rw [C1.1]; decide)
      · exact y
    have eD : ∀ c : Nat, c < 15 → gyD (A m) c = gyD (nowG h) c := fun c hc => om.2.1 (30 + c) (by omega) (by omega) (by omega)
    have sm : ∀ c : Nat, c < 15 → smB (gyD (nowG h)) c = smB (gyD (A m)) c := fun c hc => anyc_c (fun d hd => by rw [eD d hd, eD c hc])
    have w57 := C.2.1.2.1
    refine ⟨congrArg (fun z => some (Value.int z)) (e10m (by rw [x3.1, f3.1])), JC_mk x4 C2 ?_ (fun s hs => ?_), m, A, clA_fr (fun q a b => x1 q (by omega) (by omega)) f3, x3, fun i hi => ?_⟩
    · rw [x2 13 (by decide), g58, cS]; exact mkm_congr (by omega) sm
    · rw [om.2.1 57 (by omega) (by omega) (by omega)] at hs
      rw [x1 66 (by decide) (by decide), f1 66 (by decide) (by decide), cF s hs, show gyE (A m) s = gyE (nowG h) s from om.2.1 (45 + 3 * s + 1) (by omega) (by omega) (by omega)]
      refine mkm_congr (by omega) (fun c hc => ?_)
      unfold flB
      rw [eD c hc, sm c hc, anyc_c (fun d hd => by rw [← eD d hd])]
    · refine actOk_g (G := nowG h) (fun k a b c => ?_) (oA i (by omega))
      rw [x4 k b, om.2.1 k a b c]
  · have n0 : n = 0 := by have := cA.1; omega
    subst n0
    refine q_149 rA' (fun _ _ => ⟨rfl, hJ⟩) (fun m em => by cases em)

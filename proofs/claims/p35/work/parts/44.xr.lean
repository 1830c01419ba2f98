/-! the land obliges, and years -/
theorem JC_men {h : zH} (jC : JC h) : (h.1 15 6).toInt = nowG h 57 ∧ 0 ≤ nowG h 57 ∧ nowG h 57 ≤ 4 := by
  by_cases hs : nowG h 61 = 1
  · obtain ⟨C, -, -⟩ := JC_1 jC hs
    obtain ⟨c1, c2, c3, c4, c5, c6, c7, c8, c9, -⟩ := C
    exact ⟨c9, c2.2.1.1, c2.2.1.2⟩
  · obtain ⟨z1, z2⟩ := JC_0 jC hs
    have a := z1 57 (by decide)
    have b := z2 6 (by decide)
    exact ⟨by omega, by omega, by omega⟩
theorem q_20 {h : zH} {Q : Option Value → zH → Prop} (a1 : Int32) (hm : (h.1 15 6).toInt ≤ 4) (H : Q (some (.int (zbo (0 ≤ a1.toInt ∧ a1.toInt < (h.1 15 6).toInt)))) h) : zqm 20 [.ref 15, .int a1] h Q := by
  refine s_20_15 a1 ⟨fun c => ?_, fun c => ⟨fun d => ?_, fun d => ⟨fun e => ?_, fun e => ?_⟩⟩⟩
  · rw [zbF (by omega)] at H; exact H
  · rw [zbF (by omega)] at H; exact H
  · exfalso; omega
  · rw [zbT (by omega)] at H; exact H
theorem q_152 {h : zH} {Q : Option Value → zH → Prop} (a1 : Int32) (m0 : 0 ≤ nowG h 57) (m4 : nowG h 57 ≤ 4) (H : Q (some (.int (zbo (0 ≤ a1.toInt ∧ a1.toInt < nowG h 57)))) h) : zqm 152 [.ref 58, .int a1] h Q := by
  have e57 : nowG h 57 = (h.1 64 57).toInt := rfl
  refine s_152 a1 ?_
  refine q_121 _ _ _ ?_
  refine zri_int ?_
  rw [kc_0, si (by omega) (by omega) (by omega) (by omega), zbC (q := 0 ≤ a1.toInt ∧ a1.toInt < nowG h 57) (by omega)]
  exact H
theorem mkm_and (p q : Nat → Bool) : mkm p 15 &&& mkm q 15 = mkm (fun c => q c && p c) 15 := mkm_eq (by omega) (fun i hi => by
  show _ = (decide (i < 15) && (q i && p i))
  rw [b_and, mkm_bt p 15 (by omega) i hi, mkm_bt q 15 (by omega) i hi]
  cases decide (i < 15) <;> cases p i <;> cases q i <;> rfl)
theorem actOk_push2 {n : Nat} {A : Nat → Nat → Int} {G G1 : Nat → Int} (hA : ∀ i : Nat, i < n → actOk G (A i)) (hn : n ≤ 24) (hG : actOk G G1) : ∀ i : Nat, i < pushN n → actOk G (pushA n A G1 i) := fun i hi => by
  unfold pushN at hi
  unfold pushA
  by_cases z : n < 24
  · rw [if_pos z] at hi
    simp only [if_pos z]
    by_cases y : i = n
    · rw [if_pos y]; exact hG
    · rw [if_neg y]; exact hA i (by omega)
  · rw [if_neg z] at hi
    simp only [if_neg z]
    by_cases y : i = 23
    · rw [if_pos y]; exact hG
    · rw [if_neg y]; exact hA (i + 1) (by omega)
/-- as JCA_act, with any acts -/
theorem JCA_act2 {h h1 h2 : zH} {n' : Nat} {A' : Nat → Nat → Int} {G' : Nat → Int} (C : CT1 h 15 (nowG h)) (cS : h.1 58 13 = mkm (smB (gyD (nowG h))) 15) (cF : ∀ s : Nat, (s : Int) < nowG h 57 → h.1 66 s = mkm (flB (gyD (nowG h)) (gyE (nowG h) s)) 15)
    (oA : ∀ i : Nat, i < n' → actOk (nowG h) (A' i))
    (e : ∀ k : Nat, 30 ≤ k → k < 62 → k ≠ 60 → G' k = nowG h k) (w : ∀ c : Nat, c < 15 → (0 ≤ G' c ∧ G' c ≤ 3) ∧ (0 ≤ G' (15 + c) ∧ G' (15 + c) ≤ 3)) (w60 : 0 ≤ G' 60 ∧ G' 60 ≤ 999)
    (q1 : ∀ i : Nat, 1 ≤ i → i < 8 → h1.1 (15 + i) = h.1 (15 + i)) (q2 : ∀ j : Nat, j ≠ 3 → j ≠ 4 → j ≠ 5 → h1.1 15 j = h.1 15 j) (p3 : pl (h1.1 15 3) G') (p4 : pl (h1.1 15 4) (fun c => G' (15 + c))) (p5 : (h1.1 15 5).toInt = G' 60) (cA : clA h1 n' A')
    (r1 : ∀ q : Nat, q < 58 → h2.1 q = h1.1 q) (r2 : h2.1 58 13 = h.1 58 13) (r3 : h2.1 66 = h.1 66) (r4 : rfA h2 n' A') (r5 : ∀ k : Nat, k < 62 → nowG h2 k = G' k) : JC h2 ∧ JA h2 := by
  have C1 : CT1 h1 15 G' := CT1_upd C e w w60 q1 q2 p3 p4 p5
  have C2 : CT1 h2 15 G' := by
    have : CT h2 15 G' := CT_fr (fun q a b => r1 q (by omega)) (Or.inr C1)
    rcases this with z | z
    · exact absurd (z.1 61 (by decide)) (by rw [C1.1]; decide)
    · exact z
  have w57 := C.2.1.2.1
  have eD : ∀ c : Nat, c < 15 → gyD G' c = gyD (nowG h) c := fun c hc => e (30 + c) (by omega) (by omega) (by omega)
  have sm : ∀ c : Nat, c < 15 → smB (gyD (nowG h)) c = smB (gyD G') c := fun c hc => anyc_c (fun d hd => by rw [eD d hd, eD c hc])
  refine ⟨JC_mk r5 C2 ?_ (fun s hs => ?_), n', A', clA_fr (fun q a b => r1 q (by omega)) cA, r4, fun i hi => ?_⟩
  · rw [r2, cS]; exact mkm_congr (by omega) sm
  · rw [e 57 (by omega) (by omega) (by omega)] at hs
    rw [r3, cF s hs, show gyE G' s = gyE (nowG h) s from e (45 + 3 * s + 1) (by omega) (by omega) (by omega)]
    refine mkm_congr (by omega) (fun c hc => ?_)
    unfold flB
    rw [eD c hc, sm c hc, anyc_c (fun d hd => by rw [← eD d hd])]
  · refine actOk_g (G := nowG h) (fun k a b c => ?_) (oA i hi)
    rw [r5 k b, e k a b c]
theorem pr_oblige : pr2 90 172 1 JCA := by
  intro as hl hv h ht hJ
  match as, hl, hv with
  | [v1], hl, hv =>
    obtain ⟨a, rfl⟩ := hv v1 (by simp)
    obtain ⟨jC, jA⟩ := id hJ
    obtain ⟨m6, m0, m4⟩ := JC_men jC
    refine s_90 a ?_
    refine q_20 a (by omega) ?_
    refine zri_int ?_
    refine ⟨fun z => ?_, fun z _ => ?_⟩
    · have z := zb1.mp z
      have hs : nowG h 61 = 1 := by
        apply Decidable.byContradiction
        intro y
        have := (JC_0 jC y).1 57 (by decide)
        omega
      obtain ⟨C, cS, cF⟩ := JC_1 jC hs
      obtain ⟨n, A, cA, rA', oA⟩ := id jA
      obtain ⟨c1, c2, c3, c4, c5, c6, c7, c8, c9, c10, c11, c12, c13⟩ := id C
      obtain ⟨w1, w2, w3, w4, w5, w6⟩ := id c2
      obtain ⟨k, ea⟩ : ∃ k : Nat, a.toInt = (k : Int) := ⟨a.toInt.toNat, by omega⟩
      have k4 : k < 4 := by omega
      have kG : (k : Int) < nowG h 57 := by omega
      obtain ⟨u1, u2, u3, u4, u5, u6⟩ := c13 k kG
      obtain ⟨l1, l2, l3⟩ := w5 k kG
      refine q_1 cA c6 c7 c8 (fun h3 f1 f2 => ?_)
      have g15 : h3.1 15 = h.1 15 := f1 15 (by omega)
      have g16 : h3.1 16 = h.1 16 := f1 16 (by omega)
      have g18 : h3.1 18 = h.1 18 := f1 18 (by omega)
      refine q_25 (nowG h) (by rw [g15]; exact c6) (by rw [g15]; exact c7) (fun c hc => ⟨(w1 c hc).1, (w1 c hc).2.1⟩) ?_
      refine zri_int ?_
      refine q_21_15 a k (gyD (nowG h)) (gyE (nowG h) k) ea (by rw [g15, c9]; exact kG) k4 (fun d hd => by rw [g16]; exact c12 d hd) (by rw [g18]; exact u2) l2.1 l2.2 ?_
      refine zri_int ?_
      refine q_52 _ _ _ (nowG h) (fun c => nowG h (15 + c)) (selc (nowG h) (gyE (nowG h) k)) (by rw [g15]; exact c6) (by rw [g15]; exact c7) (mkm_and _ _) (fun v6 p6 => ?_)
      refine zri_int ?_
      refine q_217 _ (selc (nowG h) (gyE (nowG h) k)) (mkm_and _ _) (fun v7 e7 => ?_)
      refine zri_int ?_
      intro ht1
      have g64 : (zSet h3 15 3 v6).1 64 = h.1 64 := by rw [fr1 (by decide), f1 64 (by omega)]
      have gG : nowG (zSet h3 15 3 v6) = nowG h := by unfold nowG; rw [g64]
      have g58 : (zSet h3 15 3 v6).1 58 = h.1 58 := by rw [fr1 (by decide), f1 58 (by omega)]
      have g65 : (zSet h3 15 3 v6).1 65 = h.1 65 := by rw [fr1 (by decide), f1 65 (by omega)]
      have g66 : (zSet h3 15 3 v6).1 66 = h.1 66 := by rw [fr1 (by decide), f1 66 (by omega)]
      refine s_172 a ?_
      refine q_152 a (by rw [gG]; exact m0) (by rw [gG]; exact m4) ?_
      refine zri_int ?_
      refine ⟨fun _ => ?_, fun t => absurd (by rw [gG]; omega) (zb2.mp t)⟩
      refine q_148 (rfA_fr (by rw [g58]) g65 rA') (fun h9 x1 x2 x3 => ?_)
      rw [gG] at x3
      have h9G : arG h9 64 = nowG h := by
        unfold arG
        rw [x1 64 (by decide) (by decide), g64]
        rfl
      refine s_159 a ?_
      rw [wk_add (o45 ea (by omega)) kc_1 (by omega) (by omega), show (((45 + 3 * k : Nat) : Int) + 1).toNat = 45 + 3 * k + 1 by omega]
      intro _ _
      refine zri_int ?_
      refine q_171_64 _ _ (gyE (nowG h) k) 15 (congrFun h9G (45 + 3 * k + 1)) kc_15 (fun v h10 y1 y2 y3 => ?_)
      rw [h9G] at y2 y3
      refine zri_int ?_
      intro _
      have e10 : nowG h10 = obG (nowG h) (gyE (nowG h) k) 15 15 := funext y2
      have hi15 : ∀ j : Nat, 15 ≤ j → obG (nowG h) (gyE (nowG h) k) 15 15 j = nowG h j := fun j hj => obG_hi hj
      have p3 : pl v6 (obG (nowG h) (gyE (nowG h) k) 15 15) := pl_congr p6 (fun c hc => by
        have := cnt_le (selc (nowG h) (gyE (nowG h) k)) c
        unfold obG
        by_cases y : selc (nowG h) (gyE (nowG h) k) c = true
        · rw [if_pos y, if_pos ⟨hc, y, by omega⟩]
        · rw [if_neg y, if_neg (fun u => y u.2.1)])
      have gw : ∀ c : Nat, c < 15 → (0 ≤ obG (nowG h) (gyE (nowG h) k) 15 15 c ∧ obG (nowG h) (gyE (nowG h) k) 15 15 c ≤ 3) ∧ (0 ≤ obG (nowG h) (gyE (nowG h) k) 15 15 (15 + c) ∧ obG (nowG h) (gyE (nowG h) k) 15 15 (15 + c) ≤ 3) := fun c hc => by
        refine ⟨?_, by rw [hi15 _ (by omega)]; exact (w1 c hc).2.1⟩
        unfold obG
        split
        · exact (w1 c hc).2.1
        · exact (w1 c hc).1
      refine ⟨congrArg (fun z => some (Value.int z)) (e10m (by rw [y3, e7]; have := cnt_le (selc (nowG h) (gyE (nowG h) k)) 15; omega)), JCA_act2 (h1 := zSet h3 15 3 v6) (G' := obG (nowG h) (gyE (nowG h) k) 15 15) C cS cF (actOk_push oA rA'.2.1 (wf_act C.1 C.2.1)) (fun j b1 b2 b3 => hi15 j (by omega)) gw (by rw [hi15 60 (by omega)]; exact w6) (fun i b1 b2 => ?_) (fun j b1 b2 b3 => ?_) (by rw [fr3]; exact p3) ?_ ?_ ?_ (fun q hq => ?_) ?_ ?_ (rfA_fr (by rw [y1 58 (by decide)]) (y1 65 (by decide)) x3) (fun k _ => by rw [e10])⟩
      · rw [fr1 (by omega), f1 _ (by omega)]
      · rw [fr2 b1, g15]
      · rw [fr2 (by decide), g15]
        exact pl_congr c7 (fun c hc => (hi15 _ (by omega)).symm)
      · rw [fr2 (by decide), g15, hi15 60 (by omega)]; exact c8
      · exact clA_fr (fun q b1 b2 => fr1 (by omega)) f2
      · rw [y1 q (by omega), x1 q (by omega) (by omega)]
      · rw [y1 58 (by decide), x2 13 (by decide), g58]
      · rw [y1 66 (by decide), x1 66 (by decide) (by decide), g66]
    · refine s_172 a ?_
      refine q_152 a m0 m4 ?_
      refine zri_int ?_
      exact ⟨fun t => absurd (by have := zb1.mp t; omega) (zb2.mp z), fun _ _ => ⟨rfl, hJ⟩⟩
/-! years -/
def yG (G : Nat → Int) (k : Nat) : Int := if k = 60 then G 60 + 1 else yrI G (gyN G) k
def yGs (G : Nat → Int) : Nat → Nat → Int
  | 0 => G
  | i + 1 => yG (yGs G i)
def yNs (n : Nat) : Nat → Nat
  | 0 => n
  | i + 1 => pushN (yNs n i)
def yAs (n : Nat) (A : Nat → Nat → Int) (G : Nat → Int) : Nat → Nat → Nat → Int
  | 0 => A
  | i + 1 => pushA (yNs n i) (yAs n A G i) (yGs G i)
theorem yGs_hi {G : Nat → Int} : ∀ (i : Nat) {k : Nat}, 15 ≤ k → k ≠ 60 → yGs G i k = G k
  | 0, _, _, _ => rfl
  | i + 1, k, h1, h2 => by
    show yG (yGs G i) k = G k
    unfold yG
    rw [if_neg h2, yrI_hi _ h1]
    exact yGs_hi i h1 h2
theorem yGs_60 {G : Nat → Int} : ∀ (i : Nat), yGs G i 60 = G 60 + (i : Int)
  | 0 => by show G 60 = G 60 + ((0 : Nat) : Int); omega
  | i + 1 => by
    show yG (yGs G i) 60 = _
    unfold yG
    rw [if_pos rfl, yGs_60 i]
    omega
theorem yGs_ra {G : Nat → Int} (w : ∀ c : Nat, c < 15 → (0 ≤ G c ∧ G c ≤ 3) ∧ (0 ≤ G (15 + c) ∧ G (15 + c) ≤ 3)) : ∀ (i c : Nat), c < 15 → (0 ≤ yGs G i c ∧ yGs G i c ≤ 3) ∧ (0 ≤ yGs G i (15 + c) ∧ yGs G i (15 + c) ≤ 3)
  | 0, c, hc => w c hc
  | i + 1, c, hc => by
    refine ⟨?_, by rw [yGs_hi (i + 1) (by omega) (by omega)]; exact (w c hc).2⟩
    show 0 ≤ yG (yGs G i) c ∧ yG (yGs G i) c ≤ 3
    unfold yG
    rw [if_neg (by omega)]
    exact yrI_ra (yGs_ra w i) _ c hc
theorem yAs_ok {n N : Nat} {A : Nat → Nat → Int} {G : Nat → Int} (g1 : G 61 = 1) (w : wfG G) (hy : G 60 + (N : Int) ≤ 999) (hn : n ≤ 24) (hA : ∀ i : Nat, i < n → actOk G (A i)) : ∀ i : Nat, i ≤ N → yNs n i ≤ 24 ∧ ∀ j : Nat, j < yNs n i → actOk G (yAs n A G i j)
  | 0, _ => ⟨hn, hA⟩
  | i + 1, hi => by
    obtain ⟨a, b⟩ := yAs_ok g1 w hy hn hA i (by omega)
    have w6 := w.2.2.2.2.2
    refine ⟨?_, actOk_push2 b a ⟨g1, fun k h1 h2 h3 => yGs_hi i (by omega) h3, fun c hc => yGs_ra (fun c hc => ⟨(w.1 c hc).1, (w.1 c hc).2.1⟩) i c hc, by rw [yGs_60]; omega, by rw [yGs_60]; omega⟩⟩
    show pushN (yNs n i) ≤ 24
    unfold pushN
    split <;> omega
theorem l_91 {Q : Option Value → zH → Prop} (g : zH) (x1 : Int32) (N : Nat) (e1 : x1.toInt = (N : Int)) (hN : N ≤ 24) (n : Nat) (A : Nat → Nat → Int) (G : Nat → Int) (C : CT1 g 15 G) (hy : G 60 + (N : Int) ≤ 999) (H : ∀ h', (∀ q : Nat, q ≠ 15 → (q < 48 ∨ 52 ≤ q) → h'.1 q = g.1 q) → (∀ j : Nat, j ≠ 3 → j ≠ 5 → h'.1 15 j = g.1 15 j) → pl (h'.1 15 3) (yGs G N) → (h'.1 15 5).toInt = yGs G N 60 → clA h' (yNs n N) (yAs n A G N) → Q (some (.int (mkm (wr (yGs G N)) 15))) h') : ∀ (f i : Nat) (x2 : Int32) (h : zH), x2.toInt = (i : Int) → i ≤ N → (∀ q : Nat, q ≠ 15 → (q < 48 ∨ 52 ≤ q) → h.1 q = g.1 q) → (∀ j : Nat, j ≠ 3 → j ≠ 5 → h.1 15 j = g.1 15 j) → pl (h.1 15 3) (yGs G i) → (h.1 15 5).toInt = yGs G i 60 → clA h (yNs n i) (yAs n A G i) → zQ f 91 47 [some (.ref 0), some (.int x1), some (.int x2)] [] h Q
  | 0, _, _, _, _, _, _, _, _, _, _ => zQ_zero
  | f + 1, i, x2, h, e2, hi, f1, f2, f3, f4, f5 => by
    obtain ⟨c1, c2, c3, c4, c5, c6, c7, c8, c9, c10, c11, c12, c13⟩ := id C
    obtain ⟨w1, w2, w3, w4, w5, w6⟩ := id c2
    have W := yGs_ra (G := G) (fun c hc => ⟨(w1 c hc).1, (w1 c hc).2.1⟩) i
    have b60 := yGs_60 (G := G) i
    have s4 : pl (h.1 15 4) (fun c => yGs G i (15 + c)) := by
      rw [f2 4 (by decide) (by decide)]
      exact pl_congr c7 (fun c hc => (yGs_hi i (by omega) (by omega)).symm)
    refine s_91_47 x1 x2 ⟨fun d => ?_, fun d => ?_⟩
    · have iN : i = N := by omega
      subst iN
      refine q_25 (yGs G i) f3 s4 W ?_
      refine zri_int ?_
      exact H h f1 f2 f3 f4 f5
    · refine q_1 f5 f3 s4 f4 (fun h3 k1 k2 => ?_)
      have g15 : h3.1 15 = h.1 15 := k1 15 (by omega)
      have g16 : h3.1 16 = g.1 16 := by rw [k1 16 (by omega), f1 16 (by omega) (by omega)]
      have g17 : h3.1 17 = g.1 17 := by rw [k1 17 (by omega), f1 17 (by omega) (by omega)]
      have g18 : h3.1 18 = g.1 18 := by rw [k1 18 (by omega), f1 18 (by omega) (by omega)]
      have e57 : yGs G i 57 = G 57 := yGs_hi i (by omega) (by omega)
      refine q_28 _ (yGs G i) W (by rw [e57]; exact w2) (by rw [g15, f2 6 (by decide) (by decide), e57]; exact c9) (by rw [g15]; exact f3) (by rw [g15]; exact s4) (fun d hd => ?_) (fun s hs => ?_) (fun v4 p4 => ?_)
      · have u : g.1 16 d = mkm (fun c => decide (gyD G c = (d : Int))) 15 := c12 d hd
        rw [g16, u]
        exact mkm_congr (by omega) (fun c hc => by rw [show gyD (yGs G i) c = gyD G c from yGs_hi i (by omega) (by omega)])
      · rw [e57] at hs
        obtain ⟨u1, u2, u3, u4, u5, u6⟩ := c13 s hs
        obtain ⟨l1, l2, l3⟩ := w5 s hs
        have r1 : gyK (yGs G i) s = gyK G s := yGs_hi i (by omega) (by omega)
        have r2 : gyE (yGs G i) s = gyE G s := yGs_hi i (by omega) (by omega)
        rw [r1, r2, g17, g18]
        exact ⟨u1, u2, l2.1, l2.2⟩
      · refine zri_int ?_
        have e2' := ai (x := x2) (k := 1) (by omega) (by omega) (by omega) (by omega)
        have e5 : (h3.1 15 5 + Int32.ofInt 1).toInt = yGs G i 60 + 1 := by
          rw [g15, wk_add f4 kc_1 (by omega) (by omega)]
        refine l_91 g x1 N e1 hN n A G C hy H f (i + 1) _ _ (by omega) (by omega) (fun q a b => ?_) (fun j a b => ?_) ?_ ?_ ?_
        · rw [fr1 a, fr1 a, k1 q b, f1 q a b]
        · rw [fr2 b, fr2 a, g15, f2 j a b]
        · rw [fr2 (by decide), fr3]
          exact pl_congr p4 (fun c hc => (if_neg (show ¬ c = 60 by omega)).symm)
        · rw [fr3, e5]
          show yGs G i 60 + 1 = yG (yGs G i) 60
          unfold yG
          rw [if_pos rfl]
        · exact clA_fr (fun q a b => by rw [fr1 (by omega), fr1 (by omega)]) k2
theorem l_174 {Q : Option Value → zH → Prop} (g : zH) (x1 : Int32) (N : Nat) (e1 : x1.toInt = (N : Int)) (hN : N ≤ 24) (n : Nat) (A : Nat → Nat → Int) (G : Nat → Int) (w : wfG G) (hy : G 60 + (N : Int) ≤ 999) (H : ∀ h', (∀ q : Nat, q ≠ 58 → q ≠ 64 → q ≠ 65 → h'.1 q = g.1 q) → (∀ j : Nat, j ≠ 12 → h'.1 58 j = g.1 58 j) → nowG h' = yGs G N → rfA h' (yNs n N) (yAs n A G N) → Q (some (.int (mkm (wr (yGs G N)) 15))) h') : ∀ (f i : Nat) (x2 : Int32) (h : zH), x2.toInt = (i : Int) → i ≤ N → (∀ q : Nat, q ≠ 58 → q ≠ 64 → q ≠ 65 → h.1 q = g.1 q) → (∀ j : Nat, j ≠ 12 → h.1 58 j = g.1 58 j) → nowG h = yGs G i → rfA h (yNs n i) (yAs n A G i) → zQ f 174 43 [some (.ref 58), some (.int x1), some (.int x2)] [] h Q
  | 0, _, _, _, _, _, _, _, _, _ => zQ_zero
  | f + 1, i, x2, h, e2, hi, f1, f2, f3, f4 => by
    have w6 := w.2.2.2.2.2
    have b60 := yGs_60 (G := G) i
    have e57 : yGs G i 57 = G 57 := yGs_hi i (by omega) (by omega)
    refine s_174_43 x1 x2 ⟨fun d => ?_, fun d => ?_⟩
    · have iN : i = N := by omega
      subst iN
      refine q_156_64 ?_
      refine zri_int ?_
      rw [show arG h 64 = yGs G i from f3]
      exact H h f1 f2 f3 f4
    · refine q_148 f4 (fun h3 y1 y2 y3 => ?_)
      have h3G : arG h3 64 = yGs G i := by
        unfold arG
        rw [y1 64 (by decide) (by decide)]
        exact f3
      refine q_173_64 (by rw [h3G, e57]; exact w.2.1) (by rw [h3G, b60]; omega) (by rw [h3G, b60]; omega) (fun h4 z1 z2 => ?_)
      rw [h3G] at z2
      rw [f3] at y3
      have e2' := ai (x := x2) (k := 1) (by omega) (by omega) (by omega) (by omega)
      exact l_174 g x1 N e1 hN n A G w hy H f (i + 1) _ h4 (by omega) (by omega) (fun q a b c => by rw [z1 q b, y1 q a c, f1 q a b c]) (fun j hj => by rw [z1 58 (by decide), y2 j hj, f2 j hj]) (funext z2) (rfA_fr (by rw [z1 58 (by decide)]) (z1 65 (by decide)) y3)
theorem pr_years : pr2 91 174 1 JCA := by
  intro as hl hv h ht hJ
  match as, hl, hv with
  | [v1], hl, hv =>
    obtain ⟨a, rfl⟩ := hv v1 (by simp)
    obtain ⟨jC, jA⟩ := id hJ
    by_cases hs : nowG h 61 = 1
    · obtain ⟨C, cS, cF⟩ := JC_1 jC hs
      obtain ⟨n, A, cA, rA', oA⟩ := id jA
      obtain ⟨c1, c2, c3, c4, c5, c6, c7, c8, c9, c10, c11, c12, c13⟩ := id C
      obtain ⟨w1, w2, w3, w4, w5, w6⟩ := id c2
      have bad : ¬ (1 ≤ a.toInt ∧ a.toInt ≤ 24) → zqm 174 [.ref 58, .int a] h (fun rv' h2 => hTy h2 → rv' = some (.int (-1000001 : Int32)) ∧ JCA h2) := fun hb => by
        refine s_174 a (fun f => ?_)
        refine q_150 ?_
        refine zri_int ?_
        refine ⟨fun _ => ?_, fun z => absurd hs (zb2.mp z)⟩
        refine q_121 _ _ _ ?_
        refine zri_int ?_
        rw [kc_1, kc_24]
        exact ⟨fun y => absurd (zb1.mp y) hb, fun _ _ => ⟨rfl, hJ⟩⟩
      refine s_91 a (fun f => ⟨fun _ => ⟨fun z _ => bad (by omega), fun z => ⟨fun y => ?_, fun y _ => bad (by omega)⟩⟩, fun z => absurd (by rw [c3]; decide) z⟩)
      have s60 : (h.1 15 5 + a).toInt = nowG h 60 + a.toInt := wk_add c8 rfl (by omega) (by omega)
      have REF : ∀ (g : zH) (P : Option Value → zH → Prop), nowG g = nowG h → (nowG h 60 + a.toInt ≤ 999 → ∀ f, zQ f 174 43 [some (.ref 58), some (.int a), some (.int (Int32.ofInt 0))] [] g P) → (¬ (nowG h 60 + a.toInt ≤ 999) → P (some (.int (-1000003 : Int32))) g) → zqm 174 [.ref 58, .int a] g P := fun g P eg k1 k2 => by
        refine s_174 a (fun f => ?_)
        refine q_150 ?_
        refine zri_int ?_
        refine ⟨fun _ => ?_, fun t => absurd (by rw [eg]; exact hs) (zb2.mp t)⟩
        refine q_121 _ _ _ ?_
        refine zri_int ?_
        rw [kc_1, kc_24]
        refine ⟨fun _ => ?_, fun t => absurd (by omega) (zb2.mp t)⟩
        have e6 : (g.1 64 60).toInt = nowG h 60 := by rw [← eg]; rfl
        rw [wk_add e6 rfl (by omega) (by omega)]
        exact ⟨fun t => k1 t f, k2⟩
      rw [s60]
      refine ⟨fun t => ?_, fun t _ => REF h _ rfl (fun u => absurd u t) (fun _ _ => ⟨rfl, hJ⟩)⟩
      obtain ⟨N, eN⟩ : ∃ N : Nat, a.toInt = (N : Int) := ⟨a.toInt.toNat, by omega⟩
      refine l_91 h a N eN (by omega) n A (nowG h) C (by omega) (fun h1 f1 f2 f3 f4 f5 ht1 => ?_) f 0 _ h kc_0 (by omega) (fun _ _ _ => rfl) (fun _ _ _ => rfl) c6 c8 cA
      have gG : nowG h1 = nowG h := by unfold nowG; rw [f1 64 (by decide) (by omega)]
      refine REF h1 _ gG (fun _ f' => ?_) (fun u => absurd t u)
      refine l_174 h1 a N eN (by omega) n A (nowG h) c2 (by omega) (fun h2 y1 y2 y3 y4 _ => ?_) f' 0 _ h1 kc_0 (by omega) (fun _ _ _ _ => rfl) (fun _ _ => rfl) gG (rfA_fr (by rw [f1 58 (by decide) (by omega)]) (f1 65 (by decide) (by omega)) rA')
      have W := yGs_ra (G := nowG h) (fun c hc => ⟨(w1 c hc).1, (w1 c hc).2.1⟩) N
      have b60 := yGs_60 (G := nowG h) N
      refine ⟨rfl, JCA_act2 (h1 := h1) (G' := yGs (nowG h) N) C cS cF (yAs_ok (N := N) c1 c2 (by omega) rA'.2.1 oA N (by omega)).2 (fun k b1 b2 b3 => yGs_hi N (by omega) b3) W (by rw [b60]; omega) (fun i b1 b2 => f1 _ (by omega) (by omega)) (fun j b1 b2 b3 => f2 j b1 b3) f3 ?_ f4 f5 (fun q hq => y1 q (by omega) (by omega) (by omega)) ?_ ?_ y4 (fun k _ => by rw [y3])⟩
      · rw [f2 4 (by decide) (by decide)]
        exact pl_congr c7 (fun c hc => (yGs_hi N (by omega) (by omega)).symm)
      · rw [y2 13 (by decide), f1 58 (by decide) (by omega)]
      · rw [y1 66 (by decide) (by decide) (by decide), f1 66 (by decide) (by omega)]
    · obtain ⟨z1, z2⟩ := JC_0 jC hs
      refine s_91 a (fun f => ⟨fun z => absurd (z2 0 (by decide)) z, fun _ _ => ?_⟩)
      refine s_174 a (fun f => ?_)
      refine q_150 ?_
      refine zri_int ?_
      exact ⟨fun z => absurd (zb1.mp z) hs, fun _ _ => ⟨rfl, hJ⟩⟩

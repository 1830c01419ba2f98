/-! images -/
def imG (h : zH) (k : Nat) : Nat → Int := fun j => (h.1 72 (62 * k + j)).toInt
def JI (h : zH) : Prop := CT h 31 (imG h 0) ∧ CT h 39 (imG h 1)
theorem JC_fr {h h' : zH} (h1 : ∀ q : Nat, 15 ≤ q → q < 23 → h'.1 q = h.1 q) (h2 : h'.1 64 = h.1 64) (h3 : h'.1 66 = h.1 66) (h4 : h'.1 58 13 = h.1 58 13) (hJ : JC h) : JC h' := by
  have e : nowG h' = nowG h := by unfold nowG; rw [h2]
  unfold JC
  rw [e, h3, h4]
  exact ⟨CT_fr (fun q a b => h1 q a (by omega)) hJ.1, hJ.2⟩
theorem JI_fr {h h' : zH} (h1 : ∀ q : Nat, 31 ≤ q → q < 47 → h'.1 q = h.1 q) (h2 : h'.1 72 = h.1 72) (hJ : JI h) : JI h' := by
  have e : ∀ k, imG h' k = imG h k := fun k => by unfold imG; rw [h2]
  unfold JI
  rw [e, e]
  exact ⟨CT_fr (fun q a b => h1 q (by omega) (by omega)) hJ.1, CT_fr (fun q a b => h1 q (by omega) (by omega)) hJ.2⟩
theorem JA_fr {h h' : zH} (h1 : ∀ q : Nat, 48 ≤ q → q < 52 → h'.1 q = h.1 q) (h2 : h'.1 58 12 = h.1 58 12) (h3 : h'.1 65 = h.1 65) (h4 : h'.1 64 = h.1 64) (hJ : JA h) : JA h' := by
  obtain ⟨n, A, a, b, c⟩ := hJ
  have e : nowG h' = nowG h := by unfold nowG; rw [h4]
  exact ⟨n, A, clA_fr h1 a, rfA_fr h2 h3 b, by rw [e]; exact c⟩
theorem JA_0 {h : zH} (h1 : h.1 48 3 = Int32.ofInt 0) (h2 : h.1 48 4 = Int32.ofInt 0) (h3 : h.1 58 12 = Int32.ofInt 0) : JA h :=
  ⟨0, fun _ _ => 0, ⟨by rw [h2]; decide, by omega, 0, by rw [h1]; decide, by omega, fun i hi => by omega⟩, ⟨by rw [h3]; decide, by omega, fun i hi => by omega⟩, fun i hi => by omega⟩
theorem q_120 {h : zH} {Q : Option Value → zH → Prop} (a0 : Int32) (H : Q (some (.int (zbo (0 ≤ a0.toInt ∧ a0.toInt ≤ 1)))) h) : zqm 120 [.int a0] h Q := by
  refine s_120 a0 ⟨fun c => ?_, fun c => ⟨fun d => ?_, fun d => ?_⟩⟩
  · rw [zbT (by omega)] at H; exact H
  · rw [zbF (by omega)] at H; exact H
  · rw [zbT (by omega)] at H; exact H
theorem l_200 {Q : Option Value → zH → Prop} (g : zH) (x1 : Int32) (k : Nat) (hk : k < 2) (e1 : x1.toInt = (k : Int)) (H : ∀ h', (∀ q, q ≠ 72 → h'.1 q = g.1 q) → (∀ j : Nat, h'.1 72 j = if 62 * k ≤ j ∧ j < 62 * k + 62 then g.1 64 (j - 62 * k) else g.1 72 j) → Q (some (.int (Int32.ofInt 1))) h') : ∀ (f c : Nat) (x2 : Int32) (h : zH), x2.toInt = (c : Int) → c ≤ 62 → (∀ q, q ≠ 72 → h.1 q = g.1 q) → (∀ j : Nat, h.1 72 j = if 62 * k ≤ j ∧ j < 62 * k + c then g.1 64 (j - 62 * k) else g.1 72 j) → zQ f 200 24 [some (.ref 58), some (.int x1), some (.int x2)] [] h Q
  | 0, _, _, _, _, _, _, _ => zQ_zero
  | f + 1, c, x2, h, e, hc, f1, f2 => by
    refine s_200_24 x1 x2 ⟨fun d => ?_, fun d b1 b2 => ?_⟩
    · have c62 : c = 62 := by omega
      subst c62
      exact H h f1 f2
    · rw [mI62 e1 e (by omega) (by omega), nat_c]
      intro b3 b4
      have e' := ai (x := x2) (k := 1) (by omega) (by omega) (by omega) (by omega)
      refine l_200 g x1 k hk e1 H f (c + 1) _ _ (by omega) (by omega) (fun q hq => by rw [fr1 hq, f1 q hq]) (fun j => ?_)
      rw [sg1, if_pos rfl, f1 64 (by decide), show x2.toInt.toNat = c by omega]
      by_cases z : j = 62 * k + c
      · rw [if_pos z, if_pos (by omega), show j - 62 * k = c by omega]
      · rw [if_neg z, f2 j]
        by_cases y : 62 * k ≤ j ∧ j < 62 * k + c
        · rw [if_pos y, if_pos (by omega)]
        · rw [if_neg y, if_neg (by omega)]
theorem l_201 {Q : Option Value → zH → Prop} (g : zH) (x1 : Int32) (k : Nat) (hk : k < 2) (e1 : x1.toInt = (k : Int)) (H : ∀ h', (∀ q, q ≠ 64 → h'.1 q = g.1 q) → (∀ j : Nat, j < 62 → h'.1 64 j = g.1 72 (62 * k + j)) → zqm 155 [.ref 58] (zSet h' 58 12 (Int32.ofInt 0)) (fun _ h2 => Q (some (.int (Int32.ofInt 1))) h2)) : ∀ (f c : Nat) (x2 : Int32) (h : zH), x2.toInt = (c : Int) → c ≤ 62 → (∀ q, q ≠ 64 → h.1 q = g.1 q) → (∀ j : Nat, j < c → h.1 64 j = g.1 72 (62 * k + j)) → zQ f 201 32 [some (.ref 58), some (.int x1), some (.int x2)] [] h Q
  | 0, _, _, _, _, _, _, _ => zQ_zero
  | f + 1, c, x2, h, e, hc, f1, f2 => by
    refine s_201_32 x1 x2 ⟨fun d => H h f1 (fun j hj => f2 j (by omega)), fun d => ?_⟩
    rw [mI62 e1 e (by omega) (by omega), nat_c]
    intro b1 b2 b3 b4
    have e' := ai (x := x2) (k := 1) (by omega) (by omega) (by omega) (by omega)
    refine l_201 g x1 k hk e1 H f (c + 1) _ _ (by omega) (by omega) (fun q hq => by rw [fr1 hq, f1 q hq]) (fun j hj => ?_)
    rw [sg1, if_pos rfl, f1 72 (by decide), show x2.toInt.toNat = c by omega]
    by_cases z : j = c
    · rw [if_pos z, z]
    · rw [if_neg z]
      exact f2 j (by omega)
theorem im_ok (h : zH) (a : Int32) (jC : JC h) (jI : JI h) : zqm 106 [.ref 0, .int a] h (fun rv h1 => hTy h1 → zqm 200 [.ref 58, .int a] h1 (fun rv' h2 => hTy h2 → rv' = rv ∧ JC h2 ∧ JI h2 ∧ ∀ q : Nat, (q < 31 ∨ 47 ≤ q) → q ≠ 72 → h2.1 q = h.1 q)) := by
  refine s_106 a ?_
  refine q_120 a ?_
  refine zri_int ?_
  refine ⟨fun z => ?_, fun z _ => ?_⟩
  · have z := zb1.mp z
    by_cases hs : nowG h 61 = 1
    · obtain ⟨C, cS, cF⟩ := JC_1 jC hs
      have c3 := C.2.2.1
      have REF : ∀ (g : zH) (P : Option Value → zH → Prop), nowG g = nowG h → (∀ f, zQ f 200 24 [some (.ref 58), some (.int a), some (.int (Int32.ofInt 0))] [] g P) → zqm 200 [.ref 58, .int a] g P := fun g P eg k1 => by
        refine s_200 a (fun f => ?_)
        refine q_121 _ _ _ ?_
        refine zri_int ?_
        rw [kc_0, kc_1]
        refine ⟨fun _ => ?_, fun t => absurd z (zb2.mp t)⟩
        refine q_150 ?_
        refine zri_int ?_
        exact ⟨fun _ => k1 f, fun t => absurd (by rw [eg]; exact hs) (zb2.mp t)⟩
      refine ⟨fun _ => ⟨fun y => ?_, fun y => ?_⟩, fun t => absurd (by rw [c3]; decide) t⟩
      · refine q_11_31_15 (fun h1 f1 f2 f3 f4 ht1 => ?_)
        have gG : nowG h1 = nowG h := by unfold nowG; rw [f1 64 (by omega)]
        refine REF h1 _ gG (fun f => ?_)
        refine l_200 h1 a 0 (by omega) (by omega) (fun h2 y1 y2 _ => ?_) f 0 _ h1 kc_0 (by omega) (fun _ _ => rfl) (fun j => by rw [if_neg (by omega)])
        have e72 : ∀ j : Nat, j < 62 → imG h2 0 j = nowG h j := fun j hj => by
          show (h2.1 72 (62 * 0 + j)).toInt = (h.1 64 j).toInt
          rw [y2, if_pos (by omega), f1 64 (by omega), show 62 * 0 + j - 62 * 0 = j by omega]
        have o72 : ∀ j : Nat, j < 62 → imG h2 1 j = imG h 1 j := fun j hj => by
          show (h2.1 72 (62 * 1 + j)).toInt = (h.1 72 (62 * 1 + j)).toInt
          rw [y2, if_neg (by omega), f1 72 (by omega)]
        have new : CT h2 31 (imG h2 0) := CT_congr (fun j hj => (e72 j hj).symm) (CT_fr (h := h1) (fun q _ _ => y1 q (by omega)) (CT_copy f2 f3 f4 jC.1))
        have old : CT h2 39 (imG h2 1) := CT_congr (fun j hj => (o72 j hj).symm) (CT_fr (h := h) (fun q _ _ => by rw [y1 q (by omega), f1 q (by omega)]) jI.2)
        exact ⟨rfl, JC_fr (h := h) (fun q _ _ => by rw [y1 q (by omega), f1 q (by omega)]) (by rw [y1 64 (by decide), f1 64 (by omega)]) (by rw [y1 66 (by decide), f1 66 (by omega)]) (by rw [y1 58 (by decide), f1 58 (by omega)]) jC, ⟨new, old⟩, fun q _ _ => by rw [y1 q (by omega), f1 q (by omega)]⟩
      · refine q_11_39_15 (fun h1 f1 f2 f3 f4 ht1 => ?_)
        have gG : nowG h1 = nowG h := by unfold nowG; rw [f1 64 (by omega)]
        refine REF h1 _ gG (fun f => ?_)
        refine l_200 h1 a 1 (by omega) (by omega) (fun h2 y1 y2 _ => ?_) f 0 _ h1 kc_0 (by omega) (fun _ _ => rfl) (fun j => by rw [if_neg (by omega)])
        have e72 : ∀ j : Nat, j < 62 → imG h2 1 j = nowG h j := fun j hj => by
          show (h2.1 72 (62 * 1 + j)).toInt = (h.1 64 j).toInt
          rw [y2, if_pos (by omega), f1 64 (by omega), show 62 * 1 + j - 62 * 1 = j by omega]
        have o72 : ∀ j : Nat, j < 62 → imG h2 0 j = imG h 0 j := fun j hj => by
          show (h2.1 72 (62 * 0 + j)).toInt = (h.1 72 (62 * 0 + j)).toInt
          rw [y2, if_neg (by omega), f1 72 (by omega)]
        have new : CT h2 39 (imG h2 1) := CT_congr (fun j hj => (e72 j hj).symm) (CT_fr (h := h1) (fun q _ _ => y1 q (by omega)) (CT_copy f2 f3 f4 jC.1))
        have old : CT h2 31 (imG h2 0) := CT_congr (fun j hj => (o72 j hj).symm) (CT_fr (h := h) (fun q _ _ => by rw [y1 q (by omega), f1 q (by omega)]) jI.1)
        exact ⟨rfl, JC_fr (h := h) (fun q _ _ => by rw [y1 q (by omega), f1 q (by omega)]) (by rw [y1 64 (by decide), f1 64 (by omega)]) (by rw [y1 66 (by decide), f1 66 (by omega)]) (by rw [y1 58 (by decide), f1 58 (by omega)]) jC, ⟨old, new⟩, fun q _ _ => by rw [y1 q (by omega), f1 q (by omega)]⟩
    · obtain ⟨z1, z2⟩ := JC_0 jC hs
      refine ⟨fun t => absurd (z2 0 (by decide)) t, fun _ _ => ?_⟩
      refine s_200 a (fun f => ?_)
      refine q_121 _ _ _ ?_
      refine zri_int ?_
      rw [kc_0, kc_1]
      refine ⟨fun _ => ?_, fun t => absurd z (zb2.mp t)⟩
      refine q_150 ?_
      refine zri_int ?_
      exact ⟨fun t => absurd (zb1.mp t) hs, fun _ _ => ⟨rfl, jC, jI, fun _ _ _ => rfl⟩⟩
  · refine s_200 a (fun f => ?_)
    refine q_121 _ _ _ ?_
    refine zri_int ?_
    rw [kc_0, kc_1]
    exact ⟨fun t => absurd (zb1.mp t) (zb2.mp z), fun _ _ => ⟨rfl, jC, jI, fun _ _ _ => rfl⟩⟩
theorem CT_st {h : zH} {b : Nat} {G : Nat → Int} (hC : CT h b G) : (G 61 = 1 ∧ (h.1 b 0).toInt = 1 ∧ CT1 h b G) ∨ (G 61 = 0 ∧ (h.1 b 0).toInt = 0) := by
  rcases hC with ⟨c1, c2⟩ | C
  · exact Or.inr ⟨c1 61 (by decide), c2 0 (by decide)⟩
  · exact Or.inl ⟨C.1, C.2.2.1, C⟩
theorem re_ok (h : zH) (a : Int32) (jC : JC h) (jI : JI h) : zqm 107 [.ref 0, .int a] h (fun rv h1 => hTy h1 → zqm 201 [.ref 58, .int a] h1 (fun rv' h2 => hTy h2 → rv' = rv ∧ JC h2 ∧ JI h2 ∧ (h2 = h ∨ h2.1 48 3 = Int32.ofInt 0 ∧ h2.1 48 4 = Int32.ofInt 0 ∧ h2.1 58 12 = Int32.ofInt 0) ∧ (∀ q : Nat, (q < 15 ∨ 23 ≤ q) → q ≠ 48 → q ≠ 58 → q ≠ 64 → q ≠ 66 → h2.1 q = h.1 q) ∧ ∀ j : Nat, j ≠ 12 → j ≠ 13 → h2.1 58 j = h.1 58 j)) := by
  refine s_107 a ?_
  refine q_120 a ?_
  refine zri_int ?_
  refine ⟨fun z => ?_, fun z _ => ?_⟩
  · have z := zb1.mp z
    refine ⟨fun y => ?_, fun y => ?_⟩
    · have ea : a.toInt = ((0 : Nat) : Int) := by omega
      have i61 : ((Int32.ofInt 62 * a) + Int32.ofInt 61).toInt = ((62 * 0 + 61 : Nat) : Int) := mI62 ea (show (Int32.ofInt 61).toInt = ((61 : Nat) : Int) by decide) (by omega) (by omega)
      rcases CT_st jI.1 with ⟨s1, s2, C⟩ | ⟨s1, s2⟩
      · refine ⟨fun _ => ⟨fun _ => ?_, fun u => by exfalso; omega⟩, fun t => absurd (by rw [s2]; decide) t⟩
        refine q_11_15_31 (fun h1 f1 f2 f3 f4 => ?_)
        refine s_0 ?_
        intro ht1
        have gq : ∀ q : Nat, q ≠ 48 → (zSet (zSet h1 48 3 (Int32.ofInt 0)) 48 4 (Int32.ofInt 0)).1 q = h1.1 q := fun q hq => by rw [fr1 hq, fr1 hq]
        have g3 : (zSet (zSet h1 48 3 (Int32.ofInt 0)) 48 4 (Int32.ofInt 0)).1 48 3 = Int32.ofInt 0 := by rw [fr2 (by decide), fr3]
        have g4 : (zSet (zSet h1 48 3 (Int32.ofInt 0)) 48 4 (Int32.ofInt 0)).1 48 4 = Int32.ofInt 0 := by rw [fr3]
        generalize zSet (zSet h1 48 3 (Int32.ofInt 0)) 48 4 (Int32.ofInt 0) = h5 at gq g3 g4
        refine s_201 a (fun f => ?_)
        refine q_121 _ _ _ ?_
        refine zri_int ?_
        rw [kc_0, kc_1]
        refine ⟨fun _ => ?_, fun t => absurd z (zb2.mp t)⟩
        rw [i61, nat_c]
        intro _ _
        have e61 : (h5.1 72 (62 * 0 + 61)).toInt = 1 := by
          rw [gq 72 (by decide), f1 72 (by omega)]
          exact s1
        rw [e61]
        refine ⟨fun _ => ?_, fun t => absurd (by decide) t⟩
        refine l_201 h5 a 0 (by omega) ea (fun h6 y1 y2 => ?_) f 0 _ h5 kc_0 (by omega) (fun _ _ => rfl) (fun j hj => by omega)
        have g6 : ∀ q : Nat, q ≠ 58 → (zSet h6 58 12 (Int32.ofInt 0)).1 q = h6.1 q := fun q hq => fr1 hq
        have g7 : ∀ j : Nat, j ≠ 12 → (zSet h6 58 12 (Int32.ofInt 0)).1 58 j = h.1 58 j := fun j hj => by rw [fr2 hj, y1 58 (by decide), gq 58 (by decide), f1 58 (by omega)]
        have g8 : (zSet h6 58 12 (Int32.ofInt 0)).1 58 12 = Int32.ofInt 0 := fr3
        generalize zSet h6 58 12 (Int32.ofInt 0) = h7 at g6 g7 g8 ⊢
        have G7 : ∀ j : Nat, j < 62 → nowG h7 j = imG h 0 j := fun j hj => by
          show (h7.1 64 j).toInt = (h.1 72 (62 * 0 + j)).toInt
          rw [g6 64 (by decide), y2 j hj, gq 72 (by decide), f1 72 (by omega)]
        have w57 := C.2.1.2.1
        have e57 := G7 57 (by decide)
        obtain ⟨K, eK⟩ : ∃ K : Nat, nowG h7 57 = (K : Int) := ⟨(nowG h7 57).toNat, by omega⟩
        refine q_155 (gyD (nowG h7)) (gyE (nowG h7)) K (fun c hc => rfl) (fun s hs => rfl) eK (by omega) (fun h8 x1 x2 x3 x4 _ => ?_)
        have eG : nowG h8 = nowG h7 := by unfold nowG; rw [x1 64 (by decide) (by decide)]
        have fr : ∀ q : Nat, (q < 15 ∨ 23 ≤ q) → q ≠ 48 → q ≠ 58 → q ≠ 64 → q ≠ 66 → h8.1 q = h.1 q := fun q c1 c2 c3 c4 c5 => by rw [x1 q c3 c5, g6 q c3, y1 q c4, gq q c2, f1 q (by omega)]
        have fr15 : ∀ q : Nat, 15 ≤ q → q < 23 → h8.1 q = h1.1 q := fun q c1 c2 => by rw [x1 q (by omega) (by omega), g6 q (by omega), y1 q (by omega), gq q (by omega)]
        refine ⟨rfl, ⟨?_, fun _ => ?_⟩, JI_fr (fun q _ _ => fr q (by omega) (by omega) (by omega) (by omega) (by omega)) (fr 72 (by omega) (by decide) (by decide) (by decide) (by decide)) jI, Or.inr ⟨?_, ?_, ?_⟩, fr, fun j c1 c2 => by rw [x2 j c2, g7 j c1]⟩
        · rw [eG]
          exact CT_congr (fun j hj => (G7 j hj).symm) (CT_fr (h := h1) (fun q c1 c2 => fr15 q c1 (by omega)) (CT_copy f2 f3 f4 jI.1))
        · rw [eG]
          exact ⟨x3, fun s hs => x4 s (by omega)⟩
        · rw [x1 48 (by decide) (by decide), g6 48 (by decide), y1 48 (by decide), g3]
        · rw [x1 48 (by decide) (by decide), g6 48 (by decide), y1 48 (by decide), g4]
        · rw [x2 12 (by decide), g8]
      · refine ⟨fun t => absurd s2 t, fun _ _ => ?_⟩
        refine s_201 a (fun f => ?_)
        refine q_121 _ _ _ ?_
        refine zri_int ?_
        rw [kc_0, kc_1]
        refine ⟨fun _ => ?_, fun t => absurd z (zb2.mp t)⟩
        rw [i61, nat_c]
        intro _ _
        exact ⟨fun t => absurd s1 t, fun _ _ => ⟨rfl, jC, jI, Or.inl rfl, fun _ _ _ _ _ _ => rfl, fun _ _ _ => rfl⟩⟩
    · have ea : a.toInt = ((1 : Nat) : Int) := by omega
      have i61 : ((Int32.ofInt 62 * a) + Int32.ofInt 61).toInt = ((62 * 1 + 61 : Nat) : Int) := mI62 ea (show (Int32.ofInt 61).toInt = ((61 : Nat) : Int) by decide) (by omega) (by omega)
      rcases CT_st jI.2 with ⟨s1, s2, C⟩ | ⟨s1, s2⟩
      · refine ⟨fun _ => ⟨fun u => by exfalso; omega, fun _ => ?_⟩, fun t => absurd (by rw [s2]; decide) t⟩
        refine q_11_15_39 (fun h1 f1 f2 f3 f4 => ?_)
        refine s_0 ?_
        intro ht1
        have gq : ∀ q : Nat, q ≠ 48 → (zSet (zSet h1 48 3 (Int32.ofInt 0)) 48 4 (Int32.ofInt 0)).1 q = h1.1 q := fun q hq => by rw [fr1 hq, fr1 hq]
        have g3 : (zSet (zSet h1 48 3 (Int32.ofInt 0)) 48 4 (Int32.ofInt 0)).1 48 3 = Int32.ofInt 0 := by rw [fr2 (by decide), fr3]
        have g4 : (zSet (zSet h1 48 3 (Int32.ofInt 0)) 48 4 (Int32.ofInt 0)).1 48 4 = Int32.ofInt 0 := by rw [fr3]
        generalize zSet (zSet h1 48 3 (Int32.ofInt 0)) 48 4 (Int32.ofInt 0) = h5 at gq g3 g4
        refine s_201 a (fun f => ?_)
        refine q_121 _ _ _ ?_
        refine zri_int ?_
        rw [kc_0, kc_1]
        refine ⟨fun _ => ?_, fun t => absurd z (zb2.mp t)⟩
        rw [i61, nat_c]
        intro _ _
        have e61 : (h5.1 72 (62 * 1 + 61)).toInt = 1 := by
          rw [gq 72 (by decide), f1 72 (by omega)]
          exact s1
        rw [e61]
        refine ⟨fun _ => ?_, fun t => absurd (by decide) t⟩
        refine l_201 h5 a 1 (by omega) ea (fun h6 y1 y2 => ?_) f 0 _ h5 kc_0 (by omega) (fun _ _ => rfl) (fun j hj => by omega)
        have g6 : ∀ q : Nat, q ≠ 58 → (zSet h6 58 12 (Int32.ofInt 0)).1 q = h6.1 q := fun q hq => fr1 hq
        have g7 : ∀ j : Nat, j ≠ 12 → (zSet h6 58 12 (Int32.ofInt 0)).1 58 j = h.1 58 j := fun j hj => by rw [fr2 hj, y1 58 (by decide), gq 58 (by decide), f1 58 (by omega)]
        have g8 : (zSet h6 58 12 (Int32.ofInt 0)).1 58 12 = Int32.ofInt 0 := fr3
        generalize zSet h6 58 12 (Int32.ofInt 0) = h7 at g6 g7 g8 ⊢
        have G7 : ∀ j : Nat, j < 62 → nowG h7 j = imG h 1 j := fun j hj => by
          show (h7.1 64 j).toInt = (h.1 72 (62 * 1 + j)).toInt
          rw [g6 64 (by decide), y2 j hj, gq 72 (by decide), f1 72 (by omega)]
        have w57 := C.2.1.2.1
        have e57 := G7 57 (by decide)
        obtain ⟨K, eK⟩ : ∃ K : Nat, nowG h7 57 = (K : Int) := ⟨(nowG h7 57).toNat, by omega⟩
        refine q_155 (gyD (nowG h7)) (gyE (nowG h7)) K (fun c hc => rfl) (fun s hs => rfl) eK (by omega) (fun h8 x1 x2 x3 x4 _ => ?_)
        have eG : nowG h8 = nowG h7 := by unfold nowG; rw [x1 64 (by decide) (by decide)]
        have fr : ∀ q : Nat, (q < 15 ∨ 23 ≤ q) → q ≠ 48 → q ≠ 58 → q ≠ 64 → q ≠ 66 → h8.1 q = h.1 q := fun q c1 c2 c3 c4 c5 => by rw [x1 q c3 c5, g6 q c3, y1 q c4, gq q c2, f1 q (by omega)]
        have fr15 : ∀ q : Nat, 15 ≤ q → q < 23 → h8.1 q = h1.1 q := fun q c1 c2 => by rw [x1 q (by omega) (by omega), g6 q (by omega), y1 q (by omega), gq q (by omega)]
        refine ⟨rfl, ⟨?_, fun _ => ?_⟩, JI_fr (fun q _ _ => fr q (by omega) (by omega) (by omega) (by omega) (by omega)) (fr 72 (by omega) (by decide) (by decide) (by decide) (by decide)) jI, Or.inr ⟨?_, ?_, ?_⟩, fr, fun j c1 c2 => by rw [x2 j c2, g7 j c1]⟩
        · rw [eG]
          exact CT_congr (fun j hj => (G7 j hj).symm) (CT_fr (h := h1) (fun q c1 c2 => fr15 q c1 (by omega)) (CT_copy f2 f3 f4 jI.2))
        · rw [eG]
          exact ⟨x3, fun s hs => x4 s (by omega)⟩
        · rw [x1 48 (by decide) (by decide), g6 48 (by decide), y1 48 (by decide), g3]
        · rw [x1 48 (by decide) (by decide), g6 48 (by decide), y1 48 (by decide), g4]
        · rw [x2 12 (by decide), g8]
      · refine ⟨fun t => absurd s2 t, fun _ _ => ?_⟩
        refine s_201 a (fun f => ?_)
        refine q_121 _ _ _ ?_
        refine zri_int ?_
        rw [kc_0, kc_1]
        refine ⟨fun _ => ?_, fun t => absurd z (zb2.mp t)⟩
        rw [i61, nat_c]
        intro _ _
        exact ⟨fun t => absurd s1 t, fun _ _ => ⟨rfl, jC, jI, Or.inl rfl, fun _ _ _ _ _ _ => rfl, fun _ _ _ => rfl⟩⟩
  · refine s_201 a (fun f => ?_)
    refine q_121 _ _ _ ?_
    refine zri_int ?_
    rw [kc_0, kc_1]
    exact ⟨fun t => absurd (zb1.mp t) (zb2.mp z), fun _ _ => ⟨rfl, jC, jI, Or.inl rfl, fun _ _ _ _ _ _ => rfl, fun _ _ _ => rfl⟩⟩

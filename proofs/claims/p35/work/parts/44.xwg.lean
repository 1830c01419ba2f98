/-! itches that are told: refusals, what is heard, each -/
def JS (h : zH) : Prop := h.1 0 11 = h.1 58 3
theorem q_117 {h : zH} {Q : Option Value → zH → Prop} (a1 a2 a3 : Int32) (ht : hTy h) (kS : (h.1 15 0).toInt = 0 → Q (some (.int (-1000002 : Int32))) h) (kB : ¬ (h.1 15 0).toInt = 0 → ¬ ((0 ≤ a1.toInt ∧ a1.toInt < 8) ∧ 0 ≤ a3.toInt ∧ a3.toInt ≤ 1) → Q (some (.int (-1000001 : Int32))) h) (k1 : ¬ (h.1 15 0).toInt = 0 → ((0 ≤ a1.toInt ∧ a1.toInt < 8) ∧ 0 ≤ a3.toInt ∧ a3.toInt ≤ 1) → (h.1 12 a1.toInt.toNat).toInt < 0 → Q (some (.int ((-1000010 : Int32) - (Int32.ofInt 1)))) (zSet h 0 11 (Int32.ofInt 1))) (k2 : ¬ (h.1 15 0).toInt = 0 → ((0 ≤ a1.toInt ∧ a1.toInt < 8) ∧ 0 ≤ a3.toInt ∧ a3.toInt ≤ 1) → 0 ≤ (h.1 12 a1.toInt.toNat).toInt → ¬ (0 ≤ a2.toInt ∧ 0 ≤ (h.1 15 6).toInt ∧ a2.toInt ≤ (h.1 12 a1.toInt.toNat).toInt ∧ (h.1 15 6).toInt ≤ (h.1 12 a1.toInt.toNat).toInt - a2.toInt) → Q (some (.int ((-1000010 : Int32) - (Int32.ofInt 2)))) (zSet h 0 11 (Int32.ofInt 2))) (k0 : ¬ (h.1 15 0).toInt = 0 → ((0 ≤ a1.toInt ∧ a1.toInt < 8) ∧ 0 ≤ a3.toInt ∧ a3.toInt ≤ 1) → 0 ≤ (h.1 12 a1.toInt.toNat).toInt → (0 ≤ a2.toInt ∧ 0 ≤ (h.1 15 6).toInt ∧ a2.toInt ≤ (h.1 12 a1.toInt.toNat).toInt ∧ (h.1 15 6).toInt ≤ (h.1 12 a1.toInt.toNat).toInt - a2.toInt) → Q (some (.int (Int32.ofInt 0))) h) : zqm 117 [.ref 0, .int a1, .int a2, .int a3] h Q := by
  refine s_117 a1 a2 a3 ⟨fun z => ?_, fun z => kS (Decidable.not_not.mp z)⟩
  refine q_68 a1 (zri_int ⟨fun y => kB z (fun x => zb0.mp y x.1), fun y => ?_⟩)
  have y := zb1.mp y
  refine q_120 a3 (zri_int ⟨fun x => ?_, fun x => kB z (fun w => zb2.mp x w.2)⟩)
  have x := zb1.mp x
  refine q_116 a1 a2 _ ht (fun w => zri_int (k1 z ⟨y, x⟩ (by omega))) (fun w => zri_int (k0 z ⟨y, x⟩ w.2.1 w.2.2)) (fun w => zri_int (k2 z ⟨y, x⟩ w.2.1 w.2.2))
theorem q_186 {h : zH} {Q : Option Value → zH → Prop} (a1 a2 a3 a4 : Int32) (hz : (h.1 60 a1.toInt.toNat).toInt ≤ 40) (kB : ¬ (0 ≤ a1.toInt ∧ a1.toInt < 8) ∨ a3.toInt = 0 → Q (some (.int (-1000001 : Int32))) h) (k1 : (0 ≤ a1.toInt ∧ a1.toInt < 8) → ¬ a3.toInt = 0 → (h.1 59 a1.toInt.toNat).toInt < 0 → Q (some (.int ((-1000010 : Int32) - (Int32.ofInt 1)))) (zSet h 58 3 (Int32.ofInt 1))) (k2 : (0 ≤ a1.toInt ∧ a1.toInt < 8) → ¬ a3.toInt = 0 → ¬ (h.1 59 a1.toInt.toNat).toInt < 0 → ¬ (0 ≤ a2.toInt ∧ 0 ≤ a4.toInt ∧ a2.toInt ≤ (h.1 60 a1.toInt.toNat).toInt ∧ a4.toInt ≤ (h.1 60 a1.toInt.toNat).toInt - a2.toInt) → Q (some (.int ((-1000010 : Int32) - (Int32.ofInt 2)))) (zSet h 58 3 (Int32.ofInt 2))) (k0 : (0 ≤ a1.toInt ∧ a1.toInt < 8) → ¬ a3.toInt = 0 → ¬ (h.1 59 a1.toInt.toNat).toInt < 0 → (0 ≤ a2.toInt ∧ 0 ≤ a4.toInt ∧ a2.toInt ≤ (h.1 60 a1.toInt.toNat).toInt ∧ a4.toInt ≤ (h.1 60 a1.toInt.toNat).toInt - a2.toInt) → Q (some (.int (Int32.ofInt 0))) (zSet (zSet h 58 18 ((Int32.ofInt 40) * a1 + a2)) 58 3 (Int32.ofInt 0))) : zqm 186 [.ref 58, .int a1, .int a2, .int a3, .int a4] h Q := by
  refine s_186 a1 a2 a3 a4 ?_
  refine q_128 a1 (zri_int ⟨fun z => kB (Or.inl (zb0.mp z)), fun z => ⟨fun y => ?_, fun y => kB (Or.inr (Decidable.not_not.mp y))⟩⟩)
  have z := zb1.mp z
  refine q_129 a1 (zri_int ⟨fun x => ?_, fun x => ?_⟩)
  · have x := zb0.mp x
    refine q_132 a1 a2 a4 hz (zri_int ⟨fun w => ?_, fun w => ?_⟩)
    · exact q_126 _ (zri_int (k0 z y x (zb1.mp w)))
    · exact q_125 _ (zri_int (k2 z y x (zb2.mp w)))
  · exact q_125 _ (zri_int (k1 z y (zb1.mp x)))
theorem l_118 {g : zH} {Q : Option Value → zH → Prop} (x1 x2 x3 : Int32) (r i K : Nat) (e1 : x1.toInt = (r : Int)) (r8 : r < 8) (e2 : x2.toInt = (i : Int)) (e3 : x3.toInt = (K : Int)) (hl : (i : Int) + (K : Int) ≤ (g.1 12 r).toInt) (hl4 : (g.1 12 r).toInt ≤ 40) (H : ∀ h' : zH, (∀ q, q ≠ 57 → h'.1 q = g.1 q) → (∀ k : Nat, k < K → k < 4 → h'.1 57 k = g.1 (3 + r) (i + k)) → Q none h') : ∀ (n k : Nat) (x4 : Int32) (h : zH), x4.toInt = (k : Int) → k ≤ 4 → (∀ q, q ≠ 57 → h.1 q = g.1 q) → (∀ j : Nat, j < k → j < K → h.1 57 j = g.1 (3 + r) (i + j)) → zQ n 118 3 [some (.ref 0), some (.int x1), some (.int x2), some (.int x3), some (.int x4)] [] h Q
  | 0, _, _, _, _, _, _, _ => zQ_zero
  | n + 1, k, x4, h, e4, hk, f1, f2 => by
    refine s_118_3 x1 x2 x3 x4 ⟨fun d => ?_, fun d => ⟨fun y _ _ => ?_, fun y => ?_⟩⟩
    · have : k = 4 := by omega
      subst this
      exact H h f1 (fun j hj j4 => f2 j j4 hj)
    · have e4' := ai (x := x4) (k := 1) (by omega) (by omega) (by omega) (by omega)
      rw [show x4.toInt.toNat = k by omega]
      refine l_118 x1 x2 x3 r i K e1 r8 e2 e3 hl hl4 H n (k + 1) _ _ (by omega) (by omega) (fun q hq => by rw [zs_q hq]; exact f1 q hq) (fun j hj jK => ?_)
      rw [wk_ne (Or.inr (by omega))]
      exact f2 j (by omega) jK
    · have e4' := ai (x := x4) (k := 1) (by omega) (by omega) (by omega) (by omega)
      have e24 := wk_add e2 e4 (by omega) (by omega)
      have en : x1.toInt.toNat = r := by omega
      refine s_76 x1 (x2 + x4) ?_
      refine q_71 x1 (x2 + x4) (Int32.ofInt 1) (by rw [f1 12 (by decide), en]; exact hl4) ?_
      rw [f1 12 (by decide), en, e24, kc_1]
      refine zri_int ⟨fun z => absurd (by omega) (zb0.mp z), fun _ _ _ _ _ => ?_⟩
      refine zri_int (fun _ _ => ?_)
      rw [show x4.toInt.toNat = k by omega, show ((i : Int) + (k : Int)).toNat = i + k by omega, f1 (3 + r) (by omega)]
      refine l_118 x1 x2 x3 r i K e1 r8 e2 e3 hl hl4 H n (k + 1) _ _ (by omega) (by omega) (fun q hq => by rw [zs_q hq]; exact f1 q hq) (fun j hj jK => ?_)
      by_cases z : j = k
      · subst z
        rw [wk_at]
      · rw [wk_ne (Or.inr z)]
        exact f2 j (by omega) jK
def mkB (G : Nat → Int) (K : Nat) (tv : Nat → Int) (p : Nat → Bool) : Bool := (List.range K).all fun t => decide (itcS G t p 15 = tv t)
theorem mkB_iff {G : Nat → Int} {K : Nat} {tv : Nat → Int} {p : Nat → Bool} : mkB G K tv p = true ↔ ∀ t : Nat, t < K → itcS G t p 15 = tv t := by
  unfold mkB
  rw [List.all_eq_true]
  simp only [List.mem_range, decide_eq_true_eq]
theorem l_19 {h : zH} {Q : Option Value → zH → Prop} {G : Nat → Int} (x1 : Int32) (K : Nat) (tv : Nat → Int) (p : Nat → Bool) (C : CT1 h 15 G) (hK : G 57 = (K : Int)) (ex : x1 = mkm p 15) (et : ∀ k : Nat, k < K → (h.1 57 k).toInt = tv k) (H : Q (some (.int (zbo (mkB G K tv p = true)))) h) : ∀ (n s : Nat) (x3 : Int32), x3.toInt = (s : Int) → s ≤ K → (∀ t : Nat, t < s → itcS G t p 15 = tv t) → zQ n 19 2 [some (.ref 15), some (.int x1), some (.ref 57), some (.int x3)] [] h Q
  | 0, _, _, _, _, _ => zQ_zero
  | n + 1, s, x3, e3, hs, hp => by
    have c9 : (h.1 15 6).toInt = G 57 := C.2.2.2.2.2.2.2.2.1
    have w2 := C.2.1.2.1
    have k4 : (Int32.ofNat 4).toInt = 4 := by decide
    have T : (∀ t : Nat, t < K → itcS G t p 15 = tv t) → Q (some (.int (Int32.ofInt 1))) h := fun z => by
      rw [show zbo (mkB G K tv p = true) = Int32.ofInt 1 from if_pos (mkB_iff.mpr z)] at H
      exact H
    refine s_19_2 x1 x3 ⟨fun d => T (fun t ht => hp t (by omega)), fun d => ⟨fun d2 => by exfalso; omega, fun _ => ?_⟩⟩
    have e3' := ai (x := x3) (k := 1) (by omega) (by omega) (by omega) (by omega)
    refine q_17 x3 x1 s p C e3 (by omega) ex (fun v ev => ?_)
    refine zri_int (fun _ _ => ?_)
    rw [show x3.toInt.toNat = s by omega, et s (by omega), ev]
    refine ⟨fun z => ?_, fun z => ?_⟩
    · refine l_19 x1 K tv p C hK ex et H n (s + 1) _ (by omega) (by omega) (fun t ht => ?_)
      by_cases y : t = s
      · subst y; exact z
      · exact hp t (by omega)
    · rw [show zbo (mkB G K tv p = true) = Int32.ofInt 0 from if_neg (fun y => z (mkB_iff.mp y s (by omega)))] at H
      exact H
theorem q_19 {h : zH} {Q : Option Value → zH → Prop} {G : Nat → Int} (a1 : Int32) (K : Nat) (tv : Nat → Int) (p : Nat → Bool) (C : CT1 h 15 G) (hK : G 57 = (K : Int)) (ex : a1 = mkm p 15) (et : ∀ k : Nat, k < K → (h.1 57 k).toInt = tv k) (H : Q (some (.int (zbo (mkB G K tv p = true)))) h) : zqm 19 [.ref 15, .int a1, .ref 57] h Q := s_19 a1 (fun n => l_19 a1 K tv p C hK ex et H n 0 _ kc_0 (by omega) (fun t ht => by omega))
theorem l_185 {h : zH} {Q : Option Value → zH → Prop} (x1 : Int32) (K A : Nat) (tv : Nat → Int) (p : Nat → Bool) (w : wfG (nowG h)) (cS : h.1 58 13 = mkm (smB (gyD (nowG h))) 15) (cF : ∀ s : Nat, (s : Int) < nowG h 57 → h.1 66 s = mkm (flB (gyD (nowG h)) (gyE (nowG h) s)) 15) (hK : nowG h 57 = (K : Int)) (ex : x1 = mkm p 15) (eA : (h.1 58 18).toInt = (A : Int)) (A3 : A + K ≤ 320) (et : ∀ k : Nat, k < K → (h.1 61 (A + k)).toInt = tv k) (H : Q (some (.int (zbo (mkB (nowG h) K tv p = true)))) h) : ∀ (n s : Nat) (x2 x3 : Int32), x3.toInt = (s : Int) → s ≤ K → (x2 = Int32.ofInt 1 ∧ (∀ t : Nat, t < s → itcS (nowG h) t p 15 = tv t)) ∨ (x2 = Int32.ofInt 0 ∧ ¬ mkB (nowG h) K tv p = true) → zQ n 185 4 [some (.ref 58), some (.int x1), some (.int x2), some (.int x3)] [] h Q
  | 0, _, _, _, _, _, _ => zQ_zero
  | n + 1, s, x2, x3, e3, hs, hp => by
    have w2 := w.2.1
    have e57 : (h.1 64 57).toInt = nowG h 57 := rfl
    have e3' : ¬ (h.1 64 57).toInt ≤ x3.toInt → (x3 + Int32.ofInt 1).toInt = ((s + 1 : Nat) : Int) := fun d => by
      rw [ai (by omega) (by omega) (by omega) (by omega)]
      omega
    refine s_185_4 x1 x2 x3 ⟨fun d => ?_, fun d => ⟨fun z => ?_, fun z => ?_⟩⟩
    · have : s = K := by omega
      subst this
      rcases hp with ⟨p1, p2⟩ | ⟨p1, p2⟩
      · rw [show zbo (mkB (nowG h) s tv p = true) = Int32.ofInt 1 from if_pos (mkB_iff.mpr p2), ← p1] at H
        exact H
      · rw [show zbo (mkB (nowG h) s tv p = true) = Int32.ofInt 0 from if_neg p2, ← p1] at H
        exact H
    · rcases hp with ⟨p1, p2⟩ | ⟨p1, p2⟩
      · rw [p1] at z
        exact absurd z (by decide)
      · exact l_185 x1 K A tv p w cS cF hK ex eA A3 et H n (s + 1) _ _ (e3' d) (by omega) (Or.inr ⟨rfl, p2⟩)
    · rcases hp with ⟨p1, p2⟩ | ⟨p1, p2⟩
      · refine q_164 x3 x1 s p e3 ex w (by omega) (cF s (by omega)) cS (fun v ev => ?_)
        have ea := wk_add eA e3 (by omega) (by omega)
        refine zri_int ?_
        rw [ea, show ((A : Int) + (s : Int)).toNat = A + s by omega, et s (by omega), ev]
        refine fun _ _ => ⟨fun y => ?_, fun y => ?_⟩
        · exact l_185 x1 K A tv p w cS cF hK ex eA A3 et H n (s + 1) _ _ (e3' d) (by omega) (Or.inr ⟨rfl, fun k => y (mkB_iff.mp k s (by omega))⟩)
        · refine l_185 x1 K A tv p w cS cF hK ex eA A3 et H n (s + 1) _ _ (e3' d) (by omega) (Or.inl ⟨rfl, fun t ht => ?_⟩)
          by_cases u : t = s
          · subst u; exact Decidable.not_not.mp y
          · exact p2 t (by omega)
      · rw [p1] at z
        exact absurd (by decide) z
theorem q_185 {h : zH} {Q : Option Value → zH → Prop} (a1 : Int32) (K A : Nat) (tv : Nat → Int) (p : Nat → Bool) (w : wfG (nowG h)) (cS : h.1 58 13 = mkm (smB (gyD (nowG h))) 15) (cF : ∀ s : Nat, (s : Int) < nowG h 57 → h.1 66 s = mkm (flB (gyD (nowG h)) (gyE (nowG h) s)) 15) (hK : nowG h 57 = (K : Int)) (ex : a1 = mkm p 15) (eA : (h.1 58 18).toInt = (A : Int)) (A3 : A + K ≤ 320) (et : ∀ k : Nat, k < K → (h.1 61 (A + k)).toInt = tv k) (H : Q (some (.int (zbo (mkB (nowG h) K tv p = true)))) h) : zqm 185 [.ref 58, .int a1] h Q := s_185 a1 (fun n => l_185 a1 K A tv p w cS cF hK ex eA A3 et H n 0 _ _ kc_0 (by omega) (Or.inl ⟨rfl, fun t ht => by omega⟩))
theorem l_97 {h : zH} {Q : Option Value → zH → Prop} {G : Nat → Int} (x1 x2 x3 : Int32) (K : Nat) (tv : Nat → Int) (C : CT1 h 15 G) (hK : G 57 = (K : Int)) (et : ∀ k : Nat, k < K → (h.1 57 k).toInt = tv k) (H : Q (some (.int (mkm (fun c => mkB G K tv (fun i => decide (i = c))) 15))) (zSet h 0 11 (Int32.ofInt 0))) : ∀ (n c : Nat) (x4 x5 : Int32), x5.toInt = (c : Int) → c ≤ 15 → x4 = mkm (fun c => mkB G K tv (fun i => decide (i = c))) c → zQ n 97 33 [some (.ref 0), some (.int x1), some (.int x2), some (.int x3), some (.int x4), some (.int x5)] [] h Q
  | 0, _, _, _, _, _, _ => zQ_zero
  | n + 1, c, x4, x5, e5, hc, e4 => by
    refine s_97_33 x1 x2 x3 x4 x5 ⟨fun d => ?_, fun d => ?_⟩
    · have : c = 15 := by omega
      subst this
      rw [e4]
      exact q_115 _ (zri_int H)
    · have e5' := ai (x := x5) (k := 1) (by omega) (by omega) (by omega) (by omega)
      refine q_19 _ K tv (fun i => decide (i = c)) C hK (one_c e5 (by omega)) et ?_
      refine zri_int ⟨fun z => ?_, fun z => ?_⟩
      · refine l_97 x1 x2 x3 K tv C hK et H n (c + 1) _ _ (by omega) (by omega) ?_
        rw [← mkm_0 e4 (by simpa using zb0.mp z)]
        rw [e4]
        exact (b_ext (fun i hi => by rw [b_or, bt_0, Bool.or_false])).symm
      · exact l_97 x1 x2 x3 K tv C hK et H n (c + 1) _ _ (by omega) (by omega) (mkm_1 e4 e5 (by omega) (zb1.mp z))
theorem l_187 {h : zH} {Q : Option Value → zH → Prop} (x1 x2 x3 : Int32) (K A : Nat) (tv : Nat → Int) (w : wfG (nowG h)) (cS : h.1 58 13 = mkm (smB (gyD (nowG h))) 15) (cF : ∀ s : Nat, (s : Int) < nowG h 57 → h.1 66 s = mkm (flB (gyD (nowG h)) (gyE (nowG h) s)) 15) (hK : nowG h 57 = (K : Int)) (eA : (h.1 58 18).toInt = (A : Int)) (A3 : A + K ≤ 320) (et : ∀ k : Nat, k < K → (h.1 61 (A + k)).toInt = tv k) (H : Q (some (.int (mkm (fun c => mkB (nowG h) K tv (fun i => decide (i = c))) 15))) h) : ∀ (n c : Nat) (x4 x5 : Int32), x5.toInt = (c : Int) → c ≤ 15 → x4 = mkm (fun c => mkB (nowG h) K tv (fun i => decide (i = c))) c → zQ n 187 37 [some (.ref 58), some (.int x1), some (.int x2), some (.int x3), some (.int x4), some (.int x5)] [] h Q
  | 0, _, _, _, _, _, _ => zQ_zero
  | n + 1, c, x4, x5, e5, hc, e4 => by
    refine s_187_37 x1 x2 x3 x4 x5 ⟨fun d => ?_, fun d => ?_⟩
    · have : c = 15 := by omega
      subst this
      rw [e4]
      exact H
    · have e5' := ai (x := x5) (k := 1) (by omega) (by omega) (by omega) (by omega)
      refine q_185 _ K A tv (fun i => decide (i = c)) w cS cF hK (one_c e5 (by omega)) eA A3 et ?_
      refine zri_int ⟨fun z => ?_, fun z => ?_⟩
      · exact l_187 x1 x2 x3 K A tv w cS cF hK eA A3 et H n (c + 1) _ _ (by omega) (by omega) (mkm_0 e4 (by simpa using zb0.mp z))
      · exact l_187 x1 x2 x3 K A tv w cS cF hK eA A3 et H n (c + 1) _ _ (by omega) (by omega) (mkm_1 e4 e5 (by omega) (zb1.mp z))
abbrev JCR : zH → Prop := fun h => JC h ∧ JR h
/-- what a question over told itches leaves alone -/
def nrB (h h2 : zH) : Prop := (∀ q : Nat, q ≠ 0 → q ≠ 55 → q ≠ 56 → q ≠ 57 → q ≠ 58 → q ≠ 70 → h2.1 q = h.1 q) ∧ h2.1 58 13 = h.1 58 13
theorem nrB_J {h h2 : zH} (f : nrB h h2) (hJ : JCR h) : JCR h2 := ⟨JC_fr (fun q a b => f.1 q (by omega) (by omega) (by omega) (by omega) (by omega) (by omega)) (f.1 64 (by decide) (by decide) (by decide) (by decide) (by decide) (by decide)) (f.1 66 (by decide) (by decide) (by decide) (by decide) (by decide) (by decide)) f.2 hJ.1, JR_fr (fun q hq => f.1 q (by omega) (by omega) (by omega) (by omega) (by omega) (by omega)) hJ.2⟩
/-- what the reference finds in a row is what the class finds -/
theorem told_r {h : zH} {a1 : Int32} (hR : JR h) (r : 0 ≤ a1.toInt ∧ a1.toInt < 8) : ((h.1 12 a1.toInt.toNat).toInt < 0 ↔ (h.1 59 a1.toInt.toNat).toInt < 0) ∧ (0 ≤ (h.1 59 a1.toInt.toNat).toInt → (h.1 12 a1.toInt.toNat).toInt = (h.1 60 a1.toInt.toNat).toInt) := ⟨(JR_at hR r.1 r.2).1, fun z => ((JR_at hR r.1 r.2).2 z).1⟩
theorem nrB_s (h : zH) (x y : Int32) : nrB h (zSet (zSet h 0 11 x) 58 3 y) := ⟨fun q a _ _ _ e _ => by rw [zs_q e, zs_q a], by rw [wk_ne (Or.inr (by decide)), zs_q (by decide)]⟩
theorem nrB_0 (h : zH) : nrB h h := ⟨fun _ _ _ _ _ _ _ => rfl, rfl⟩
theorem JS_s (h : zH) (x : Int32) : JS (zSet (zSet h 0 11 x) 58 3 x) := by
  unfold JS
  rw [zs_q (by decide), wk_at, wk_at]

/-! what follows from a text, by the class -/
theorem bes_k1 : ∀ j, j < 15 → bt (Int32.ofInt (-16913)) j = !decide (j % 5 = 4) := by decide +kernel
theorem bes_k2 : ∀ j, j < 15 → bt (Int32.ofInt (-1058)) j = !decide (j % 5 = 0) := by decide +kernel
theorem q_14 {h : zH} {Q : Option Value → zH → Prop} (a0 : Int32) (p : Nat → Bool) (e : a0 = mkm p 15) (H : ∀ v : Int32, (∀ i, i < 32 → bt v i = (decide (i < 15) && anyc 15 fun d => adj i d && p d)) → Q (some (.int v)) h) : zqm 14 [.int a0] h Q := by
  refine s_14 a0 (H _ (fun i hi => ?_))
  have hb : ∀ j, j < 32 → bt a0 j = (decide (j < 15) && p j) := fun j hj => by rw [e, mkm_bt p 15 (by omega) j hj]
  rw [b_and, bt_all hi]
  by_cases h15 : i < 15
  · rw [decide_eq_true h15, Bool.and_true, Bool.true_and, b_or, b_or, b_or, bt_shl kc_1 (k := 1) (by omega) hi, bt_shr kc_1 (k := 1) (by omega) hi, bt_shl kc_5 (k := 5) (by omega) hi, bt_shr kc_5 (k := 5) (by omega) hi, if_pos (show 1 + i < 32 by omega), if_pos (show 5 + i < 32 by omega), b_and, b_and, hb (i - 1) (by omega), hb (1 + i) (by omega), hb (i - 5) (by omega), hb (5 + i) (by omega)]
    rw [bes_k1 (i - 1) (by omega)]
    have k2 : (decide (1 + i < 15) && p (1 + i) && bt (Int32.ofInt (-1058)) (1 + i)) = (decide (1 + i < 15) && p (1 + i) && !decide ((1 + i) % 5 = 0)) := by
      by_cases z : 1 + i < 15
      · rw [bes_k2 _ z]
      · rw [decide_eq_false z]; rfl
    rw [k2, Bool.eq_iff_iff, anyc_t]
    simp only [Bool.or_eq_true, Bool.and_eq_true, decide_eq_true_eq, Bool.not_eq_true', decide_eq_false_iff_not, adj]
    constructor
    · rintro (((⟨z1, ⟨z2, z3⟩, z4⟩ | ⟨⟨z2, z3⟩, z4⟩) | ⟨z1, z2, z3⟩) | ⟨z2, z3⟩)
      · exact ⟨i - 1, by omega, by omega, z3⟩
      · exact ⟨1 + i, by omega, by omega, z3⟩
      · exact ⟨i - 5, by omega, by omega, z3⟩
      · exact ⟨5 + i, by omega, by omega, z3⟩
    · rintro ⟨d, hd, z, w⟩
      have : (d = i - 1 ∧ 1 ≤ i ∧ ¬ (i - 1) % 5 = 4) ∨ (d = 1 + i ∧ ¬ (1 + i) % 5 = 0) ∨ (d = i - 5 ∧ 5 ≤ i) ∨ d = 5 + i := by omega
      rcases this with ⟨y1, y2, y3⟩ | ⟨y1, y2⟩ | ⟨y1, y2⟩ | y1
      · subst y1; exact Or.inl (Or.inl (Or.inl ⟨y2, ⟨hd, w⟩, y3⟩))
      · subst y1; exact Or.inl (Or.inl (Or.inr ⟨⟨hd, w⟩, y2⟩))
      · subst y1; exact Or.inl (Or.inr ⟨y2, hd, w⟩)
      · subst y1; exact Or.inr ⟨hd, w⟩
  · rw [decide_eq_false h15, Bool.and_false, Bool.false_and]
def itA (k s : Int) : Int := if k = 1 then s else if k = 2 then s / 2 else if k = 3 then 2 * s else 1
def itW (k s : Int) : Int := if k = 1 then s else if k = 2 then s / 2 else if k = 3 then s else if k = 4 then 1 else 0
theorem dv2 : ∀ c, c < 6 → (nI c / Int32.ofInt 2).toInt = ((c / 2 : Nat) : Int) := by decide
theorem dv2' {x : Int32} (h0 : 0 ≤ x.toInt) (h5 : x.toInt ≤ 5) : (x / Int32.ofInt 2).toInt = x.toInt / 2 := by
  have e : x = nI x.toInt.toNat := x_nI (by omega) (by omega)
  have := dv2 x.toInt.toNat (by omega)
  rw [← e] at this
  rw [this]
  omega
theorem q_15 {h : zH} {Q : Option Value → zH → Prop} (a0 a1 : Int32) (h0 : 0 ≤ a1.toInt) (h5 : a1.toInt ≤ 5) (H : ∀ v : Int32, v.toInt = itA a0.toInt a1.toInt → Q (some (.int v)) h) : zqm 15 [.int a0, .int a1] h Q := by
  refine s_15 a0 a1 ⟨fun c => H _ ?_, fun c => H _ ?_, fun c => H _ ?_, fun c => H _ ?_⟩
  · unfold itA; rw [if_pos c]
  · unfold itA; rw [if_neg (by omega), if_pos c, dv2' h0 h5]
  · unfold itA; rw [if_neg (by omega), if_neg (by omega), if_pos c, mi (by omega) (by omega) (by omega) (by omega)]
  · unfold itA; rw [if_neg (by omega), if_neg (by omega), if_neg (by omega)]; decide
theorem q_16 {h : zH} {Q : Option Value → zH → Prop} (a0 a1 : Int32) (h0 : 0 ≤ a1.toInt) (h5 : a1.toInt ≤ 5) (H : ∀ v : Int32, v.toInt = itW a0.toInt a1.toInt → Q (some (.int v)) h) : zqm 16 [.int a0, .int a1] h Q := by
  refine s_16 a0 a1 ⟨fun c => H _ ?_, fun c => H _ ?_, fun c => H _ ?_, fun c => H _ ?_, fun c => H _ ?_⟩
  · unfold itW; rw [if_pos c]
  · unfold itW; rw [if_neg (by omega), if_pos c, dv2' h0 h5]
  · unfold itW; rw [if_neg (by omega), if_neg (by omega), if_pos c]
  · unfold itW; rw [if_neg (by omega), if_neg (by omega), if_neg (by omega), if_pos c]; decide
  · unfold itW; rw [if_neg (by omega), if_neg (by omega), if_neg (by omega), if_neg (by omega)]; decide
/-- does a man itch at a cell, if it is wrong -/
def tk (D : Nat → Int) (e k s : Int) (c : Nat) : Bool := flB D e c && decide (0 < if smB D c then itA k s else itW k s)
def itB (D : Nat → Int) (K : Nat) (E KD SC : Nat → Int) (c : Nat) : Bool := anyc K fun s => tk D (E s) (KD s) (SC s) c
theorem q_20_23 {h : zH} {Q : Option Value → zH → Prop} (a1 : Int32) (H : Q (some (.int (zbo (0 ≤ a1.toInt ∧ a1.toInt < (h.1 23 6).toInt ∧ a1.toInt < 4)))) h) : zqm 20 [.ref 23, .int a1] h Q := by
  refine s_20_23 a1 ⟨fun c => ?_, fun c => ⟨fun d => ?_, fun d => ⟨fun e => ?_, fun e => ?_⟩⟩⟩
  · rw [zbF (by omega)] at H; exact H
  · rw [zbF (by omega)] at H; exact H
  · rw [zbF (by omega)] at H; exact H
  · rw [zbT (by omega)] at H; exact H
theorem q_20_15 {h : zH} {Q : Option Value → zH → Prop} (a1 : Int32) (H : Q (some (.int (zbo (0 ≤ a1.toInt ∧ a1.toInt < (h.1 15 6).toInt ∧ a1.toInt < 4)))) h) : zqm 20 [.ref 15, .int a1] h Q := by
  refine s_20_15 a1 ⟨fun c => ?_, fun c => ⟨fun d => ?_, fun d => ⟨fun e => ?_, fun e => ?_⟩⟩⟩
  · rw [zbF (by omega)] at H; exact H
  · rw [zbF (by omega)] at H; exact H
  · rw [zbF (by omega)] at H; exact H
  · rw [zbT (by omega)] at H; exact H
/-- a man is placed -/
theorem q_13 {h : zH} {Q : Option Value → zH → Prop} (a1 : Int32) (k : Nat) (D : Nat → Int) (m kk ss : Int) (e1 : a1.toInt = (k : Int)) (hk : (k : Int) < (h.1 23 6).toInt) (k4 : k < 4) (hD : ∀ d : Nat, d < 3 → h.1 24 d = mkm (fun c => decide (D c = (d : Int))) 15) (hS : h.1 23 7 = mkm (smB D) 15) (hm : (h.1 26 k).toInt = m) (m0 : 0 ≤ m) (m3 : m < 3) (hkk : (h.1 25 k).toInt = kk) (hss : (h.1 27 k).toInt = ss) (s0 : 0 ≤ ss) (s5 : ss ≤ 5)
    (H : ∀ h', (∀ q, q ≠ 23 → q ≠ 28 → q ≠ 29 → q ≠ 30 → h'.1 q = h.1 q) → (∀ j, j ≠ 8 → h'.1 23 j = h.1 23 j) → (∀ j, j ≠ k → h'.1 28 j = h.1 28 j ∧ h'.1 29 j = h.1 29 j ∧ h'.1 30 j = h.1 30 j) → h'.1 28 k = mkm (flB D m) 15 → (h'.1 29 k).toInt = itA kk ss → (h'.1 30 k).toInt = itW kk ss → (∀ i, i < 32 → bt (h'.1 23 8) i = (bt (h.1 23 8) i || (decide (i < 15) && tk D m kk ss i))) → Q none h') : zqm 13 [.ref 23, .int a1] h Q := by
  have ek : a1.toInt.toNat = k := by omega
  refine s_13 a1 ?_
  refine q_20_23 a1 ?_
  refine zri_int ?_
  refine ⟨fun c => ?_, fun c => absurd (by omega) (zb2.mp c)⟩
  refine s_21_23 a1 ?_
  refine q_20_23 a1 ?_
  refine zri_int ?_
  refine ⟨fun c' => ?_, fun c => absurd (by omega) (zb2.mp c)⟩
  intro _ _
  rw [ek, hm]
  refine ⟨fun z => by exfalso; omega, fun z => ⟨fun y => by exfalso; omega, fun y _ _ => ?_⟩⟩
  refine zri_int ?_
  have hO : h.1 24 m.toNat = mkm (fun c => decide (D c = m)) 15 := by
    rw [hD m.toNat (by omega), show ((m.toNat : Nat) : Int) = m by omega]
  refine q_14 _ _ hO (fun v4 hv4 => ?_)
  refine zri_int ?_
  have hF : h.1 24 m.toNat ||| (v4 &&& h.1 23 7) = mkm (flB D m) 15 := by
    refine mkm_eq (by omega) (fun i hi => ?_)
    rw [b_or, b_and, hO, hS, mkm_bt _ _ (by omega) i hi, mkm_bt _ _ (by omega) i hi, hv4 i hi]
    unfold flB
    cases decide (i < 15) <;> cases decide (D i = m) <;> cases smB D i <;> simp
  rw [hF]
  intro _ _ _ _ _ _
  refine q_15 _ _ (by rw [hss]; exact s0) (by rw [hss]; exact s5) (fun v8 e8 => ?_)
  refine zri_int ?_
  rw [hkk, hss] at e8
  intro _ _ _ _ _ _
  rw [fr1 (show (25 : Nat) ≠ 28 by decide), fr1 (show (27 : Nat) ≠ 28 by decide)]
  refine q_16 _ _ (by rw [hss]; exact s0) (by rw [hss]; exact s5) (fun v12 e12 => ?_)
  refine zri_int ?_
  rw [hkk, hss] at e12
  -- what is read of the cells then
  have g29 : (zSet (zSet h 28 k (mkm (flB D m) 15)) 29 k v8).1 29 k = v8 := fr3
  have g23 : ∀ j, (zSet (zSet h 28 k (mkm (flB D m) 15)) 29 k v8).1 23 j = h.1 23 j := fun j => by rw [fr1 (by decide), fr1 (by decide)]
  have g28 : (zSet (zSet h 28 k (mkm (flB D m) 15)) 29 k v8).1 28 k = mkm (flB D m) 15 := by rw [fr1 (by decide), fr3]
  have g30 : (zSet (zSet (zSet h 28 k (mkm (flB D m) 15)) 29 k v8) 30 k v12).1 30 k = v12 := fr3
  rw [g29, g23, g23, g28, g30]
  intro _ _ _ _
  have fin : ∀ w1 w2 : Int32, (∀ i, i < 32 → bt w2 i = (bt (h.1 23 8) i || (decide (i < 15) && tk D m kk ss i))) → Q none (zSet (zSet (zSet (zSet (zSet h 28 k (mkm (flB D m) 15)) 29 k v8) 30 k v12) 23 8 w1) 23 8 w2) := fun w1 w2 hw => by
    refine H _ (fun q c1 c2 c3 c4 => ?_) (fun j hj => ?_) (fun j hj => ⟨?_, ?_, ?_⟩) ?_ ?_ ?_ (fun i hi => ?_)
    · rw [fr1 c1, fr1 c1, fr1 c4, fr1 c3, fr1 c2]
    · rw [fr2 hj, fr2 hj, fr1 (by decide), fr1 (by decide), fr1 (by decide)]
    · rw [fr1 (by decide), fr1 (by decide), fr1 (by decide), fr1 (by decide), fr2 hj]
    · rw [fr1 (by decide), fr1 (by decide), fr1 (by decide), fr2 hj, fr1 (by decide)]
    · rw [fr1 (by decide), fr1 (by decide), fr2 hj, fr1 (by decide), fr1 (by decide)]
    · rw [fr1 (by decide), fr1 (by decide), fr1 (by decide), fr1 (by decide), fr3]
    · rw [fr1 (by decide), fr1 (by decide), fr1 (by decide), fr3]; exact e8
    · rw [fr1 (by decide), fr1 (by decide), fr3]; exact e12
    · rw [fr3]; exact hw i hi
  have bS : ∀ i, i < 32 → bt (mkm (flB D m) 15 &&& h.1 23 7) i = (decide (i < 15) && (flB D m i && smB D i)) := fun i hi => by
    rw [b_and, hS, mkm_bt _ _ (by omega) i hi, mkm_bt _ _ (by omega) i hi]
    cases decide (i < 15) <;> cases flB D m i <;> simp
  have bN : ∀ i, i < 32 → bt (mkm (flB D m) 15 &&& (h.1 23 7 ^^^ Int32.ofInt (-1))) i = (decide (i < 15) && (flB D m i && !smB D i)) := fun i hi => by
    rw [b_and, bt_not hi, hS, mkm_bt _ _ (by omega) i hi, mkm_bt _ _ (by omega) i hi]
    cases decide (i < 15) <;> cases flB D m i <;> simp
  refine ⟨fun z => ?_, fun z => ?_⟩
  · intro _ _
    refine ⟨fun y => ?_, fun y => ?_⟩
    · refine fin _ _ (fun i hi => ?_)
      rw [b_or, b_or, bt_0]
      unfold tk
      rw [e8] at z
      rw [e12] at y
      have : decide (0 < if smB D i then itA kk ss else itW kk ss) = false := decide_eq_false (by split <;> omega)
      rw [this]
      simp
    · intro _ _
      refine fin _ _ (fun i hi => ?_)
      rw [b_or, b_or, bt_0, bN i hi]
      unfold tk
      rw [e8] at z
      rw [e12] at y
      cases smB D i with
      | true => rw [if_pos rfl, decide_eq_false (show ¬ 0 < itA kk ss by omega)]; simp
      | false => rw [if_neg (by decide), decide_eq_true (show 0 < itW kk ss by omega)]; simp
  · intro _ _ _ _
    refine ⟨fun y => ?_, fun y => ?_⟩
    · refine fin _ _ (fun i hi => ?_)
      rw [b_or, b_or, bt_0, bS i hi]
      unfold tk
      rw [e8] at z
      rw [e12] at y
      cases smB D i with
      | true => rw [if_pos rfl, decide_eq_true (show 0 < itA kk ss by omega)]; simp
      | false => rw [if_neg (by decide), decide_eq_false (show ¬ 0 < itW kk ss by omega)]; simp
    · intro _ _
      refine fin _ _ (fun i hi => ?_)
      rw [b_or, b_or, bS i hi, bN i hi]
      unfold tk
      rw [e8] at z
      rw [e12] at y
      cases smB D i with
      | true => rw [if_pos rfl, decide_eq_true (show 0 < itA kk ss by omega)]; cases bt (h.1 23 8) i <;> cases decide (i < 15) <;> cases flB D m i <;> rfl
      | false => rw [if_neg (by decide), decide_eq_true (show 0 < itW kk ss by omega)]; cases bt (h.1 23 8) i <;> cases decide (i < 15) <;> cases flB D m i <;> rfl
theorem l_12b {Q : Option Value → zH → Prop} (D E KD SC : Nat → Int) (K : Nat) (g : zH) (hK : (g.1 23 6).toInt = (K : Int)) (K4 : K ≤ 4) (hD : ∀ d : Nat, d < 3 → g.1 24 d = mkm (fun c => decide (D c = (d : Int))) 15) (hS : g.1 23 7 = mkm (smB D) 15) (hM : ∀ s : Nat, s < K → (g.1 25 s).toInt = KD s ∧ (g.1 26 s).toInt = E s ∧ (g.1 27 s).toInt = SC s) (hR : ∀ s : Nat, s < K → 0 ≤ E s ∧ E s < 3 ∧ 0 ≤ SC s ∧ SC s ≤ 5)
    (H : ∀ h', (∀ q, q ≠ 23 → q ≠ 28 → q ≠ 29 → q ≠ 30 → h'.1 q = g.1 q) → (∀ j, j ≠ 8 → h'.1 23 j = g.1 23 j) → (∀ s : Nat, s < K → h'.1 28 s = mkm (flB D (E s)) 15 ∧ (h'.1 29 s).toInt = itA (KD s) (SC s) ∧ (h'.1 30 s).toInt = itW (KD s) (SC s)) → h'.1 23 8 = mkm (itB D K E KD SC) 15 → Q none (zSet h' 23 0 (Int32.ofInt 1))) :
    ∀ (n k : Nat) (x1 : Int32) (o2 : Option Value) (h : zH), x1.toInt = (k : Int) → k ≤ K → (∀ q, q ≠ 23 → q ≠ 28 → q ≠ 29 → q ≠ 30 → h.1 q = g.1 q) → (∀ j, j ≠ 8 → h.1 23 j = g.1 23 j) → (∀ s : Nat, s < k → h.1 28 s = mkm (flB D (E s)) 15 ∧ (h.1 29 s).toInt = itA (KD s) (SC s) ∧ (h.1 30 s).toInt = itW (KD s) (SC s)) → (∀ i, i < 32 → bt (h.1 23 8) i = (decide (i < 15) && itB D k E KD SC i)) → zQ n 12 53 [some (.ref 23), some (.int x1), o2] [] h Q
  | 0, _, _, _, _, _, _, _, _, _, _ => zQ_zero
  | n + 1, k, x1, o2, h, e1, hk, f1, f2, f3, f4 => by
    refine s_12_53 x1 o2 ?_
    rw [f2 6 (by decide), hK]
    refine ⟨fun c => ?_, fun c => ?_⟩
    · have ek : k = K := by omega
      subst ek
      exact H h f1 f2 f3 (mkm_eq (by omega) f4)
    · have e1' := ai (x := x1) (k := 1) (by omega) (by omega) (by omega) (by omega)
      obtain ⟨m1, m2, m3⟩ := hM k (by omega)
      obtain ⟨r1, r2, r3, r4⟩ := hR k (by omega)
      refine q_13 x1 k D (E k) (KD k) (SC k) e1 (by rw [f2 6 (by decide), hK]; omega) (by omega) (fun d hd => by rw [f1 24 (by decide) (by decide) (by decide) (by decide)]; exact hD d hd) (by rw [f2 7 (by decide)]; exact hS) (by rw [f1 26 (by decide) (by decide) (by decide) (by decide)]; exact m2) r1 r2 (by rw [f1 25 (by decide) (by decide) (by decide) (by decide)]; exact m1) (by rw [f1 27 (by decide) (by decide) (by decide) (by decide)]; exact m3) r3 r4 (fun h' w1 w2 w3 w4 w5 w6 w7 => ?_)
      refine l_12b D E KD SC K g hK K4 hD hS hM hR H n (k + 1) _ o2 h' (by omega) (by omega) (fun q c1 c2 c3 c4 => by rw [w1 q c1 c2 c3 c4, f1 q c1 c2 c3 c4]) (fun j hj => by rw [w2 j hj, f2 j hj]) (fun s hs => ?_) (fun i hi => ?_)
      · by_cases y : s = k
        · subst y
          exact ⟨w4, w5, w6⟩
        · obtain ⟨u1, u2, u3⟩ := w3 s y
          rw [u1, u2, u3]
          exact f3 s (by omega)
      · rw [w7 i hi, f4 i hi]
        unfold itB
        rw [anyc_s]
        cases decide (i < 15) <;> simp
theorem l_12a {Q : Option Value → zH → Prop} (D : Nat → Int) (g : zH) (hD : ∀ d : Nat, d < 3 → g.1 24 d = mkm (fun c => decide (D c = (d : Int))) 15) (hR : ∀ c : Nat, c < 15 → 0 ≤ D c ∧ D c < 3)
    (H : ∀ (n : Nat) (o2 : Option Value) (h' : zH), (∀ q, q ≠ 23 → h'.1 q = g.1 q) → (∀ j, j ≠ 7 → h'.1 23 j = g.1 23 j) → h'.1 23 7 = mkm (smB D) 15 → zQ n 12 53 [some (.ref 23), some (.int (Int32.ofInt 0)), o2] [] (zSet h' 23 8 (Int32.ofInt 0)) Q) :
    ∀ (n d : Nat) (x1 : Int32) (o2 : Option Value) (h : zH), x1.toInt = (d : Int) → d ≤ 3 → (∀ q, q ≠ 23 → h.1 q = g.1 q) → (∀ j, j ≠ 7 → h.1 23 j = g.1 23 j) → (∀ i, i < 32 → bt (h.1 23 7) i = (decide (i < 15) && anyc d fun m => decide (D i = (m : Int)) && anyc 15 fun e => adj i e && !decide (D e = (m : Int)))) → zQ n 12 7 [some (.ref 23), some (.int x1), o2] [] h Q
  | 0, _, _, _, _, _, _, _, _, _ => zQ_zero
  | n + 1, d, x1, o2, h, e1, hd, f1, f2, f3 => by
    refine s_12_7 x1 o2 ⟨fun c => ?_, fun c b1 b2 => ?_⟩
    · have e3 : d = 3 := by omega
      subst e3
      refine H n o2 h f1 f2 (mkm_eq (by omega) (fun i hi => ?_))
      rw [f3 i hi]
      by_cases h15 : i < 15
      · rw [decide_eq_true h15, Bool.true_and, Bool.true_and]
        have r := hR i h15
        rw [Bool.eq_iff_iff, anyc_t]
        unfold smB
        constructor
        · rintro ⟨m, hm, hp⟩
          rw [Bool.and_eq_true, decide_eq_true_eq] at hp
          rw [hp.1]
          exact hp.2
        · intro hp
          refine ⟨(D i).toNat, by omega, ?_⟩
          rw [Bool.and_eq_true, decide_eq_true_eq, show (((D i).toNat : Nat) : Int) = D i by omega]
          exact ⟨rfl, hp⟩
      · rw [decide_eq_false h15, Bool.false_and, Bool.false_and]
    · have en : x1.toInt.toNat = d := by omega
      have e1' := ai (x := x1) (k := 1) (by omega) (by omega) (by omega) (by omega)
      rw [en]
      have hO : h.1 24 d = mkm (fun c => decide (D c = (d : Int))) 15 := by rw [f1 24 (by decide)]; exact hD d (by omega)
      have hA : Int32.ofInt 32767 &&& (h.1 24 d ^^^ Int32.ofInt (-1)) = mkm (fun c => !decide (D c = (d : Int))) 15 := mkm_eq (by omega) (fun i hi => by
        rw [b_and, bt_all hi, bt_not hi, hO, mkm_bt _ _ (by omega) i hi]
        cases decide (i < 15) <;> simp)
      refine q_14 _ _ hA (fun v3 hv => ?_)
      refine zri_int ?_
      refine l_12a D g hD hR H n (d + 1) _ _ _ (by omega) (by omega) (fun q hq => by rw [fr1 hq, f1 q hq]) (fun j hj => by rw [fr2 hj, f2 j hj]) (fun i hi => ?_)
      rw [fr3, b_or, b_and, f3 i hi, hv i hi, hO, mkm_bt _ _ (by omega) i hi, anyc_s d]
      cases decide (i < 15) <;> simp
theorem q_12 {h : zH} {Q : Option Value → zH → Prop} (D E KD SC : Nat → Int) (K : Nat) (hK : (h.1 23 6).toInt = (K : Int)) (K4 : K ≤ 4) (hD : ∀ d : Nat, d < 3 → h.1 24 d = mkm (fun c => decide (D c = (d : Int))) 15) (hDR : ∀ c : Nat, c < 15 → 0 ≤ D c ∧ D c < 3) (hM : ∀ s : Nat, s < K → (h.1 25 s).toInt = KD s ∧ (h.1 26 s).toInt = E s ∧ (h.1 27 s).toInt = SC s) (hR : ∀ s : Nat, s < K → 0 ≤ E s ∧ E s < 3 ∧ 0 ≤ SC s ∧ SC s ≤ 5)
    (H : ∀ h', (∀ q, q ≠ 23 → q ≠ 28 → q ≠ 29 → q ≠ 30 → h'.1 q = h.1 q) → (∀ j, j ≠ 0 → j ≠ 7 → j ≠ 8 → h'.1 23 j = h.1 23 j) → h'.1 23 0 = Int32.ofInt 1 → h'.1 23 7 = mkm (smB D) 15 → (∀ s : Nat, s < K → h'.1 28 s = mkm (flB D (E s)) 15 ∧ (h'.1 29 s).toInt = itA (KD s) (SC s) ∧ (h'.1 30 s).toInt = itW (KD s) (SC s)) → h'.1 23 8 = mkm (itB D K E KD SC) 15 → Q none h') : zqm 12 [.ref 23] h Q := by
  refine s_12 (fun n => ?_)
  refine l_12a D (zSet h 23 7 (Int32.ofInt 0)) (fun d hd => by rw [fr1 (by decide)]; exact hD d hd) hDR (fun n o2 h1 f1 f2 f3 => ?_) n 0 _ _ _ kc_0 (by omega) (fun _ _ => rfl) (fun _ _ => rfl) (fun i hi => by rw [fr3, bt_0]; cases decide (i < 15) <;> rfl)
  have c : ∀ q, q ≠ 23 → (zSet h1 23 8 (Int32.ofInt 0)).1 q = h.1 q := fun q hq => by rw [fr1 hq, f1 q hq, fr1 hq]
  have d : ∀ j, j ≠ 7 → j ≠ 8 → (zSet h1 23 8 (Int32.ofInt 0)).1 23 j = h.1 23 j := fun j h7 h8 => by rw [fr2 h8, f2 j h7, fr2 h7]
  have d7 : (zSet h1 23 8 (Int32.ofInt 0)).1 23 7 = mkm (smB D) 15 := by rw [fr2 (by decide), f3]
  refine l_12b D E KD SC K (zSet h1 23 8 (Int32.ofInt 0)) (by rw [d 6 (by decide) (by decide)]; exact hK) K4 (fun e he => by rw [c 24 (by decide)]; exact hD e he) d7 (fun s hs => by rw [c 25 (by decide), c 26 (by decide), c 27 (by decide)]; exact hM s hs) hR (fun h2 w1 w2 w3 w4 => ?_) n 0 _ _ _ kc_0 (by omega) (fun _ _ _ _ _ => rfl) (fun _ _ => rfl) (fun s hs => absurd hs (Nat.not_lt_zero s)) (fun i hi => by rw [fr3, bt_0]; cases decide (i < 15) <;> rfl)
  refine H _ (fun q c1 c2 c3 c4 => ?_) (fun j c1 c2 c3 => ?_) fr3 ?_ (fun s hs => ?_) ?_
  · rw [fr1 c1, w1 q c1 c2 c3 c4, c q c1]
  · rw [fr2 c1, w2 j c3, d j c2 c3]
  · rw [fr2 (by decide), w2 7 (by decide), d7]
  · rw [fr1 (by decide), fr1 (by decide), fr1 (by decide)]
    exact w3 s hs
  · rw [fr2 (by decide), w4]

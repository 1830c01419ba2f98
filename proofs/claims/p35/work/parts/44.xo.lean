/-! wrong cells, strokes, brooks, the land that obliges, years -/
def arG (h : zH) (q : Nat) : Nat → Int := fun k => (h.1 q k).toInt
def wr (G : Nat → Int) (c : Nat) : Bool := !decide (G c = G (15 + c))
theorem oI0 {y : Int32} {k : Nat} (e : y.toInt = (k : Int)) (hk : k < 15) : (Int32.ofInt 0 + y).toInt = (k : Int) := by
  rw [wk_add kc_0 e (by omega) (by omega)]
  omega
theorem n15 (k : Nat) : (((15 + k : Nat) : Int)).toNat = 15 + k := by omega
theorem b2eq {a b : Int} (a0 : 0 ≤ a) (a3 : a ≤ 3) (b0 : 0 ≤ b) (b3 : b ≤ 3) : (((decide (a % 2 = 1)) ^^ (decide (b % 2 = 1))) || ((decide (a / 2 % 2 = 1)) ^^ (decide (b / 2 % 2 = 1)))) = !decide (a = b) := by
  have ha : a = 0 ∨ a = 1 ∨ a = 2 ∨ a = 3 := by omega
  have hb : b = 0 ∨ b = 1 ∨ b = 2 ∨ b = 3 := by omega
  rcases ha with z | z | z | z <;> rcases hb with y | y | y | y <;> subst z <;> subst y <;> decide
theorem q_51 {h : zH} {Q : Option Value → zH → Prop} (a0 a1 : Int32) (f g : Nat → Int) (p0 : pl a0 f) (p1 : pl a1 g) (r0 : ∀ c : Nat, c < 15 → 0 ≤ f c ∧ f c ≤ 3) (r1 : ∀ c : Nat, c < 15 → 0 ≤ g c ∧ g c ≤ 3) (H : Q (some (.int (mkm (fun c => !decide (f c = g c)) 15))) h) : zqm 51 [.int a0, .int a1] h Q := by
  refine s_51 a0 a1 ?_
  have e : ((a0 ^^^ a1) ||| ((a0 ^^^ a1) >>> (Int32.ofInt 15 &&& 31))) &&& Int32.ofInt 32767 = mkm (fun c => !decide (f c = g c)) 15 := mkm_eq (by omega) (fun i hi => by
    rw [b_and, bt_all hi, b_or, bt_shr kc_15 (k := 15) (by omega) hi]
    by_cases h15 : i < 15
    · rw [decide_eq_true h15, if_pos (by omega), b_xor, b_xor, (p0 i h15).1, (p1 i h15).1, (p0 i h15).2, (p1 i h15).2, Bool.and_true, Bool.true_and]
      exact b2eq (r0 i h15).1 (r0 i h15).2 (r1 i h15).1 (r1 i h15).2
    · rw [decide_eq_false h15, Bool.and_false, Bool.false_and])
  rw [e]
  exact H
theorem rem4 : ∀ c, c < 64 → (nI c - nI c / Int32.ofInt 4 * Int32.ofInt 4).toInt = ((c % 4 : Nat) : Int) ∧ (nI c / Int32.ofInt 4).toInt = ((c / 4 : Nat) : Int) := by decide
theorem rem15 : ∀ c, c < 30 → (nI c - nI c / Int32.ofInt 15 * Int32.ofInt 15).toInt = ((c % 15 : Nat) : Int) := by decide
theorem rem4' {x : Int32} {c : Nat} (e : x.toInt = (c : Int)) (hc : c < 64) : (x - x / Int32.ofInt 4 * Int32.ofInt 4).toInt = ((c % 4 : Nat) : Int) ∧ (x / Int32.ofInt 4).toInt = ((c / 4 : Nat) : Int) := by
  rw [x_nI e (by omega)]
  exact rem4 c hc
theorem rem15' {x : Int32} {c : Nat} (e : x.toInt = (c : Int)) (hc : c < 30) : (x - x / Int32.ofInt 15 * Int32.ofInt 15).toInt = ((c % 15 : Nat) : Int) := by
  rw [x_nI e (by omega)]
  exact rem15 c hc
/-- further by some sorts -/
theorem q_50 {h : zH} {Q : Option Value → zH → Prop} (m y b : Int32) (f : Nat → Int) (c : Nat) (hp : pl m f) (e : y.toInt = (c : Int)) (hc : c < 15) (f0 : 0 ≤ f c) (f3 : f c ≤ 3) (b0 : 0 ≤ b.toInt) (b3 : b.toInt ≤ 3) (H : ∀ v : Int32, pl v (fun d => if d = c then (f c + b.toInt) % 4 else f d) → Q (some (.int v)) h) : zqm 50 [.int m, .int y, .int b] h Q := by
  refine s_50 m y b ?_
  refine q_48 hp e hc f0 f3 (fun v1 e1 => ?_)
  refine zri_int ?_
  have s1 : (v1 + b).toInt = (((f c).toNat + b.toInt.toNat : Nat) : Int) := by rw [wk_add e1 rfl (by omega) (by omega)]; omega
  have r := (rem4' s1 (by omega)).1
  refine q_49 m y _ c e hc (fun v2 hb => ?_)
  refine zri_int ?_
  refine H v2 (pl_congr (pl_upd hp hc (by omega) (by omega) hb) (fun d hd => ?_))
  by_cases z : d = c
  · rw [if_pos z, if_pos z, r]; omega
  · rw [if_neg z, if_neg z]
theorem q_52 {h : zH} {Q : Option Value → zH → Prop} (a0 a1 a2 : Int32) (f g : Nat → Int) (p : Nat → Bool) (p0 : pl a0 f) (p1 : pl a1 g) (e2 : a2 = mkm p 15) (H : ∀ v : Int32, pl v (fun c => if p c then g c else f c) → Q (some (.int v)) h) : zqm 52 [.int a0, .int a1, .int a2] h Q := by
  refine s_52 a0 a1 a2 (H _ (fun c hc => ?_))
  have B : ∀ i, i < 30 → bt (a2 ||| (a2 <<< (Int32.ofInt 15 &&& 31))) i = ((decide (i < 15) && p i) || (decide (15 ≤ i) && p (i - 15))) := fun i hi => by
    rw [b_or, bt_shl kc_15 (k := 15) (by omega) (by omega), e2, mkm_bt p 15 (by omega) i (by omega), mkm_bt p 15 (by omega) (i - 15) (by omega), decide_eq_true (show i - 15 < 15 by omega), Bool.true_and]
  have V : ∀ i, i < 30 → bt ((a0 &&& ((a2 ||| (a2 <<< (Int32.ofInt 15 &&& 31))) ^^^ Int32.ofInt (-1))) ||| (a1 &&& (a2 ||| (a2 <<< (Int32.ofInt 15 &&& 31))))) i = if ((decide (i < 15) && p i) || (decide (15 ≤ i) && p (i - 15))) = true then bt a1 i else bt a0 i := fun i hi => by
    rw [b_or, b_and, b_and, bt_not (by omega), B i hi]
    cases ((decide (i < 15) && p i) || (decide (15 ≤ i) && p (i - 15))) <;> simp
  rw [V c (by omega), V (15 + c) (by omega), decide_eq_true hc, decide_eq_false (show ¬ 15 ≤ c by omega), decide_eq_false (show ¬ 15 + c < 15 by omega), decide_eq_true (show 15 ≤ 15 + c by omega), show 15 + c - 15 = c by omega]
  cases hpc : p c with
  | true =>
    simp only [hpc, Bool.true_and, Bool.false_and, Bool.or_false, Bool.false_or, if_pos trivial, if_true]
    exact p1 c hc
  | false =>
    simp only [hpc, Bool.true_and, Bool.false_and, Bool.or_false, Bool.false_or, Bool.false_eq_true, if_false]
    exact p0 c hc
/-! strokes -/
def drw (G : Nat → Int) (c : Nat) (s : Int) (k : Nat) : Int := if G 58 = 0 then (if k = 15 + c then s else G k) else (if k = 15 + (c + (G 58).toNat) % 15 then ((if (c + (G 58).toNat) % 15 = c then s else G (15 + (c + (G 58).toNat) % 15)) + G 59) % 4 else if k = 15 + c then s else G k)
/-- a stroke on a sheet, by the class -/
theorem q_27 {h : zH} {Q : Option Value → zH → Prop} (a1 a2 : Int32) (G : Nat → Int) (c s : Nat) (hp : pl a1 (fun d => G (15 + d))) (e2 : a2.toInt = ((4 * c + s : Nat) : Int)) (hc : c < 15) (hs : s < 4) (g58 : (h.1 15 1).toInt = G 58) (g59 : (h.1 15 2).toInt = G 59) (w58 : 0 ≤ G 58 ∧ G 58 ≤ 14) (w59 : 0 ≤ G 59 ∧ G 59 ≤ 3) (wS : ∀ d : Nat, d < 15 → 0 ≤ G (15 + d) ∧ G (15 + d) ≤ 3) (H : ∀ v : Int32, pl v (fun d => drw G c (s : Int) (15 + d)) → Q (some (.int v)) h) : zqm 27 [.ref 15, .int a1, .int a2] h Q := by
  have r := rem4' e2 (by omega)
  rw [show (4 * c + s) % 4 = s by omega, show (4 * c + s) / 4 = c by omega] at r
  refine s_27 a1 a2 ?_
  refine q_49 a1 _ _ c r.2 hc (fun v1 hb => ?_)
  refine zri_int ?_
  have P1 := pl_upd hp hc (by omega) (by omega) hb
  rw [r.1] at P1
  rw [g58]
  refine ⟨fun z => ?_, fun z => ?_⟩
  · have s1 : (a2 / Int32.ofInt 4 + h.1 15 1).toInt = ((c + (G 58).toNat : Nat) : Int) := by rw [wk_add r.2 g58 (by omega) (by omega)]; omega
    have r2 := rem15' s1 (by omega)
    have wo := wS ((c + (G 58).toNat) % 15) (by omega)
    refine q_50 v1 _ _ _ _ P1 r2 (by omega) (by split <;> omega) (by split <;> omega) (by omega) (by omega) (fun v3 P3 => ?_)
    refine zri_int ?_
    refine H v3 (pl_congr P3 (fun d hd => ?_))
    unfold drw
    rw [if_neg z, g59]
    by_cases y : d = (c + (G 58).toNat) % 15
    · rw [if_pos y, if_pos (show 15 + d = 15 + (c + (G 58).toNat) % 15 by omega)]
    · rw [if_neg y, if_neg (show ¬ 15 + d = 15 + (c + (G 58).toNat) % 15 by omega)]
      by_cases w : d = c
      · rw [if_pos w, if_pos (show 15 + d = 15 + c by omega)]
      · rw [if_neg w, if_neg (show ¬ 15 + d = 15 + c by omega)]
  · refine H v1 (pl_congr P1 (fun d hd => ?_))
    unfold drw
    rw [if_pos (Decidable.not_not.mp z)]
    by_cases w : d = c
    · rw [if_pos w, if_pos (by omega)]
    · rw [if_neg w, if_neg (by omega)]
/-! the land that obliges -/
def cnt (p : Nat → Bool) : Nat → Nat
  | 0 => 0
  | k + 1 => cnt p k + (if p k then 1 else 0)
theorem cnt_le (p : Nat → Bool) : ∀ n, cnt p n ≤ n
  | 0 => Nat.le_refl 0
  | n + 1 => by
    have := cnt_le p n
    show cnt p n + (if p n then 1 else 0) ≤ n + 1
    split <;> omega
theorem cnt_mono (p : Nat → Bool) {a : Nat} : ∀ {b : Nat}, a ≤ b → cnt p a ≤ cnt p b
  | 0, h => by rw [Nat.le_zero.mp h]; exact Nat.le_refl _
  | b + 1, h => by
    by_cases z : a = b + 1
    · rw [z]; exact Nat.le_refl _
    · have := cnt_mono p (a := a) (b := b) (by omega)
      show cnt p a ≤ cnt p b + (if p b then 1 else 0)
      omega
theorem cnt_0 {p : Nat → Bool} : ∀ {n : Nat}, cnt p n < 1 ↔ ¬ ∃ j, j < n ∧ p j = true
  | 0 => ⟨fun _ z => by obtain ⟨j, hj, -⟩ := z; omega, fun _ => Nat.lt_succ_self 0⟩
  | n + 1 => by
    have ih := cnt_0 (p := p) (n := n)
    show cnt p n + (if p n then 1 else 0) < 1 ↔ _
    constructor
    · intro h
      rintro ⟨j, hj, hp⟩
      by_cases z : j = n
      · subst z
        rw [if_pos hp] at h
        omega
      · exact ih.mp (by omega) ⟨j, by omega, hp⟩
    · intro h
      have h1 : cnt p n < 1 := ih.mpr (fun ⟨j, hj, hp⟩ => h ⟨j, by omega, hp⟩)
      rw [if_neg (fun z => h ⟨n, by omega, z⟩)]
      omega
def selc (G : Nat → Int) (m : Int) (c : Nat) : Bool := decide (G (30 + c) = m) && wr G c
def obG (G : Nat → Int) (m : Int) (M c k : Nat) : Int := if k < c ∧ selc G m k = true ∧ cnt (selc G m) k < M then G (15 + k) else G k
/-- the last of a year's men, and the year -/
def yrI (G : Nat → Int) : Nat → Nat → Int
  | 0 => G
  | s + 1 => if G (45 + 3 * s) = 5 then obG (yrI G s) (G (45 + 3 * s + 1)) 1 15 else yrI G s
theorem obG_hi {G : Nat → Int} {m : Int} {M k : Nat} (h : 15 ≤ k) : obG G m M 15 k = G k := if_neg (by omega)
theorem yrI_hi {G : Nat → Int} : ∀ (s : Nat) {k : Nat}, 15 ≤ k → yrI G s k = G k
  | 0, _, _ => rfl
  | s + 1, k, h => by
    show (if G (45 + 3 * s) = 5 then obG (yrI G s) (G (45 + 3 * s + 1)) 1 15 else yrI G s) k = G k
    split
    · rw [obG_hi h, yrI_hi s h]
    · exact yrI_hi s h
theorem yrI_ra {G : Nat → Int} (w : ∀ c : Nat, c < 15 → (0 ≤ G c ∧ G c ≤ 3) ∧ (0 ≤ G (15 + c) ∧ G (15 + c) ≤ 3)) : ∀ (s c : Nat), c < 15 → 0 ≤ yrI G s c ∧ yrI G s c ≤ 3
  | 0, c, hc => (w c hc).1
  | s + 1, c, hc => by
    show 0 ≤ (if G (45 + 3 * s) = 5 then obG (yrI G s) (G (45 + 3 * s + 1)) 1 15 else yrI G s) c ∧ (if G (45 + 3 * s) = 5 then obG (yrI G s) (G (45 + 3 * s + 1)) 1 15 else yrI G s) c ≤ 3
    split
    · unfold obG
      split
      · rw [yrI_hi s (by omega)]
        exact (w c hc).2
      · exact yrI_ra w s c hc
    · exact yrI_ra w s c hc
theorem low1 {p : Nat → Bool} {x : Int32} (e : x = mkm p 15) : x &&& (-x) = mkm (fun c => p c && decide (cnt p c < 1)) 15 := mkm_eq (by omega) (fun i hi => by
  have hb : ∀ j, j < 32 → bt x j = (decide (j < 15) && p j) := fun j hj => by rw [e, mkm_bt p 15 (by omega) j hj]
  rw [b_and]
  have hn : bt (-x) i = (bt x i ^^ decide (∃ j < i, bt x j = true)) := by
    unfold bt
    rw [Int32.toBitVec_neg, BitVec.getLsbD_neg, decide_eq_true hi, Bool.true_and]
  rw [hn, hb i hi]
  by_cases h15 : i < 15
  · rw [decide_eq_true h15]
    have e1 : decide (∃ j < i, bt x j = true) = !decide (cnt p i < 1) := by
      rw [Bool.eq_iff_iff, decide_eq_true_eq, Bool.not_eq_true', decide_eq_false_iff_not, cnt_0, Decidable.not_not]
      constructor
      · rintro ⟨j, hj, hx⟩
        rw [hb j (by omega), decide_eq_true (show j < 15 by omega)] at hx
        exact ⟨j, hj, hx⟩
      · rintro ⟨j, hj, hx⟩
        refine ⟨j, hj, ?_⟩
        rw [hb j (by omega), decide_eq_true (show j < 15 by omega)]
        exact hx
    rw [e1]
    cases p i <;> cases decide (cnt p i < 1) <;> rfl
  · rw [decide_eq_false h15]
    rfl)
theorem q_21_15 {h : zH} {Q : Option Value → zH → Prop} (a1 : Int32) (k : Nat) (D : Nat → Int) (m : Int) (e1 : a1.toInt = (k : Int)) (hk : (k : Int) < (h.1 15 6).toInt) (k4 : k < 4) (hD : ∀ d : Nat, d < 3 → h.1 16 d = mkm (fun c => decide (D c = (d : Int))) 15) (hm : (h.1 18 k).toInt = m) (m0 : 0 ≤ m) (m3 : m < 3) (H : Q (some (.int (mkm (fun c => decide (D c = m)) 15))) h) : zqm 21 [.ref 15, .int a1] h Q := by
  have ek : a1.toInt.toNat = k := by omega
  refine s_21_15 a1 ?_
  refine q_20_15 a1 ?_
  refine zri_int ?_
  refine ⟨fun c' => ?_, fun c => absurd (by omega) (zb2.mp c)⟩
  intro _ _
  rw [ek, hm]
  refine ⟨fun z => by exfalso; omega, fun z => ⟨fun y => by exfalso; omega, fun y _ _ => ?_⟩⟩
  rw [hD m.toNat (by omega), show ((m.toNat : Nat) : Int) = m by omega]
  exact H
theorem q_216 {h : zH} {Q : Option Value → zH → Prop} (a0 : Int32) (p : Nat → Bool) (e : a0 = mkm p 15) (H : Q (some (.int (mkm (fun c => p c && decide (cnt p c < 1)) 15))) h) : zqm 216 [.int a0] h Q := by
  refine s_216 a0 ?_
  rw [low1 e]
  exact H
/-- a year on a land, by the class; the county at 15 is that of G but for its land -/
theorem l_28 {Q : Option Value → zH → Prop} (x1 : Int32) (h : zH) (G : Nat → Int) (w1 : ∀ c : Nat, c < 15 → (0 ≤ G c ∧ G c ≤ 3) ∧ (0 ≤ G (15 + c) ∧ G (15 + c) ≤ 3)) (K4 : 0 ≤ G 57 ∧ G 57 ≤ 4) (c6 : (h.1 15 6).toInt = G 57) (cS : pl (h.1 15 4) (fun c => G (15 + c))) (cD : ∀ d : Nat, d < 3 → h.1 16 d = mkm (fun c => decide (gyD G c = (d : Int))) 15) (cM : ∀ s : Nat, (s : Int) < G 57 → (h.1 17 s).toInt = gyK G s ∧ (h.1 18 s).toInt = gyE G s ∧ 0 ≤ gyE G s ∧ gyE G s < 3) (H : ∀ v : Int32, pl v (yrI G (gyN G)) → Q (some (.int v)) h) : ∀ (n s : Nat) (x2 x3 : Int32) (o4 : Option Value), x3.toInt = (s : Int) → (s : Int) ≤ G 57 → pl x2 (yrI G s) → zQ n 28 4 [some (.ref 15), some (.int x1), some (.int x2), some (.int x3), o4] [] h Q
  | 0, _, _, _, _, _, _, _ => zQ_zero
  | n + 1, s, x2, x3, o4, e3, hs, hp => by
    refine s_28_4 x1 x2 x3 o4 ?_
    rw [c6]
    refine ⟨fun c => ?_, fun c => ⟨fun d => by exfalso; omega, fun d _ _ => ?_⟩⟩
    · have : gyN G = s := by unfold gyN; omega
      rw [← this] at hp
      exact H x2 hp
    · have es : x3.toInt.toNat = s := by omega
      have e3' := ai (x := x3) (k := 1) (by omega) (by omega) (by omega) (by omega)
      obtain ⟨m1, m2, m3, m4⟩ := cM s (by omega)
      rw [es, m1]
      refine ⟨fun z => ?_, fun z => ?_⟩
      · refine l_28 x1 h G w1 K4 c6 cS cD cM H n (s + 1) _ _ _ (by omega) (by omega) ?_
        rw [show yrI G (s + 1) = yrI G s from if_neg z]
        exact hp
      · have z : gyK G s = 5 := Decidable.not_not.mp z
        refine q_51 _ _ _ _ hp cS (fun c hc => yrI_ra w1 s c hc) (fun c hc => (w1 c hc).2) ?_
        refine zri_int ?_
        refine q_21_15 x3 s (gyD G) (gyE G s) e3 (by omega) (by omega) cD m2 m3 m4 ?_
        refine zri_int ?_
        have eM : mkm (fun c => !decide (yrI G s c = G (15 + c))) 15 &&& mkm (fun c => decide (gyD G c = gyE G s)) 15 = mkm (selc (yrI G s) (gyE G s)) 15 := mkm_eq (by omega) (fun i hi => by
          rw [b_and, mkm_bt _ _ (by omega) i hi, mkm_bt _ _ (by omega) i hi]
          unfold selc wr
          rw [yrI_hi s (show 15 ≤ 30 + i by omega), yrI_hi s (show 15 ≤ 15 + i by omega)]
          cases decide (i < 15) <;> cases decide (yrI G s i = G (15 + i)) <;> cases decide (G (30 + i) = gyE G s) <;> rfl)
        refine q_216 _ _ eM ?_
        refine zri_int ?_
        refine q_52 _ _ _ _ _ _ hp cS rfl (fun v8 p8 => ?_)
        refine zri_int ?_
        refine l_28 x1 h G w1 K4 c6 cS cD cM H n (s + 1) _ _ _ (by omega) (by omega) (pl_congr p8 (fun c hc => ?_))
        rw [show yrI G (s + 1) = obG (yrI G s) (G (45 + 3 * s + 1)) 1 15 from if_pos z]
        unfold obG
        rw [yrI_hi s (show 15 ≤ 15 + c by omega)]
        by_cases y : selc (yrI G s) (gyE G s) c = true ∧ cnt (selc (yrI G s) (gyE G s)) c < 1
        · rw [if_pos (by rw [Bool.and_eq_true, decide_eq_true_eq]; exact y), if_pos ⟨hc, y⟩]
        · rw [if_neg (fun u => y (by rw [Bool.and_eq_true, decide_eq_true_eq] at u; exact u)), if_neg (fun u => y u.2)]
theorem q_28 {h : zH} {Q : Option Value → zH → Prop} (a1 : Int32) (G : Nat → Int) (w1 : ∀ c : Nat, c < 15 → (0 ≤ G c ∧ G c ≤ 3) ∧ (0 ≤ G (15 + c) ∧ G (15 + c) ≤ 3)) (K4 : 0 ≤ G 57 ∧ G 57 ≤ 4) (c6 : (h.1 15 6).toInt = G 57) (cL : pl a1 G) (cS : pl (h.1 15 4) (fun c => G (15 + c))) (cD : ∀ d : Nat, d < 3 → h.1 16 d = mkm (fun c => decide (gyD G c = (d : Int))) 15) (cM : ∀ s : Nat, (s : Int) < G 57 → (h.1 17 s).toInt = gyK G s ∧ (h.1 18 s).toInt = gyE G s ∧ 0 ≤ gyE G s ∧ gyE G s < 3) (H : ∀ v : Int32, pl v (yrI G (gyN G)) → Q (some (.int v)) h) : zqm 28 [.ref 15, .int a1] h Q := by
  refine s_28 a1 (fun n => ?_)
  exact l_28 a1 h G w1 K4 c6 cS cD cM H n 0 _ _ _ kc_0 (by omega) cL
/-! the reference, on the cells of 64 -/
theorem l_156_64 {h : zH} {Q : Option Value → zH → Prop} (H : Q (some (.int (mkm (wr (arG h 64)) 15))) h) : ∀ (n c : Nat) (x2 x3 : Int32), x3.toInt = (c : Int) → c ≤ 15 → x2 = mkm (wr (arG h 64)) c → zQ n 156 4 [some (.ref 58), some (.ref 64), some (.int x2), some (.int x3)] [] h Q
  | 0, _, _, _, _, _, _ => zQ_zero
  | n + 1, c, x2, x3, e, hc, f => by
    refine s_156_58_64_4 x2 x3 ⟨fun d => ?_, fun d => ?_⟩
    · have c15 : c = 15 := by omega
      subst c15
      rw [f]
      exact H
    · have e' := ai (x := x3) (k := 1) (by omega) (by omega) (by omega) (by omega)
      rw [oI0 e (by omega), oI15 e (by omega), nat_c, n15]
      intro _ _ _ _
      refine ⟨fun z => ?_, fun z => ?_⟩
      · exact l_156_64 H n (c + 1) _ _ (by omega) (by omega) (mkm_0 f (by unfold wr; rw [decide_eq_true (show arG h 64 c = arG h 64 (15 + c) from z)]; rfl))
      · exact l_156_64 H n (c + 1) _ _ (by omega) (by omega) (mkm_1 f e (by omega) (by unfold wr; rw [decide_eq_false (show ¬ arG h 64 c = arG h 64 (15 + c) from z)]; rfl))
theorem q_156_64 {h : zH} {Q : Option Value → zH → Prop} (H : Q (some (.int (mkm (wr (arG h 64)) 15))) h) : zqm 156 [.ref 58, .ref 64] h Q := s_156_58_64 (fun n => l_156_64 H n 0 _ _ kc_0 (by omega) rfl)
theorem q_169_64 {h : zH} {Q : Option Value → zH → Prop} (a1 : Int32) (c : Nat) (e : a1.toInt = (c : Int)) (hc : c < 15) (w0 : 0 ≤ arG h 64 c) (w3 : arG h 64 c ≤ 3) (H : ∀ h', (∀ q, q ≠ 64 → h'.1 q = h.1 q) → (∀ k, arG h' 64 k = if k = c then (arG h 64 c + 1) % 4 else arG h 64 k) → Q none h') : zqm 169 [.ref 64, .int a1] h Q := by
  refine s_169_64 a1 ?_
  rw [oI0 e hc, nat_c]
  intro _ _ _ _
  have w0 : 0 ≤ (h.1 64 c).toInt := w0
  have w3 : (h.1 64 c).toInt ≤ 3 := w3
  have s1 : (h.1 64 c + Int32.ofInt 1).toInt = (((h.1 64 c).toInt.toNat + 1 : Nat) : Int) := by rw [wk_add rfl kc_1 (by omega) (by omega)]; omega
  have r := (rem4' s1 (by omega)).1
  refine H _ (fun q hq => fr1 hq) (fun k => ?_)
  show ((zSet h 64 c _).1 64 k).toInt = _
  by_cases z : k = c
  · rw [if_pos z, z, fr3, r]
    show _ = ((h.1 64 c).toInt + 1) % 4
    omega
  · rw [if_neg z, fr2 z]
    rfl
theorem q_167_64 {h : zH} {Q : Option Value → zH → Prop} (a2 a3 : Int32) (c : Nat) (e : a2.toInt = (c : Int)) (hc : c < 15) (s0 : 0 ≤ a3.toInt) (s3 : a3.toInt ≤ 3) (w58 : 0 ≤ arG h 64 58 ∧ arG h 64 58 ≤ 14) (w59 : 0 ≤ arG h 64 59 ∧ arG h 64 59 ≤ 3) (wS : ∀ d : Nat, d < 15 → 0 ≤ arG h 64 (15 + d) ∧ arG h 64 (15 + d) ≤ 3) (H : ∀ h', (∀ q, q ≠ 64 → h'.1 q = h.1 q) → (∀ k, arG h' 64 k = drw (arG h 64) c a3.toInt k) → Q none h') : zqm 167 [.ref 58, .ref 64, .int a2, .int a3] h Q := by
  refine s_167_58_64 a2 a3 ?_
  rw [oI15 e hc, n15, fr2 (show (58 : Nat) ≠ 15 + c by omega), fr2 (show (59 : Nat) ≠ 15 + c by omega)]
  intro _ _
  have w58 : 0 ≤ (h.1 64 58).toInt ∧ (h.1 64 58).toInt ≤ 14 := w58
  have w59 : 0 ≤ (h.1 64 59).toInt ∧ (h.1 64 59).toInt ≤ 3 := w59
  refine ⟨fun z => ?_, fun z => ?_⟩
  · refine H _ (fun q hq => fr1 hq) (fun k => ?_)
    unfold drw
    rw [if_pos (show arG h 64 58 = 0 from z)]
    show ((zSet h 64 (15 + c) a3).1 64 k).toInt = _
    by_cases y : k = 15 + c
    · rw [if_pos y, y, fr3]
    · rw [if_neg y, fr2 y]
      rfl
  · have s1 : (a2 + h.1 64 58).toInt = ((c + (h.1 64 58).toInt.toNat : Nat) : Int) := by rw [wk_add e rfl (by omega) (by omega)]; omega
    have r1 := rem15' s1 (by omega)
    generalize (a2 + h.1 64 58) - (a2 + h.1 64 58) / Int32.ofInt 15 * Int32.ofInt 15 = w at r1 ⊢
    generalize ho : (c + (h.1 64 58).toInt.toNat) % 15 = oo at r1
    have o15 : oo < 15 := by omega
    rw [oI15 r1 o15, n15]
    intro _ _ _ _
    have wo := wS oo o15
    have gv : ((zSet h 64 (15 + c) a3).1 64 (15 + oo)).toInt = if oo = c then a3.toInt else arG h 64 (15 + oo) := by
      by_cases y : oo = c
      · rw [if_pos y, y, fr3]
      · rw [if_neg y, fr2 (by omega)]
        rfl
    have gr : 0 ≤ ((zSet h 64 (15 + c) a3).1 64 (15 + oo)).toInt ∧ ((zSet h 64 (15 + c) a3).1 64 (15 + oo)).toInt ≤ 3 := by
      rw [gv]
      split <;> omega
    have s2 : ((zSet h 64 (15 + c) a3).1 64 (15 + oo) + h.1 64 59).toInt = ((((zSet h 64 (15 + c) a3).1 64 (15 + oo)).toInt.toNat + (h.1 64 59).toInt.toNat : Nat) : Int) := by rw [wk_add rfl rfl (by omega) (by omega)]; omega
    have r2 := (rem4' s2 (by omega)).1
    refine H _ (fun q hq => by rw [fr1 hq, fr1 hq]) (fun k => ?_)
    unfold drw
    rw [if_neg (show ¬ arG h 64 58 = 0 from z), show (c + (arG h 64 58).toNat) % 15 = oo from ho]
    show ((zSet (zSet h 64 (15 + c) a3) 64 (15 + oo) _).1 64 k).toInt = _
    by_cases y : k = 15 + oo
    · rw [if_pos y, y, fr3, r2, ← gv]
      show _ = (((zSet h 64 (15 + c) a3).1 64 (15 + oo)).toInt + (h.1 64 59).toInt) % 4
      omega
    · rw [if_neg y, fr2 y]
      by_cases u : k = 15 + c
      · rw [if_pos u, u, fr3]
      · rw [if_neg u, fr2 u]
        rfl
theorem l_171_64 {Q : Option Value → zH → Prop} (g : zH) (x1 x2 : Int32) (m : Int) (M : Nat) (e1 : x1.toInt = m) (e2 : x2.toInt = (M : Int)) (H : ∀ (v : Int32) (h' : zH), (∀ q, q ≠ 64 → h'.1 q = g.1 q) → (∀ k, arG h' 64 k = obG (arG g 64) m M 15 k) → v.toInt = ((min (cnt (selc (arG g 64) m) 15) M : Nat) : Int) → Q (some (.int v)) h') : ∀ (n c : Nat) (x3 x4 : Int32) (h : zH), x4.toInt = (c : Int) → c ≤ 15 → (∀ q, q ≠ 64 → h.1 q = g.1 q) → (∀ k, arG h 64 k = obG (arG g 64) m M c k) → x3.toInt = ((min (cnt (selc (arG g 64) m) c) M : Nat) : Int) → zQ n 171 5 [some (.ref 64), some (.int x1), some (.int x2), some (.int x3), some (.int x4)] [] h Q
  | 0, _, _, _, _, _, _, _, _, _ => zQ_zero
  | n + 1, c, x3, x4, h, e4, hc, f1, f2, f3 => by
    have cl := cnt_le (selc (arG g 64) m) c
    refine s_171_64_5 x1 x2 x3 x4 ⟨fun d => ?_, fun d => ⟨fun z => ?_, fun z => ?_⟩⟩
    · have c15 : c = 15 := by omega
      subst c15
      exact H x3 h f1 f2 f3
    · have hM : M ≤ cnt (selc (arG g 64) m) c := by omega
      have mo : ∀ k : Nat, c ≤ k → M ≤ cnt (selc (arG g 64) m) k := fun k hk => Nat.le_trans hM (cnt_mono _ hk)
      refine H x3 h f1 (fun k => ?_) ?_
      · rw [f2 k]
        unfold obG
        by_cases y : k < c
        · by_cases u : selc (arG g 64) m k = true ∧ cnt (selc (arG g 64) m) k < M
          · rw [if_pos ⟨y, u⟩, if_pos ⟨by omega, u⟩]
          · rw [if_neg (fun v => u v.2), if_neg (fun v => u v.2)]
        · rw [if_neg (fun v => y v.1), if_neg (fun v => by have := mo k (by omega); omega)]
      · have := mo 15 (by omega)
        rw [f3]
        omega
    · have hM : cnt (selc (arG g 64) m) c < M := by omega
      have e4' := ai (x := x4) (k := 1) (by omega) (by omega) (by omega) (by omega)
      rw [oI30 e4 (by omega), n30, oI0 e4 (by omega), nat_c, oI15 e4 (by omega), n15]
      intro _ _
      have gD : (h.1 64 (30 + c)).toInt = arG g 64 (30 + c) := by
        have := f2 (30 + c)
        unfold obG at this
        rw [if_neg (by omega)] at this
        exact this
      have gL : (h.1 64 c).toInt = arG g 64 c := by
        have := f2 c
        unfold obG at this
        rw [if_neg (by omega)] at this
        exact this
      have gS : (h.1 64 (15 + c)).toInt = arG g 64 (15 + c) := by
        have := f2 (15 + c)
        unfold obG at this
        rw [if_neg (by omega)] at this
        exact this
      rw [gD, gL, gS, e1]
      -- a cell that isn't taken
      have no : selc (arG g 64) m c = false → zQ n 171 5 [some (.ref 64), some (.int x1), some (.int x2), some (.int x3), some (.int (x4 + Int32.ofInt 1))] [] h Q := fun hs => by
        refine l_171_64 g x1 x2 m M e1 e2 H n (c + 1) _ _ h (by omega) (by omega) f1 (fun k => ?_) ?_
        · rw [f2 k]
          unfold obG
          by_cases y : k = c
          · subst y
            rw [if_neg (by omega), if_neg (fun v => by rw [hs] at v; cases v.2.1)]
          · by_cases u : k < c ∧ selc (arG g 64) m k = true ∧ cnt (selc (arG g 64) m) k < M
            · rw [if_pos u, if_pos ⟨by omega, u.2⟩]
            · rw [if_neg u, if_neg (fun v => u ⟨by omega, v.2⟩)]
        · rw [f3]
          show _ = ((min (cnt (selc (arG g 64) m) c + (if selc (arG g 64) m c then 1 else 0)) M : Nat) : Int)
          rw [hs]
          simp
      refine ⟨fun y => ?_, fun y => ?_⟩
      · exact no (by unfold selc; rw [decide_eq_false y]; rfl)
      · have y := Decidable.not_not.mp y
        intro _ _ _ _
        refine ⟨fun u => ?_, fun u => ?_⟩
        · exact no (by unfold selc wr; rw [decide_eq_true u, Bool.not_true, Bool.and_false])
        · intro _ _ _ _
          have hs : selc (arG g 64) m c = true := by unfold selc wr; rw [decide_eq_true y, decide_eq_false u]; rfl
          have e3' := ai (x := x3) (k := 1) (by omega) (by omega) (by omega) (by omega)
          refine l_171_64 g x1 x2 m M e1 e2 H n (c + 1) _ _ _ (by omega) (by omega) (fun q hq => by rw [fr1 hq, f1 q hq]) (fun k => ?_) ?_
          · show ((zSet h 64 c (h.1 64 (15 + c))).1 64 k).toInt = _
            by_cases v : k = c
            · subst v
              rw [fr3, gS]
              unfold obG
              rw [if_pos ⟨by omega, hs, hM⟩]
            · rw [fr2 v]
              have := f2 k
              show arG h 64 k = _
              rw [this]
              unfold obG
              by_cases t : k < c ∧ selc (arG g 64) m k = true ∧ cnt (selc (arG g 64) m) k < M
              · rw [if_pos t, if_pos ⟨by omega, t.2⟩]
              · rw [if_neg t, if_neg (fun w => t ⟨by omega, w.2⟩)]
          · rw [e3', f3]
            show _ = ((min (cnt (selc (arG g 64) m) c + (if selc (arG g 64) m c then 1 else 0)) M : Nat) : Int)
            rw [if_pos hs]
            omega
theorem q_171_64 {h : zH} {Q : Option Value → zH → Prop} (a1 a2 : Int32) (m : Int) (M : Nat) (e1 : a1.toInt = m) (e2 : a2.toInt = (M : Int)) (H : ∀ (v : Int32) (h' : zH), (∀ q, q ≠ 64 → h'.1 q = h.1 q) → (∀ k, arG h' 64 k = obG (arG h 64) m M 15 k) → v.toInt = ((min (cnt (selc (arG h 64) m) 15) M : Nat) : Int) → Q (some (.int v)) h') : zqm 171 [.ref 64, .int a1, .int a2] h Q := s_171_64 a1 a2 (fun n => l_171_64 h a1 a2 m M e1 e2 H n 0 _ _ h kc_0 (by omega) (fun _ _ => rfl) (fun k => by unfold obG; rw [if_neg (by omega)]) (by rw [kc_0]; show (0 : Int) = ((min 0 M : Nat) : Int); rw [Nat.zero_min]; rfl))
theorem l_173_64 {Q : Option Value → zH → Prop} (g : zH) (K4 : 0 ≤ arG g 64 57 ∧ arG g 64 57 ≤ 4) (H : ∀ (h' : zH), (∀ q, q ≠ 64 → h'.1 q = g.1 q) → (∀ k, arG h' 64 k = yrI (arG g 64) (gyN (arG g 64)) k) → Q none (zSet h' 64 60 (h'.1 64 60 + Int32.ofInt 1))) : ∀ (n s : Nat) (x1 : Int32) (h : zH), x1.toInt = (s : Int) → (s : Int) ≤ arG g 64 57 → (∀ q, q ≠ 64 → h.1 q = g.1 q) → (∀ k, arG h 64 k = yrI (arG g 64) s k) → zQ n 173 2 [some (.ref 64), some (.int x1)] [] h Q
  | 0, _, _, _, _, _, _, _ => zQ_zero
  | n + 1, s, x1, h, e1, hs, f1, f2 => by
    have g57 : (h.1 64 57).toInt = arG g 64 57 := by
      have := f2 57
      rw [yrI_hi s (by omega)] at this
      exact this
    refine s_173_64_2 x1 ?_
    rw [g57]
    refine ⟨fun c => ?_, fun c => ?_⟩
    · have : gyN (arG g 64) = s := by unfold gyN; omega
      rw [← this] at f2
      exact H h f1 f2
    · have e1' := ai (x := x1) (k := 1) (by omega) (by omega) (by omega) (by omega)
      rw [o45 e1 (by omega), n45, wk_add (o45 e1 (by omega)) kc_1 (by omega) (by omega), show (((45 + 3 * s : Nat) : Int) + 1).toNat = 45 + 3 * s + 1 by omega]
      intro _ _
      have gK : (h.1 64 (45 + 3 * s)).toInt = arG g 64 (45 + 3 * s) := by
        have := f2 (45 + 3 * s)
        rw [yrI_hi s (by omega)] at this
        exact this
      have gE : (h.1 64 (45 + 3 * s + 1)).toInt = arG g 64 (45 + 3 * s + 1) := by
        have := f2 (45 + 3 * s + 1)
        rw [yrI_hi s (by omega)] at this
        exact this
      rw [gK]
      refine ⟨fun z => ?_, fun z => ?_⟩
      · refine l_173_64 g K4 H n (s + 1) _ h (by omega) (by omega) f1 (fun k => ?_)
        rw [f2 k, show yrI (arG g 64) (s + 1) = yrI (arG g 64) s from if_neg z]
      · have z := Decidable.not_not.mp z
        intro _ _
        refine q_171_64 _ _ _ 1 gE kc_1 (fun v h' w1 w2 _ => ?_)
        refine zri_int ?_
        refine l_173_64 g K4 H n (s + 1) _ h' (by omega) (by omega) (fun q hq => by rw [w1 q hq, f1 q hq]) (fun k => ?_)
        rw [w2 k, show yrI (arG g 64) (s + 1) = obG (yrI (arG g 64) s) (arG g 64 (45 + 3 * s + 1)) 1 15 from if_pos z, show arG h 64 = yrI (arG g 64) s from funext f2]
theorem q_173_64 {h : zH} {Q : Option Value → zH → Prop} (K4 : 0 ≤ arG h 64 57 ∧ arG h 64 57 ≤ 4) (y0 : 0 ≤ arG h 64 60) (y1 : arG h 64 60 ≤ 100000) (H : ∀ (h' : zH), (∀ q, q ≠ 64 → h'.1 q = h.1 q) → (∀ k, arG h' 64 k = if k = 60 then arG h 64 60 + 1 else yrI (arG h 64) (gyN (arG h 64)) k) → Q none h') : zqm 173 [.ref 64] h Q := by
  refine s_173_64 (fun n => l_173_64 h K4 (fun h1 w1 w2 => ?_) n 0 _ h kc_0 (by omega) (fun _ _ => rfl) (fun _ => rfl))
  have e60 : (h1.1 64 60).toInt = arG h 64 60 := by
    have := w2 60
    rw [yrI_hi _ (by omega)] at this
    exact this
  refine H _ (fun q hq => by rw [fr1 hq, w1 q hq]) (fun k => ?_)
  show ((zSet h1 64 60 (h1.1 64 60 + Int32.ofInt 1)).1 64 k).toInt = _
  by_cases z : k = 60
  · rw [if_pos z, z, fr3, ai (by omega) (by omega) (by omega) (by omega), e60]
  · rw [if_neg z, fr2 z]
    exact w2 k
/-! the reference, on the cells of 67 -/
theorem l_156_67 {h : zH} {Q : Option Value → zH → Prop} (H : Q (some (.int (mkm (wr (arG h 67)) 15))) h) : ∀ (n c : Nat) (x2 x3 : Int32), x3.toInt = (c : Int) → c ≤ 15 → x2 = mkm (wr (arG h 67)) c → zQ n 156 4 [some (.ref 58), some (.ref 67), some (.int x2), some (.int x3)] [] h Q
  | 0, _, _, _, _, _, _ => zQ_zero
  | n + 1, c, x2, x3, e, hc, f => by
    refine s_156_58_67_4 x2 x3 ⟨fun d => ?_, fun d => ?_⟩
    · have c15 : c = 15 := by omega
      subst c15
      rw [f]
      exact H
    · have e' := ai (x := x3) (k := 1) (by omega) (by omega) (by omega) (by omega)
      rw [oI0 e (by omega), oI15 e (by omega), nat_c, n15]
      intro _ _ _ _
      refine ⟨fun z => ?_, fun z => ?_⟩
      · exact l_156_67 H n (c + 1) _ _ (by omega) (by omega) (mkm_0 f (by unfold wr; rw [decide_eq_true (show arG h 67 c = arG h 67 (15 + c) from z)]; rfl))
      · exact l_156_67 H n (c + 1) _ _ (by omega) (by omega) (mkm_1 f e (by omega) (by unfold wr; rw [decide_eq_false (show ¬ arG h 67 c = arG h 67 (15 + c) from z)]; rfl))
theorem q_156_67 {h : zH} {Q : Option Value → zH → Prop} (H : Q (some (.int (mkm (wr (arG h 67)) 15))) h) : zqm 156 [.ref 58, .ref 67] h Q := s_156_58_67 (fun n => l_156_67 H n 0 _ _ kc_0 (by omega) rfl)
theorem q_169_67 {h : zH} {Q : Option Value → zH → Prop} (a1 : Int32) (c : Nat) (e : a1.toInt = (c : Int)) (hc : c < 15) (w0 : 0 ≤ arG h 67 c) (w3 : arG h 67 c ≤ 3) (H : ∀ h', (∀ q, q ≠ 67 → h'.1 q = h.1 q) → (∀ k, arG h' 67 k = if k = c then (arG h 67 c + 1) % 4 else arG h 67 k) → Q none h') : zqm 169 [.ref 67, .int a1] h Q := by
  refine s_169_67 a1 ?_
  rw [oI0 e hc, nat_c]
  intro _ _ _ _
  have w0 : 0 ≤ (h.1 67 c).toInt := w0
  have w3 : (h.1 67 c).toInt ≤ 3 := w3
  have s1 : (h.1 67 c + Int32.ofInt 1).toInt = (((h.1 67 c).toInt.toNat + 1 : Nat) : Int) := by rw [wk_add rfl kc_1 (by omega) (by omega)]; omega
  have r := (rem4' s1 (by omega)).1
  refine H _ (fun q hq => fr1 hq) (fun k => ?_)
  show ((zSet h 67 c _).1 67 k).toInt = _
  by_cases z : k = c
  · rw [if_pos z, z, fr3, r]
    show _ = ((h.1 67 c).toInt + 1) % 4
    omega
  · rw [if_neg z, fr2 z]
    rfl
theorem q_167_67 {h : zH} {Q : Option Value → zH → Prop} (a2 a3 : Int32) (c : Nat) (e : a2.toInt = (c : Int)) (hc : c < 15) (s0 : 0 ≤ a3.toInt) (s3 : a3.toInt ≤ 3) (w58 : 0 ≤ arG h 67 58 ∧ arG h 67 58 ≤ 14) (w59 : 0 ≤ arG h 67 59 ∧ arG h 67 59 ≤ 3) (wS : ∀ d : Nat, d < 15 → 0 ≤ arG h 67 (15 + d) ∧ arG h 67 (15 + d) ≤ 3) (H : ∀ h', (∀ q, q ≠ 67 → h'.1 q = h.1 q) → (∀ k, arG h' 67 k = drw (arG h 67) c a3.toInt k) → Q none h') : zqm 167 [.ref 58, .ref 67, .int a2, .int a3] h Q := by
  refine s_167_58_67 a2 a3 ?_
  rw [oI15 e hc, n15, fr2 (show (58 : Nat) ≠ 15 + c by omega), fr2 (show (59 : Nat) ≠ 15 + c by omega)]
  intro _ _
  have w58 : 0 ≤ (h.1 67 58).toInt ∧ (h.1 67 58).toInt ≤ 14 := w58
  have w59 : 0 ≤ (h.1 67 59).toInt ∧ (h.1 67 59).toInt ≤ 3 := w59
  refine ⟨fun z => ?_, fun z => ?_⟩
  · refine H _ (fun q hq => fr1 hq) (fun k => ?_)
    unfold drw
    rw [if_pos (show arG h 67 58 = 0 from z)]
    show ((zSet h 67 (15 + c) a3).1 67 k).toInt = _
    by_cases y : k = 15 + c
    · rw [if_pos y, y, fr3]
    · rw [if_neg y, fr2 y]
      rfl
  · have s1 : (a2 + h.1 67 58).toInt = ((c + (h.1 67 58).toInt.toNat : Nat) : Int) := by rw [wk_add e rfl (by omega) (by omega)]; omega
    have r1 := rem15' s1 (by omega)
    generalize (a2 + h.1 67 58) - (a2 + h.1 67 58) / Int32.ofInt 15 * Int32.ofInt 15 = w at r1 ⊢
    generalize ho : (c + (h.1 67 58).toInt.toNat) % 15 = oo at r1
    have o15 : oo < 15 := by omega
    rw [oI15 r1 o15, n15]
    intro _ _ _ _
    have wo := wS oo o15
    have gv : ((zSet h 67 (15 + c) a3).1 67 (15 + oo)).toInt = if oo = c then a3.toInt else arG h 67 (15 + oo) := by
      by_cases y : oo = c
      · rw [if_pos y, y, fr3]
      · rw [if_neg y, fr2 (by omega)]
        rfl
    have gr : 0 ≤ ((zSet h 67 (15 + c) a3).1 67 (15 + oo)).toInt ∧ ((zSet h 67 (15 + c) a3).1 67 (15 + oo)).toInt ≤ 3 := by
      rw [gv]
      split <;> omega
    have s2 : ((zSet h 67 (15 + c) a3).1 67 (15 + oo) + h.1 67 59).toInt = ((((zSet h 67 (15 + c) a3).1 67 (15 + oo)).toInt.toNat + (h.1 67 59).toInt.toNat : Nat) : Int) := by rw [wk_add rfl rfl (by omega) (by omega)]; omega
    have r2 := (rem4' s2 (by omega)).1
    refine H _ (fun q hq => by rw [fr1 hq, fr1 hq]) (fun k => ?_)
    unfold drw
    rw [if_neg (show ¬ arG h 67 58 = 0 from z), show (c + (arG h 67 58).toNat) % 15 = oo from ho]
    show ((zSet (zSet h 67 (15 + c) a3) 67 (15 + oo) _).1 67 k).toInt = _
    by_cases y : k = 15 + oo
    · rw [if_pos y, y, fr3, r2, ← gv]
      show _ = (((zSet h 67 (15 + c) a3).1 67 (15 + oo)).toInt + (h.1 67 59).toInt) % 4
      omega
    · rw [if_neg y, fr2 y]
      by_cases u : k = 15 + c
      · rw [if_pos u, u, fr3]
      · rw [if_neg u, fr2 u]
        rfl
theorem l_171_67 {Q : Option Value → zH → Prop} (g : zH) (x1 x2 : Int32) (m : Int) (M : Nat) (e1 : x1.toInt = m) (e2 : x2.toInt = (M : Int)) (H : ∀ (v : Int32) (h' : zH), (∀ q, q ≠ 67 → h'.1 q = g.1 q) → (∀ k, arG h' 67 k = obG (arG g 67) m M 15 k) → v.toInt = ((min (cnt (selc (arG g 67) m) 15) M : Nat) : Int) → Q (some (.int v)) h') : ∀ (n c : Nat) (x3 x4 : Int32) (h : zH), x4.toInt = (c : Int) → c ≤ 15 → (∀ q, q ≠ 67 → h.1 q = g.1 q) → (∀ k, arG h 67 k = obG (arG g 67) m M c k) → x3.toInt = ((min (cnt (selc (arG g 67) m) c) M : Nat) : Int) → zQ n 171 5 [some (.ref 67), some (.int x1), some (.int x2), some (.int x3), some (.int x4)] [] h Q
  | 0, _, _, _, _, _, _, _, _, _ => zQ_zero
  | n + 1, c, x3, x4, h, e4, hc, f1, f2, f3 => by
    have cl := cnt_le (selc (arG g 67) m) c
    refine s_171_67_5 x1 x2 x3 x4 ⟨fun d => ?_, fun d => ⟨fun z => ?_, fun z => ?_⟩⟩
    · have c15 : c = 15 := by omega
      subst c15
      exact H x3 h f1 f2 f3
    · have hM : M ≤ cnt (selc (arG g 67) m) c := by omega
      have mo : ∀ k : Nat, c ≤ k → M ≤ cnt (selc (arG g 67) m) k := fun k hk => Nat.le_trans hM (cnt_mono _ hk)
      refine H x3 h f1 (fun k => ?_) ?_
      · rw [f2 k]
        unfold obG
        by_cases y : k < c
        · by_cases u : selc (arG g 67) m k = true ∧ cnt (selc (arG g 67) m) k < M
          · rw [if_pos ⟨y, u⟩, if_pos ⟨by omega, u⟩]
          · rw [if_neg (fun v => u v.2), if_neg (fun v => u v.2)]
        · rw [if_neg (fun v => y v.1), if_neg (fun v => by have := mo k (by omega); omega)]
      · have := mo 15 (by omega)
        rw [f3]
        omega
    · have hM : cnt (selc (arG g 67) m) c < M := by omega
      have e4' := ai (x := x4) (k := 1) (by omega) (by omega) (by omega) (by omega)
      rw [oI30 e4 (by omega), n30, oI0 e4 (by omega), nat_c, oI15 e4 (by omega), n15]
      intro _ _
      have gD : (h.1 67 (30 + c)).toInt = arG g 67 (30 + c) := by
        have := f2 (30 + c)
        unfold obG at this
        rw [if_neg (by omega)] at this
        exact this
      have gL : (h.1 67 c).toInt = arG g 67 c := by
        have := f2 c
        unfold obG at this
        rw [if_neg (by omega)] at this
        exact this
      have gS : (h.1 67 (15 + c)).toInt = arG g 67 (15 + c) := by
        have := f2 (15 + c)
        unfold obG at this
        rw [if_neg (by omega)] at this
        exact this
      rw [gD, gL, gS, e1]
      -- a cell that isn't taken
      have no : selc (arG g 67) m c = false → zQ n 171 5 [some (.ref 67), some (.int x1), some (.int x2), some (.int x3), some (.int (x4 + Int32.ofInt 1))] [] h Q := fun hs => by
        refine l_171_67 g x1 x2 m M e1 e2 H n (c + 1) _ _ h (by omega) (by omega) f1 (fun k => ?_) ?_
        · rw [f2 k]
          unfold obG
          by_cases y : k = c
          · subst y
            rw [if_neg (by omega), if_neg (fun v => by rw [hs] at v; cases v.2.1)]
          · by_cases u : k < c ∧ selc (arG g 67) m k = true ∧ cnt (selc (arG g 67) m) k < M
            · rw [if_pos u, if_pos ⟨by omega, u.2⟩]
            · rw [if_neg u, if_neg (fun v => u ⟨by omega, v.2⟩)]
        · rw [f3]
          show _ = ((min (cnt (selc (arG g 67) m) c + (if selc (arG g 67) m c then 1 else 0)) M : Nat) : Int)
          rw [hs]
          simp
      refine ⟨fun y => ?_, fun y => ?_⟩
      · exact no (by unfold selc; rw [decide_eq_false y]; rfl)
      · have y := Decidable.not_not.mp y
        intro _ _ _ _
        refine ⟨fun u => ?_, fun u => ?_⟩
        · exact no (by unfold selc wr; rw [decide_eq_true u, Bool.not_true, Bool.and_false])
        · intro _ _ _ _
          have hs : selc (arG g 67) m c = true := by unfold selc wr; rw [decide_eq_true y, decide_eq_false u]; rfl
          have e3' := ai (x := x3) (k := 1) (by omega) (by omega) (by omega) (by omega)
          refine l_171_67 g x1 x2 m M e1 e2 H n (c + 1) _ _ _ (by omega) (by omega) (fun q hq => by rw [fr1 hq, f1 q hq]) (fun k => ?_) ?_
          · show ((zSet h 67 c (h.1 67 (15 + c))).1 67 k).toInt = _
            by_cases v : k = c
            · subst v
              rw [fr3, gS]
              unfold obG
              rw [if_pos ⟨by omega, hs, hM⟩]
            · rw [fr2 v]
              have := f2 k
              show arG h 67 k = _
              rw [this]
              unfold obG
              by_cases t : k < c ∧ selc (arG g 67) m k = true ∧ cnt (selc (arG g 67) m) k < M
              · rw [if_pos t, if_pos ⟨by omega, t.2⟩]
              · rw [if_neg t, if_neg (fun w => t ⟨by omega, w.2⟩)]
          · rw [e3', f3]
            show _ = ((min (cnt (selc (arG g 67) m) c + (if selc (arG g 67) m c then 1 else 0)) M : Nat) : Int)
            rw [if_pos hs]
            omega
theorem q_171_67 {h : zH} {Q : Option Value → zH → Prop} (a1 a2 : Int32) (m : Int) (M : Nat) (e1 : a1.toInt = m) (e2 : a2.toInt = (M : Int)) (H : ∀ (v : Int32) (h' : zH), (∀ q, q ≠ 67 → h'.1 q = h.1 q) → (∀ k, arG h' 67 k = obG (arG h 67) m M 15 k) → v.toInt = ((min (cnt (selc (arG h 67) m) 15) M : Nat) : Int) → Q (some (.int v)) h') : zqm 171 [.ref 67, .int a1, .int a2] h Q := s_171_67 a1 a2 (fun n => l_171_67 h a1 a2 m M e1 e2 H n 0 _ _ h kc_0 (by omega) (fun _ _ => rfl) (fun k => by unfold obG; rw [if_neg (by omega)]) (by rw [kc_0]; show (0 : Int) = ((min 0 M : Nat) : Int); rw [Nat.zero_min]; rfl))
theorem l_173_67 {Q : Option Value → zH → Prop} (g : zH) (K4 : 0 ≤ arG g 67 57 ∧ arG g 67 57 ≤ 4) (H : ∀ (h' : zH), (∀ q, q ≠ 67 → h'.1 q = g.1 q) → (∀ k, arG h' 67 k = yrI (arG g 67) (gyN (arG g 67)) k) → Q none (zSet h' 67 60 (h'.1 67 60 + Int32.ofInt 1))) : ∀ (n s : Nat) (x1 : Int32) (h : zH), x1.toInt = (s : Int) → (s : Int) ≤ arG g 67 57 → (∀ q, q ≠ 67 → h.1 q = g.1 q) → (∀ k, arG h 67 k = yrI (arG g 67) s k) → zQ n 173 2 [some (.ref 67), some (.int x1)] [] h Q
  | 0, _, _, _, _, _, _, _ => zQ_zero
  | n + 1, s, x1, h, e1, hs, f1, f2 => by
    have g57 : (h.1 67 57).toInt = arG g 67 57 := by
      have := f2 57
      rw [yrI_hi s (by omega)] at this
      exact this
    refine s_173_67_2 x1 ?_
    rw [g57]
    refine ⟨fun c => ?_, fun c => ?_⟩
    · have : gyN (arG g 67) = s := by unfold gyN; omega
      rw [← this] at f2
      exact H h f1 f2
    · have e1' := ai (x := x1) (k := 1) (by omega) (by omega) (by omega) (by omega)
      rw [o45 e1 (by omega), n45, wk_add (o45 e1 (by omega)) kc_1 (by omega) (by omega), show (((45 + 3 * s : Nat) : Int) + 1).toNat = 45 + 3 * s + 1 by omega]
      intro _ _
      have gK : (h.1 67 (45 + 3 * s)).toInt = arG g 67 (45 + 3 * s) := by
        have := f2 (45 + 3 * s)
        rw [yrI_hi s (by omega)] at this
        exact this
      have gE : (h.1 67 (45 + 3 * s + 1)).toInt = arG g 67 (45 + 3 * s + 1) := by
        have := f2 (45 + 3 * s + 1)
        rw [yrI_hi s (by omega)] at this
        exact this
      rw [gK]
      refine ⟨fun z => ?_, fun z => ?_⟩
      · refine l_173_67 g K4 H n (s + 1) _ h (by omega) (by omega) f1 (fun k => ?_)
        rw [f2 k, show yrI (arG g 67) (s + 1) = yrI (arG g 67) s from if_neg z]
      · have z := Decidable.not_not.mp z
        intro _ _
        refine q_171_67 _ _ _ 1 gE kc_1 (fun v h' w1 w2 _ => ?_)
        refine zri_int ?_
        refine l_173_67 g K4 H n (s + 1) _ h' (by omega) (by omega) (fun q hq => by rw [w1 q hq, f1 q hq]) (fun k => ?_)
        rw [w2 k, show yrI (arG g 67) (s + 1) = obG (yrI (arG g 67) s) (arG g 67 (45 + 3 * s + 1)) 1 15 from if_pos z, show arG h 67 = yrI (arG g 67) s from funext f2]
theorem q_173_67 {h : zH} {Q : Option Value → zH → Prop} (K4 : 0 ≤ arG h 67 57 ∧ arG h 67 57 ≤ 4) (y0 : 0 ≤ arG h 67 60) (y1 : arG h 67 60 ≤ 100000) (H : ∀ (h' : zH), (∀ q, q ≠ 67 → h'.1 q = h.1 q) → (∀ k, arG h' 67 k = if k = 60 then arG h 67 60 + 1 else yrI (arG h 67) (gyN (arG h 67)) k) → Q none h') : zqm 173 [.ref 67] h Q := by
  refine s_173_67 (fun n => l_173_67 h K4 (fun h1 w1 w2 => ?_) n 0 _ h kc_0 (by omega) (fun _ _ => rfl) (fun _ => rfl))
  have e60 : (h1.1 67 60).toInt = arG h 67 60 := by
    have := w2 60
    rw [yrI_hi _ (by omega)] at this
    exact this
  refine H _ (fun q hq => by rw [fr1 hq, w1 q hq]) (fun k => ?_)
  show ((zSet h1 67 60 (h1.1 67 60 + Int32.ofInt 1)).1 67 k).toInt = _
  by_cases z : k = 60
  · rw [if_pos z, z, fr3, ai (by omega) (by omega) (by omega) (by omega), e60]
  · rw [if_neg z, fr2 z]
    exact w2 k

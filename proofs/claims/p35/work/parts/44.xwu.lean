/-! the fewest strokes: the reference -/
theorem l_179_68 {g : zH} {Q : Option Value → zH → Prop} (H : ∀ h' : zH, (∀ q, q ≠ 67 → h'.1 q = g.1 q) → (∀ k : Nat, k < 62 → h'.1 67 k = g.1 68 k) → (∀ j : Nat, 62 ≤ j → h'.1 67 j = g.1 67 j) → Q none h') : ∀ (n k : Nat) (x3 : Int32) (h : zH), x3.toInt = (k : Int) → k ≤ 62 → (∀ q, q ≠ 67 → h.1 q = g.1 q) → (∀ j : Nat, j < k → h.1 67 j = g.1 68 j) → (∀ j : Nat, 62 ≤ j → h.1 67 j = g.1 67 j) → zQ n 179 2 [some (.ref 58), some (.ref 68), some (.ref 67), some (.int x3)] [] h Q
  | 0, _, _, _, _, _, _, _, _ => zQ_zero
  | n + 1, k, x3, h, e3, hk, f1, f2, f3 => by
    refine s_179_58_68_67_2 x3 ⟨fun d => ?_, fun d _ _ _ _ => ?_⟩
    · have : k = 62 := by omega
      subst this
      exact H h f1 f2 f3
    · have e3' := ai (x := x3) (k := 1) (by omega) (by omega) (by omega) (by omega)
      rw [show x3.toInt.toNat = k by omega]
      refine l_179_68 H n (k + 1) _ _ (by omega) (by omega) (fun q hq => ?_) (fun j hj => ?_) (fun j hj => by rw [wk_ne (Or.inr (by omega))]; exact f3 j hj)
      · rw [zs_q hq]
        exact f1 q hq
      · by_cases z : j = k
        · subst z
          rw [wk_at, f1 68 (by decide)]
        · rw [wk_ne (Or.inr z)]
          exact f2 j (by omega)
theorem q_179_68 {h : zH} {Q : Option Value → zH → Prop} (H : ∀ h' : zH, (∀ q, q ≠ 67 → h'.1 q = h.1 q) → (∀ k : Nat, k < 62 → h'.1 67 k = h.1 68 k) → (∀ j : Nat, 62 ≤ j → h'.1 67 j = h.1 67 j) → Q none h') : zqm 179 [.ref 58, .ref 68, .ref 67] h Q := s_179_58_68_67 (fun n => l_179_68 H n 0 _ h kc_0 (by omega) (fun _ _ => rfl) (fun j hj => by omega) (fun _ _ => rfl))
theorem l_179_67 {g : zH} {Q : Option Value → zH → Prop} (H : ∀ h' : zH, (∀ q, q ≠ 68 → h'.1 q = g.1 q) → (∀ k : Nat, k < 62 → h'.1 68 k = g.1 67 k) → (∀ j : Nat, 62 ≤ j → h'.1 68 j = g.1 68 j) → Q none h') : ∀ (n k : Nat) (x3 : Int32) (h : zH), x3.toInt = (k : Int) → k ≤ 62 → (∀ q, q ≠ 68 → h.1 q = g.1 q) → (∀ j : Nat, j < k → h.1 68 j = g.1 67 j) → (∀ j : Nat, 62 ≤ j → h.1 68 j = g.1 68 j) → zQ n 179 2 [some (.ref 58), some (.ref 67), some (.ref 68), some (.int x3)] [] h Q
  | 0, _, _, _, _, _, _, _, _ => zQ_zero
  | n + 1, k, x3, h, e3, hk, f1, f2, f3 => by
    refine s_179_58_67_68_2 x3 ⟨fun d => ?_, fun d _ _ _ _ => ?_⟩
    · have : k = 62 := by omega
      subst this
      exact H h f1 f2 f3
    · have e3' := ai (x := x3) (k := 1) (by omega) (by omega) (by omega) (by omega)
      rw [show x3.toInt.toNat = k by omega]
      refine l_179_67 H n (k + 1) _ _ (by omega) (by omega) (fun q hq => ?_) (fun j hj => ?_) (fun j hj => by rw [wk_ne (Or.inr (by omega))]; exact f3 j hj)
      · rw [zs_q hq]
        exact f1 q hq
      · by_cases z : j = k
        · subst z
          rw [wk_at, f1 67 (by decide)]
        · rw [wk_ne (Or.inr z)]
          exact f2 j (by omega)
theorem q_179_67 {h : zH} {Q : Option Value → zH → Prop} (H : ∀ h' : zH, (∀ q, q ≠ 68 → h'.1 q = h.1 q) → (∀ k : Nat, k < 62 → h'.1 68 k = h.1 67 k) → (∀ j : Nat, 62 ≤ j → h'.1 68 j = h.1 68 j) → Q none h') : zqm 179 [.ref 58, .ref 67, .ref 68] h Q := s_179_58_67_68 (fun n => l_179_67 H n 0 _ h kc_0 (by omega) (fun _ _ => rfl) (fun j hj => by omega) (fun _ _ => rfl))
theorem drw_c {T T' : Nat → Int} (e : ∀ k : Nat, k < 62 → T k = T' k) {c : Nat} {s : Int} (hc : c < 15) : ∀ k : Nat, k < 62 → drw T c s k = drw T' c s k := by
  intro k hk
  have e3 := e (15 + (c + (T' 58).toNat) % 15) (by omega)
  unfold drw
  rw [e 58 (by omega), e 59 (by omega), e3, e k hk]
theorem wr_c {T T' : Nat → Int} (e : ∀ k : Nat, k < 62 → T k = T' k) : mkm (wr T) 15 = mkm (wr T') 15 := mkm_congr (by omega) (fun c hc => by
  unfold wr
  rw [e c (by omega), e (15 + c) (by omega)])
def bsR (g : zH) : Prop := wfG (nowG g) ∧ g.1 58 13 = mkm (smB (gyD (nowG g))) 15 ∧ ∀ s : Nat, (s : Int) < nowG g 57 → g.1 66 s = mkm (flB (gyD (nowG g)) (gyE (nowG g) s)) 15
def frR (h g : zH) : Prop := ∀ q : Nat, q ≠ 67 → q ≠ 68 → q ≠ 69 → h.1 q = g.1 q
theorem bsR_t {h g : zH} (b : bsR g) (f : frR h g) : bsR h ∧ nowG h = nowG g := by
  have eN : nowG h = nowG g := funext fun k => by unfold nowG; rw [f 64 (by decide) (by decide) (by decide)]
  refine ⟨?_, eN⟩
  unfold bsR
  rw [eN, f 58 (by decide) (by decide) (by decide), f 66 (by decide) (by decide) (by decide)]
  exact b
theorem q_180 {h g : zH} {Q : Option Value → zH → Prop} (a1 : Int32) (tr : Bool) (T : Nat → Int) (b : bsR g) (f : frR h g) (et : (¬ a1.toInt = 1 ∧ tr = false) ∨ (a1.toInt = 1 ∧ tr = true)) (eT : ∀ k : Nat, k < 62 → arG h 67 k = T k) (H : Q (some (.int (zbo (dn (nowG g) tr T = true)))) h) : zqm 180 [.ref 58, .int a1] h Q := by
  obtain ⟨⟨b1, b2, b3⟩, eN⟩ := bsR_t b f
  have T1 : dn (nowG g) tr T = true → Q (some (.int (Int32.ofInt 1))) h := fun z => by rw [zbT z] at H; exact H
  have F1 : ¬ dn (nowG g) tr T = true → Q (some (.int (Int32.ofInt 0))) h := fun z => by rw [zbF z] at H; exact H
  refine s_180 a1 ?_
  refine q_156_67 ?_
  rw [wr_c eT]
  refine zri_int ⟨fun z => ?_, fun z => ?_⟩
  · have e : tr = false := et.elim (fun u => u.2) (fun u => absurd u.1 z)
    have dq : dn (nowG g) tr T = true ↔ aiS (nowG g) (wr T) (gyN (nowG g)) = 0 := by
      rw [dn_iff, (ai_0 b.1 (wr T)).2, e]
      constructor
      · intro u c hc
        have := u c hc
        rw [Bool.false_or, Bool.and_comm] at this
        exact this
      · intro u c hc
        rw [Bool.false_or, Bool.and_comm]
        exact u c hc
    refine q_166 _ (wr T) rfl b1 b3 b2 (fun v ev => ?_)
    rw [eN] at ev
    exact zri_int ⟨fun y => F1 (fun u => y (ev.trans (dq.mp u))), fun y => T1 (dq.mpr (ev.symm.trans (Decidable.not_not.mp y)))⟩
  · have e : tr = true := et.elim (fun u => absurd u.1 z) (fun u => u.2)
    have dq : dn (nowG g) tr T = true ↔ (mkm (wr T) 15).toInt = 0 := by
      rw [dn_iff, mkm_zero, e]
      constructor
      · intro u c hc
        have := u c hc
        rw [Bool.true_or, Bool.true_and] at this
        exact this
      · intro u c hc
        rw [Bool.true_or, Bool.true_and]
        exact u c hc
    exact ⟨fun y => F1 (fun u => y (dq.mp u)), fun y => T1 (dq.mpr (Decidable.not_not.mp y))⟩
theorem q_182_64 {h : zH} {Q : Option Value → zH → Prop} {T : Nat → Int} (a1 : Int32) (n : Nat) (e1 : a1.toInt = (n : Int)) (hn : n < 60) (w58 : 0 ≤ T 58 ∧ T 58 ≤ 14) (w59 : 0 ≤ T 59 ∧ T 59 ≤ 3) (wS : ∀ d : Nat, d < 15 → 0 ≤ T (15 + d) ∧ T (15 + d) ≤ 3) (eT : ∀ k : Nat, k < 62 → arG h 64 k = T k) (H0 : chg T n = false → Q (some (.int (Int32.ofInt 0))) h) (H1 : chg T n = true → ∀ h' : zH, (∀ q, q ≠ 67 → h'.1 q = h.1 q) → (∀ k : Nat, k < 62 → arG h' 67 k = stk T n k) → Q (some (.int (Int32.ofInt 1))) h') : zqm 182 [.ref 58, .int a1, .ref 64] h Q := by
  have ed := dv32 e1 kc4n
  have em := rem32 e1 kc4n
  have e15 : ((Int32.ofInt 15) + (a1 / (Int32.ofInt 4))).toInt = ((15 + n / 4 : Nat) : Int) := by
    rw [wk_add (show (Int32.ofInt 15).toInt = 15 by decide) ed (by omega) (by omega)]
    omega
  have eq : (h.1 64 (15 + n / 4)).toInt = T (15 + n / 4) := eT (15 + n / 4) (by omega)
  refine s_182_58_64 a1 ?_
  rw [e15, em, show (((15 + n / 4 : Nat) : Int)).toNat = 15 + n / 4 by omega, eq]
  refine fun _ _ => ⟨fun z => ?_, fun z => ?_⟩
  · refine q_179_64 (fun h1 f1 f2 _ => ?_)
    have e1T : ∀ k : Nat, k < 62 → arG h1 67 k = T k := fun k hk => by
      show (h1.1 67 k).toInt = _
      rw [f2 k hk]
      exact eT k hk
    refine q_167_67 _ _ (n / 4) ed (by omega) (by rw [em]; omega) (by rw [em]; omega) (by rw [e1T 58 (by omega)]; exact w58) (by rw [e1T 59 (by omega)]; exact w59) (fun d hd => by rw [e1T (15 + d) (by omega)]; exact wS d hd) (fun h' g1 g2 => ?_)
    refine H1 ?_ h' (fun q hq => (g1 q hq).trans (f1 q hq)) (fun k hk => ?_)
    · unfold chg
      rw [decide_eq_false z]
      rfl
    · rw [g2 k, em]
      exact drw_c e1T (by omega) k hk
  · refine H0 ?_
    unfold chg
    rw [decide_eq_true (Decidable.not_not.mp z)]
    rfl
theorem q_182_68 {h : zH} {Q : Option Value → zH → Prop} {T : Nat → Int} (a1 : Int32) (n : Nat) (e1 : a1.toInt = (n : Int)) (hn : n < 60) (w58 : 0 ≤ T 58 ∧ T 58 ≤ 14) (w59 : 0 ≤ T 59 ∧ T 59 ≤ 3) (wS : ∀ d : Nat, d < 15 → 0 ≤ T (15 + d) ∧ T (15 + d) ≤ 3) (eT : ∀ k : Nat, k < 62 → arG h 68 k = T k) (H0 : chg T n = false → Q (some (.int (Int32.ofInt 0))) h) (H1 : chg T n = true → ∀ h' : zH, (∀ q, q ≠ 67 → h'.1 q = h.1 q) → (∀ k : Nat, k < 62 → arG h' 67 k = stk T n k) → Q (some (.int (Int32.ofInt 1))) h') : zqm 182 [.ref 58, .int a1, .ref 68] h Q := by
  have ed := dv32 e1 kc4n
  have em := rem32 e1 kc4n
  have e15 : ((Int32.ofInt 15) + (a1 / (Int32.ofInt 4))).toInt = ((15 + n / 4 : Nat) : Int) := by
    rw [wk_add (show (Int32.ofInt 15).toInt = 15 by decide) ed (by omega) (by omega)]
    omega
  have eq : (h.1 68 (15 + n / 4)).toInt = T (15 + n / 4) := eT (15 + n / 4) (by omega)
  refine s_182_58_68 a1 ?_
  rw [e15, em, show (((15 + n / 4 : Nat) : Int)).toNat = 15 + n / 4 by omega, eq]
  refine fun _ _ => ⟨fun z => ?_, fun z => ?_⟩
  · refine q_179_68 (fun h1 f1 f2 _ => ?_)
    have e1T : ∀ k : Nat, k < 62 → arG h1 67 k = T k := fun k hk => by
      show (h1.1 67 k).toInt = _
      rw [f2 k hk]
      exact eT k hk
    refine q_167_67 _ _ (n / 4) ed (by omega) (by rw [em]; omega) (by rw [em]; omega) (by rw [e1T 58 (by omega)]; exact w58) (by rw [e1T 59 (by omega)]; exact w59) (fun d hd => by rw [e1T (15 + d) (by omega)]; exact wS d hd) (fun h' g1 g2 => ?_)
    refine H1 ?_ h' (fun q hq => (g1 q hq).trans (f1 q hq)) (fun k hk => ?_)
    · unfold chg
      rw [decide_eq_false z]
      rfl
    · rw [g2 k, em]
      exact drw_c e1T (by omega) k hk
  · refine H0 ?_
    unfold chg
    rw [decide_eq_true (Decidable.not_not.mp z)]
    rfl
/-- what a search of the reference comes to -/
abbrev rfP (g : zH) (Q : Option Value → zH → Prop) : Int → Int → Int → Prop := fun a b c => ∀ (v : Int32) (h' : zH), frR h' g → (v.toInt = if a < 0 then 3 else a) → (0 < a → (h'.1 69 0).toInt = b) → (1 < a → (h'.1 69 1).toInt = c) → Q (some (.int v)) h'
theorem l_181_99 {g : zH} {Q : Option Value → zH → Prop} (x1 x2 : Int32) (tr : Bool) (n : Nat) (b : bsR g) (et : (¬ x1.toInt = 1 ∧ tr = false) ∨ (x1.toInt = 1 ∧ tr = true)) (e2 : x2.toInt = (n : Int)) (hn : n < 60) (HY : ∀ j : Nat, j < 60 → one (nowG g) tr (stk (nowG g) n) = (j : Int) → rfP g Q 2 (n : Int) (j : Int)) (HN : one (nowG g) tr (stk (nowG g) n) = -1000000 → ∀ (f : Nat) (o3 : Option Value) (h' : zH), frR h' g → zQ f 181 67 [some (.ref 58), some (.int x1), some (.int (x2 + Int32.ofInt 1)), o3] [] h' Q) : ∀ (f m j : Nat) (x3 : Int32) (h : zH), x3.toInt = (j : Int) → j + m = 60 → fF (fun j => chg (stk (nowG g) n) j && dn (nowG g) tr (stk (stk (nowG g) n) j)) m j = one (nowG g) tr (stk (nowG g) n) → frR h g → (∀ k : Nat, k < 62 → arG h 68 k = stk (nowG g) n k) → zQ f 181 99 [some (.ref 58), some (.int x1), some (.int x2), some (.int x3)] [] h Q
  | 0, _, _, _, _, _, _, _, _, _ => zQ_zero
  | f + 1, m, j, x3, h, e3, hm, hf, f1, f2 => by
    have t0 : tS (nowG g) (nowG g) := ⟨fun _ _ _ => rfl, fun d hd => (b.1.1 d hd).2.1⟩
    have t1 := tS_s b.1 t0 hn
    have h58 := t1.1 58 (by omega) (by omega)
    have h59 := t1.1 59 (by omega) (by omega)
    refine s_181_99 x1 x2 x3 ⟨fun d => ?_, fun d => ?_⟩
    · have : m = 0 := by omega
      subst this
      exact HN hf.symm f _ h f1
    · obtain ⟨m', rfl⟩ : ∃ m', m = m' + 1 := ⟨m - 1, by omega⟩
      have e3' := ai (x := x3) (k := 1) (by omega) (by omega) (by omega) (by omega)
      refine q_182_68 (T := stk (nowG g) n) x3 j e3 (by omega) (by rw [h58]; exact b.1.2.2.1) (by rw [h59]; exact b.1.2.2.2.1) t1.2 f2 (fun z => ?_) (fun z h' g1 g2 => ?_)
      · refine zri_int ⟨fun _ => ?_, fun y => absurd (by decide) y⟩
        refine l_181_99 x1 x2 tr n b et e2 hn HY HN f m' (j + 1) _ h (by omega) (by omega) ?_ f1 f2
        rw [fF_n (by show ¬ (chg (stk (nowG g) n) j && dn (nowG g) tr (stk (stk (nowG g) n) j)) = true; rw [z, Bool.false_and]; decide)] at hf
        exact hf
      · refine zri_int ⟨fun y => absurd y (by decide), fun _ => ?_⟩
        have fr' : frR h' g := fun q q7 q8 q9 => (g1 q q7).trans (f1 q q7 q8 q9)
        refine q_180 x1 tr (stk (stk (nowG g) n) j) b fr' et g2 ?_
        refine zri_int ⟨fun y => ?_, fun y => ?_⟩
        · refine l_181_99 x1 x2 tr n b et e2 hn HY HN f m' (j + 1) _ h' (by omega) (by omega) ?_ fr' (fun k hk => ?_)
          · rw [fF_n (by show ¬ (chg (stk (nowG g) n) j && dn (nowG g) tr (stk (stk (nowG g) n) j)) = true; rw [show dn (nowG g) tr (stk (stk (nowG g) n) j) = false by simpa using zb0.mp y, Bool.and_false]; decide)] at hf
            exact hf
          · show (h'.1 68 k).toInt = _
            rw [g1 68 (by decide)]
            exact f2 k hk
        · rw [fF_y (by show (chg (stk (nowG g) n) j && dn (nowG g) tr (stk (stk (nowG g) n) j)) = true; rw [z, zb1.mp y]; rfl)] at hf
          refine HY j (by omega) hf.symm _ _ (fun q q7 q8 q9 => by rw [zs_q q9, zs_q q9]; exact fr' q q7 q8 q9) (by rw [if_neg (by decide)]; exact kc_2) (fun _ => ?_) (fun _ => ?_)
          · rw [wk_ne (Or.inr (by decide)), wk_at]
            exact e2
          · rw [wk_at]
            exact e3
theorem l_181_67 {g : zH} {Q : Option Value → zH → Prop} (x1 : Int32) (tr : Bool) (b : bsR g) (et : (¬ x1.toInt = 1 ∧ tr = false) ∨ (x1.toInt = 1 ∧ tr = true)) (HY : ∀ n j : Nat, n < 60 → j < 60 → two (nowG g) tr = (n : Int) → one (nowG g) tr (stk (nowG g) n) = (j : Int) → rfP g Q 2 (n : Int) (j : Int)) (HN : two (nowG g) tr = -1000000 → rfP g Q (-1000000) (-1000000) (-1000000)) : ∀ (m f n : Nat) (x2 : Int32) (o3 : Option Value) (h : zH), x2.toInt = (n : Int) → n + m = 60 → fF (fun n => chg (nowG g) n && !decide (one (nowG g) tr (stk (nowG g) n) = -1000000)) m n = two (nowG g) tr → frR h g → zQ f 181 67 [some (.ref 58), some (.int x1), some (.int x2), o3] [] h Q := by
  have t0 : tS (nowG g) (nowG g) := ⟨fun _ _ _ => rfl, fun d hd => (b.1.1 d hd).2.1⟩
  intro m
  induction m with
  | zero =>
    intro f n x2 o3 h e2 hm hf f1
    cases f with
    | zero => exact zQ_zero
    | succ f =>
      refine s_181_67 x1 x2 o3 ⟨fun _ => ?_, fun d => absurd (by omega) d⟩
      exact HN hf.symm _ h f1 (by rw [if_pos (by decide)]; exact kc_3) (fun z => absurd z (by decide)) (fun z => absurd z (by decide))
  | succ m ih =>
    intro f n x2 o3 h e2 hm hf f1
    cases f with
    | zero => exact zQ_zero
    | succ f =>
      have e2' : (x2 + Int32.ofInt 1).toInt = ((n + 1 : Nat) : Int) := by
        rw [ai (by omega) (by omega) (by omega) (by omega)]
        omega
      refine s_181_67 x1 x2 o3 ⟨fun d => by exfalso; omega, fun _ => ?_⟩
      have e64 : ∀ k : Nat, k < 62 → arG h 64 k = nowG g k := fun k hk => by
        show (h.1 64 k).toInt = _
        rw [f1 64 (by decide) (by decide) (by decide)]
        rfl
      refine q_182_64 (T := nowG g) x2 n e2 (by omega) b.1.2.2.1 b.1.2.2.2.1 t0.2 e64 (fun z => ?_) (fun z h' g1 g2 => ?_)
      · refine zri_int ⟨fun _ => ?_, fun y => absurd (by decide) y⟩
        refine ih f (n + 1) _ _ h e2' (by omega) ?_ f1
        rw [fF_n (by show ¬ (chg (nowG g) n && !decide (one (nowG g) tr (stk (nowG g) n) = -1000000)) = true; rw [z, Bool.false_and]; decide)] at hf
        exact hf
      · refine zri_int ⟨fun y => absurd y (by decide), fun _ => ?_⟩
        refine q_179_67 (fun h2 k1 k2 _ => ?_)
        have fr2 : frR h2 g := fun q q7 q8 q9 => (k1 q q8).trans ((g1 q q7).trans (f1 q q7 q8 q9))
        refine l_181_99 x1 x2 tr n b et e2 (by omega) (fun j hj hj1 => HY n j (by omega) hj ?_ hj1) (fun hnone f' o3' h' fr' => ?_) f 60 0 _ h2 kc_0 (by omega) rfl fr2 (fun k hk => ?_)
        · rw [fF_y (by show (chg (nowG g) n && !decide (one (nowG g) tr (stk (nowG g) n) = -1000000)) = true; rw [z, decide_eq_false (by rw [hj1]; omega)]; rfl)] at hf
          exact hf.symm
        · refine ih f' (n + 1) _ _ h' e2' (by omega) ?_ fr'
          rw [fF_n (by show ¬ (chg (nowG g) n && !decide (one (nowG g) tr (stk (nowG g) n) = -1000000)) = true; rw [decide_eq_true hnone]; simp)] at hf
          exact hf
        · show (h2.1 68 k).toInt = _
          rw [k2 k hk]
          exact g2 k hk
theorem l_181_24 {g : zH} {Q : Option Value → zH → Prop} (x1 : Int32) (tr : Bool) (b : bsR g) (et : (¬ x1.toInt = 1 ∧ tr = false) ∨ (x1.toInt = 1 ∧ tr = true)) (HY : ∀ n : Nat, n < 60 → one (nowG g) tr (nowG g) = (n : Int) → rfP g Q 1 (n : Int) (-1000000)) (HN : one (nowG g) tr (nowG g) = -1000000 → ∀ (f : Nat) (h' : zH), frR h' g → zQ f 181 67 [some (.ref 58), some (.int x1), some (.int (Int32.ofInt 0)), none] [] h' Q) : ∀ (f m n : Nat) (x2 : Int32) (h : zH), x2.toInt = (n : Int) → n + m = 60 → fF (fun n => chg (nowG g) n && dn (nowG g) tr (stk (nowG g) n)) m n = one (nowG g) tr (nowG g) → frR h g → zQ f 181 24 [some (.ref 58), some (.int x1), some (.int x2), none] [] h Q
  | 0, _, _, _, _, _, _, _, _ => zQ_zero
  | f + 1, m, n, x2, h, e2, hm, hf, f1 => by
    have t0 : tS (nowG g) (nowG g) := ⟨fun _ _ _ => rfl, fun d hd => (b.1.1 d hd).2.1⟩
    refine s_181_24 x1 x2 ⟨fun d => ?_, fun d => ?_⟩
    · have : m = 0 := by omega
      subst this
      exact HN hf.symm f h f1
    · obtain ⟨m', rfl⟩ : ∃ m', m = m' + 1 := ⟨m - 1, by omega⟩
      have e2' := ai (x := x2) (k := 1) (by omega) (by omega) (by omega) (by omega)
      have e64 : ∀ k : Nat, k < 62 → arG h 64 k = nowG g k := fun k hk => by
        show (h.1 64 k).toInt = _
        rw [f1 64 (by decide) (by decide) (by decide)]
        rfl
      refine q_182_64 (T := nowG g) x2 n e2 (by omega) b.1.2.2.1 b.1.2.2.2.1 t0.2 e64 (fun z => ?_) (fun z h' g1 g2 => ?_)
      · refine zri_int ⟨fun _ => ?_, fun y => absurd (by decide) y⟩
        refine l_181_24 x1 tr b et HY HN f m' (n + 1) _ h (by omega) (by omega) ?_ f1
        rw [fF_n (by show ¬ (chg (nowG g) n && dn (nowG g) tr (stk (nowG g) n)) = true; rw [z, Bool.false_and]; decide)] at hf
        exact hf
      · refine zri_int ⟨fun y => absurd y (by decide), fun _ => ?_⟩
        have fr' : frR h' g := fun q q7 q8 q9 => (g1 q q7).trans (f1 q q7 q8 q9)
        refine q_180 x1 tr (stk (nowG g) n) b fr' et g2 ?_
        refine zri_int ⟨fun y => ?_, fun y => ?_⟩
        · refine l_181_24 x1 tr b et HY HN f m' (n + 1) _ h' (by omega) (by omega) ?_ fr'
          rw [fF_n (by show ¬ (chg (nowG g) n && dn (nowG g) tr (stk (nowG g) n)) = true; rw [show dn (nowG g) tr (stk (nowG g) n) = false by simpa using zb0.mp y, Bool.and_false]; decide)] at hf
          exact hf
        · rw [fF_y (by show (chg (nowG g) n && dn (nowG g) tr (stk (nowG g) n)) = true; rw [z, zb1.mp y]; rfl)] at hf
          refine HY n (by omega) hf.symm _ _ (fun q q7 q8 q9 => by rw [zs_q q9]; exact fr' q q7 q8 q9) (by rw [if_neg (by decide)]; exact kc_1) (fun _ => ?_) (fun z => absurd z (by decide))
          rw [wk_at]
          exact e2
theorem q_181 {g : zH} {Q : Option Value → zH → Prop} (a1 : Int32) (tr : Bool) (b : bsR g) (et : (¬ a1.toInt = 1 ∧ tr = false) ∨ (a1.toInt = 1 ∧ tr = true)) (H : pP (nowG g) tr (rfP g Q)) : zqm 181 [.ref 58, .int a1] g Q := by
  obtain ⟨H0, H1, H2, H3⟩ := H
  refine s_181 a1 (fun f => ?_)
  refine q_179_64 (fun h1 f1 f2 _ => ?_)
  have fr1 : frR h1 g := fun q q7 _ _ => f1 q q7
  refine q_180 a1 tr (nowG g) b fr1 et (fun k hk => by show (h1.1 67 k).toInt = _; rw [f2 k hk]; rfl) ?_
  refine zri_int ⟨fun z => ?_, fun z => ?_⟩
  · have z := zb0.mp z
    refine l_181_24 a1 tr b et (H1 z) (fun n1 f' h' fr' => ?_) f 60 0 _ h1 kc_0 (by omega) rfl fr1
    exact l_181_67 a1 tr b et (H2 z n1) (H3 z n1) 60 f' 0 _ _ h' kc_0 (by omega) rfl fr'
  · exact H0 (zb1.mp z) _ h1 fr1 (by rw [if_neg (by decide)]; exact kc_0) (fun z => absurd z (by decide)) (fun z => absurd z (by decide))
theorem pr_strokes : pr2 95 183 2 JC := by
  intro as hl hv h ht hJ
  match as, hl, hv with
  | [v1, v2], hl, hv =>
    obtain ⟨a, rfl⟩ := hv v1 (by simp)
    obtain ⟨k, rfl⟩ := hv v2 (by simp)
    by_cases hs : nowG h 61 = 1
    · obtain ⟨C, cS, cF⟩ := JC_1 hJ hs
      obtain ⟨c1, c2, c3, -⟩ := id C
      have cN : (-1000000 : Int32).toInt = -1000000 := by decide
      have km1 : (Int32.ofInt (-1)).toInt = -1 := by decide
      have BAD : ∀ P : Option Value → zH → Prop, ¬ ((0 ≤ a.toInt ∧ a.toInt ≤ 1) ∧ -1 ≤ k.toInt ∧ k.toInt ≤ 1) → P (some (.int (-1000001 : Int32))) h → zqm 183 [.ref 58, .int a, .int k] h P := fun P nb hp => by
        refine s_183 a k ?_
        refine q_150 ?_
        refine zri_int ⟨fun _ => ?_, fun t => absurd hs (zb2.mp t)⟩
        refine q_121 _ _ _ ?_
        rw [kc_0, kc_1]
        refine zri_int ⟨fun _ => hp, fun y => ?_⟩
        refine q_121 _ _ _ ?_
        rw [km1]
        exact zri_int ⟨fun x => absurd ⟨zb1.mp y, zb1.mp x⟩ nb, fun _ => hp⟩
      refine s_95 a k ⟨fun _ => ?_, fun z => absurd (by rw [c3]; decide) z⟩
      refine q_120 a (zri_int ⟨fun z _ => ?_, fun z => ⟨fun y _ => ?_, fun y => ⟨fun x => ?_, fun x _ => ?_⟩⟩⟩)
      · exact BAD _ (fun t => zb0.mp z t.1) (fun _ => ⟨rfl, hJ⟩)
      · exact BAD _ (fun t => by omega) (fun _ => ⟨rfl, hJ⟩)
      · have z := zb1.mp z
        obtain ⟨tr, et⟩ : ∃ tr : Bool, (¬ a.toInt = 1 ∧ tr = false) ∨ (a.toInt = 1 ∧ tr = true) := by
          by_cases u : a.toInt = 1
          · exact ⟨true, Or.inr ⟨u, rfl⟩⟩
          · exact ⟨false, Or.inl ⟨u, rfl⟩⟩
        /- both sides hold the same plan -/
        have FIN : ∀ (A B D : Int) (h7 : zH), (A = -1000000 ∨ A = 0 ∨ A = 1 ∨ A = 2) → (A ≤ 0 → B = -1000000) → (A ≤ 1 → D = -1000000) → (∀ q, q ≠ 54 → h7.1 q = h.1 q) → pln h7 A B D → (∀ P : Option Value → zH → Prop, rfP h7 P A B D → zqm 181 [.ref 58, .int a] h7 P) → ((0 ≤ k.toInt → ((¬ k.toInt = 0 → (hTy h7 → zqm 183 [.ref 58, .int a, .int k] h7 (fun rv' h2 => hTy h2 → rv' = some (.int (h7.1 54 2)) ∧ JC h2))) ∧ (¬ (¬ k.toInt = 0) → (hTy h7 → zqm 183 [.ref 58, .int a, .int k] h7 (fun rv' h2 => hTy h2 → rv' = some (.int (h7.1 54 1)) ∧ JC h2))))) ∧ (¬ (0 ≤ k.toInt) → (hTy h7 → zqm 183 [.ref 58, .int a, .int k] h7 (fun rv' h2 => hTy h2 → rv' = some (.int (h7.1 54 0)) ∧ JC h2)))) := fun A B D h7 rA rB rD f7 p7 R => by
          obtain ⟨p0, p1, p2⟩ := p7
          have eN7 : nowG h7 = nowG h := funext fun j => by unfold nowG; rw [f7 64 (by decide)]
          have ref : ∀ P : Option Value → zH → Prop, (∀ (v : Int32) (h' : zH), frR h' h7 → (v.toInt = if A < 0 then 3 else A) → (0 < A → (h'.1 69 0).toInt = B) → (1 < A → (h'.1 69 1).toInt = D) → ((v.toInt ≤ (2 : Int) → ((0 ≤ k.toInt → ((v.toInt ≤ k.toInt → P (some (.int (-1000000 : Int32))) h') ∧ (¬ (v.toInt ≤ k.toInt) → (0 ≤ k.toInt → k.toInt < 2 → P (some (.int (h'.1 69 k.toInt.toNat))) h')))) ∧ (¬ (0 ≤ k.toInt) → P (some (.int v)) h'))) ∧ (¬ (v.toInt ≤ (2 : Int)) → P (some (.int (-1000000 : Int32))) h'))) → zqm 183 [.ref 58, .int a, .int k] h7 P := fun P hp => by
            refine s_183 a k ?_
            refine q_150 ?_
            rw [eN7]
            refine zri_int ⟨fun _ => ?_, fun t => absurd hs (zb2.mp t)⟩
            refine q_121 _ _ _ ?_
            rw [kc_0, kc_1]
            refine zri_int ⟨fun u => absurd z (zb0.mp u), fun _ => ?_⟩
            refine q_121 _ _ _ ?_
            rw [km1, kc_1]
            refine zri_int ⟨fun _ => ?_, fun u => absurd ⟨by omega, by omega⟩ (zb2.mp u)⟩
            refine R _ (fun v h' fr ev e0 e1 => zri_int (hp v h' fr ev e0 e1))
          have keep : ∀ h' : zH, frR h' h7 → JC h' := fun h' fr => JC_fr (fun q q1 q2 => by rw [fr q (by omega) (by omega) (by omega), f7 q (by omega)]) (by rw [fr 64 (by decide) (by decide) (by decide), f7 64 (by decide)]) (by rw [fr 66 (by decide) (by decide) (by decide), f7 66 (by decide)]) (by rw [fr 58 (by decide) (by decide) (by decide), f7 58 (by decide)]) hJ
          refine ⟨fun w => ⟨fun u _ => ?_, fun u _ => ?_⟩, fun w _ => ?_⟩
          · have k1 : k.toInt = 1 := by omega
            refine ref _ (fun v h' fr ev e0 e1 => ⟨fun y2 => ⟨fun _ => ⟨fun y3 _ => ⟨vi ?_, keep h' fr⟩, fun y3 _ _ _ => ⟨vi ?_, keep h' fr⟩⟩, fun y3 => absurd w y3⟩, fun y2 _ => ⟨vi ?_, keep h' fr⟩⟩)
            · rw [p2, cN]
              split at ev <;> omega
            · rw [show k.toInt.toNat = 1 by omega, p2]
              split at ev
              · omega
              · exact e1 (by omega)
            · rw [p2, cN]
              split at ev <;> omega
          · have k0 : k.toInt = 0 := Decidable.not_not.mp u
            refine ref _ (fun v h' fr ev e0 e1 => ⟨fun y2 => ⟨fun _ => ⟨fun y3 _ => ⟨vi ?_, keep h' fr⟩, fun y3 _ _ _ => ⟨vi ?_, keep h' fr⟩⟩, fun y3 => absurd w y3⟩, fun y2 _ => ⟨vi ?_, keep h' fr⟩⟩)
            · rw [p1, cN]
              split at ev <;> omega
            · rw [show k.toInt.toNat = 0 by omega, p1]
              split at ev
              · omega
              · exact e0 (by omega)
            · rw [p1, cN]
              split at ev <;> omega
          · refine ref _ (fun v h' fr ev e0 e1 => ⟨fun y2 => ⟨fun y3 => absurd y3 w, fun _ _ => ⟨vi ?_, keep h' fr⟩⟩, fun y2 _ => ⟨vi ?_, keep h' fr⟩⟩)
            · rw [p0]
              split at ev <;> omega
            · rw [p0, cN]
              split at ev <;> omega
        have ALL : pP (nowG h) tr (fun A B D => ∀ h7 : zH, (∀ q, q ≠ 54 → h7.1 q = h.1 q) → pln h7 A B D → ((0 ≤ k.toInt → ((¬ k.toInt = 0 → (hTy h7 → zqm 183 [.ref 58, .int a, .int k] h7 (fun rv' h2 => hTy h2 → rv' = some (.int (h7.1 54 2)) ∧ JC h2))) ∧ (¬ (¬ k.toInt = 0) → (hTy h7 → zqm 183 [.ref 58, .int a, .int k] h7 (fun rv' h2 => hTy h2 → rv' = some (.int (h7.1 54 1)) ∧ JC h2))))) ∧ (¬ (0 ≤ k.toInt) → (hTy h7 → zqm 183 [.ref 58, .int a, .int k] h7 (fun rv' h2 => hTy h2 → rv' = some (.int (h7.1 54 0)) ∧ JC h2))))) := by
          have bR : ∀ h7 : zH, (∀ q, q ≠ 54 → h7.1 q = h.1 q) → bsR h7 ∧ nowG h7 = nowG h := fun h7 f7 => by
            have eN7 : nowG h7 = nowG h := funext fun j => by unfold nowG; rw [f7 64 (by decide)]
            refine ⟨?_, eN7⟩
            unfold bsR
            rw [eN7, f7 58 (by decide), f7 66 (by decide)]
            exact ⟨c2, cS, cF⟩
          refine ⟨fun d h7 f7 p7 => ?_, fun d n hn o1 h7 f7 p7 => ?_, fun d o1 n j hn hj o2 o3 h7 f7 p7 => ?_, fun d o1 o2 h7 f7 p7 => ?_⟩
          · obtain ⟨b7, e7⟩ := bR h7 f7
            refine FIN _ _ _ h7 (by omega) (fun _ => rfl) (fun _ => rfl) f7 p7 (fun P hp => q_181 a tr b7 et ?_)
            rw [e7]
            exact ⟨fun _ => hp, fun t => absurd d t, fun t => absurd d t, fun t => absurd d t⟩
          · obtain ⟨b7, e7⟩ := bR h7 f7
            refine FIN _ _ _ h7 (by omega) (fun t => absurd t (by decide)) (fun _ => rfl) f7 p7 (fun P hp => q_181 a tr b7 et ?_)
            rw [e7]
            refine ⟨fun t => absurd t d, fun _ n' hn' o1' => ?_, fun _ t => ?_, fun _ t => ?_⟩
            · have : n' = n := by omega
              subst this
              exact hp
            · exfalso; omega
            · exfalso; omega
          · obtain ⟨b7, e7⟩ := bR h7 f7
            refine FIN _ _ _ h7 (by omega) (fun t => absurd t (by decide)) (fun t => absurd t (by decide)) f7 p7 (fun P hp => q_181 a tr b7 et ?_)
            rw [e7]
            refine ⟨fun t => absurd t d, fun _ n' hn' o1' => ?_, fun _ _ n' j' hn' hj' o2' o3' => ?_, fun _ _ t => ?_⟩
            · exfalso; omega
            · have : n' = n := by omega
              subst this
              have : j' = j := by omega
              subst this
              exact hp
            · exfalso; omega
          · obtain ⟨b7, e7⟩ := bR h7 f7
            refine FIN _ _ _ h7 (by omega) (fun _ => rfl) (fun _ => rfl) f7 p7 (fun P hp => q_181 a tr b7 et ?_)
            rw [e7]
            refine ⟨fun t => absurd t d, fun _ n' hn' o1' => ?_, fun _ _ n' j' hn' hj' o2' o3' => ?_, fun _ _ _ => hp⟩
            · exfalso; omega
            · exfalso; omega
        refine ⟨fun u => ?_, fun u => ?_⟩
        · refine q_43 _ tr C (Or.inl ⟨kc_0, et.elim (fun t => t.2) (fun t => absurd t.1 u)⟩) ?_
          exact ALL
        · refine q_43 _ tr C (Or.inr ⟨by decide, et.elim (fun t => absurd t.1 u) (fun t => t.2)⟩) ?_
          exact ALL
      · exact BAD _ (fun t => by omega) (fun _ => ⟨rfl, hJ⟩)
    · obtain ⟨z1, z2⟩ := JC_0 hJ hs
      refine s_95 a k ⟨fun z => absurd (z2 0 (by decide)) z, fun _ _ => ?_⟩
      refine s_183 a k ?_
      refine q_150 ?_
      exact zri_int ⟨fun z => absurd (zb1.mp z) hs, fun _ _ => ⟨rfl, hJ⟩⟩

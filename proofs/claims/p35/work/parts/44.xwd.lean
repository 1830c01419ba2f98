/-! in how many years all rest -/
theorem mkm_zero {q : Nat → Bool} : (mkm q 15).toInt = 0 ↔ ∀ c : Nat, c < 15 → q c = false := by
  constructor
  · intro e c hc
    have e0 : mkm q 15 = Int32.ofInt 0 := e10m (e.trans kc_0.symm)
    have b := mkm_bt q 15 (by omega) c (by omega)
    rw [e0, bt_0, decide_eq_true hc, Bool.true_and] at b
    exact b.symm
  · intro e
    have : Int32.ofInt 0 = mkm q 15 := mkm_eq (by omega) (fun i hi => by
      rw [bt_0]
      by_cases z : i < 15
      · rw [e i z, Bool.and_false]
      · rw [decide_eq_false z, Bool.false_and])
    rw [← this]
    exact kc_0
theorem it_0 {G : Nat → Int} {s : Nat} (w : wfG G) (hs : (s : Int) < G 57) (p : Nat → Bool) : itcS G s p 15 = 0 ↔ ∀ c : Nat, c < 15 → p c = true → itv G s c = 0 := by
  obtain ⟨-, -, ⟨s1, s5⟩⟩ := w.2.2.2.2.1 s hs
  refine (sumc_0 (f := fun c => if p c = true then itv G s c else 0) 15 (fun c _ => ?_)).1.trans ?_
  · show 0 ≤ (if p c = true then itv G s c else 0)
    have := (itv_r (c := c) s1 s5).1
    split <;> omega
  · constructor
    · intro e c hc hp
      have := e c hc
      rw [if_pos hp] at this
      exact this
    · intro e c hc
      by_cases z : p c = true
      · rw [if_pos z]
        exact e c hc z
      · rw [if_neg z]
theorem ai_0 {G : Nat → Int} (w : wfG G) (p : Nat → Bool) : (0 ≤ aiS G p (gyN G) ∧ aiS G p (gyN G) ≤ 600) ∧ (aiS G p (gyN G) = 0 ↔ ∀ c : Nat, c < 15 → (p c && gyI G c) = false) := by
  have w2 := w.2.1
  have hn : ∀ s : Nat, s < gyN G → (s : Int) < G 57 := fun s hs => by unfold gyN at hs; omega
  have r : ∀ s : Nat, s < gyN G → 0 ≤ itcS G s p 15 ∧ itcS G s p 15 ≤ 150 := fun s hs => by
    obtain ⟨-, -, ⟨s1, s5⟩⟩ := w.2.2.2.2.1 s (hn s hs)
    exact itcS_r s1 s5 15
  have r2 : ∀ n : Nat, n ≤ gyN G → aiS G p n ≤ 150 * (n : Int) := by
    intro n
    induction n with
    | zero => intro _; exact Int.le_refl 0
    | succ n ih =>
      intro hn
      have a := ih (by omega)
      have b := r n (by omega)
      show aiS G p n + itcS G n p 15 ≤ _
      omega
  have n4 : gyN G ≤ 4 := by unfold gyN; omega
  have r3 := r2 (gyN G) (Nat.le_refl _)
  have z0 := sumc_0 (f := fun s => itcS G s p 15) (gyN G) (fun s hs => (r s hs).1)
  refine ⟨⟨z0.2, by omega⟩, z0.1.trans ?_⟩
  have one : ∀ c : Nat, c < 15 → (gyI G c = false ↔ ∀ s : Nat, s < gyN G → itv G s c = 0) := fun c hc => by
    refine (ai_it w hc).symm.trans ?_
    refine (sumc_0 (f := fun s => itcS G s (fun i => decide (i = c)) 15) (gyN G) (fun s hs => ?_)).1.trans ?_
    · obtain ⟨-, -, ⟨s1, s5⟩⟩ := w.2.2.2.2.1 s (hn s hs)
      exact (itcS_r s1 s5 15).1
    · constructor
      · intro e s hs
        have := e s hs
        rw [its_one, if_pos hc] at this
        exact this
      · intro e s hs
        rw [its_one, if_pos hc]
        exact e s hs
  constructor
  · intro e c hc
    cases hp : p c with
    | false => rfl
    | true =>
      rw [Bool.true_and]
      exact (one c hc).mpr (fun s hs => (it_0 w (hn s hs) p).mp (e s hs) c hc hp)
  · intro e s hs
    refine (it_0 w (hn s hs) p).mpr (fun c hc hp => ?_)
    have := e c hc
    rw [hp, Bool.true_and] at this
    exact (one c hc).mp this s hs
def yrT (T : Nat → Int) : Nat → Int := fun k => if k = 60 then T 60 + 1 else yrI T (gyN T) k
def tm (G T : Nat → Int) : Prop := (∀ k : Nat, 15 ≤ k → k < 62 → k ≠ 60 → T k = G k) ∧ ∀ c : Nat, c < 15 → 0 ≤ T c ∧ T c ≤ 3
theorem tm_w {G T : Nat → Int} (w : wfG G) (t : tm G T) : ∀ c : Nat, c < 15 → (0 ≤ T c ∧ T c ≤ 3) ∧ (0 ≤ T (15 + c) ∧ T (15 + c) ≤ 3) := fun c hc => ⟨t.2 c hc, by rw [t.1 (15 + c) (by omega) (by omega) (by omega)]; exact (w.1 c hc).2.1⟩
theorem tm_s {G T : Nat → Int} (w : wfG G) (t : tm G T) : tm G (yrT T) := by
  refine ⟨fun k hk k2 k6 => ?_, fun c hc => ?_⟩
  · show (if k = 60 then T 60 + 1 else yrI T (gyN T) k) = _
    rw [if_neg k6, yrI_hi _ hk]
    exact t.1 k hk k2 k6
  · show 0 ≤ (if c = 60 then T 60 + 1 else yrI T (gyN T) c) ∧ (if c = 60 then T 60 + 1 else yrI T (gyN T) c) ≤ 3
    rw [if_neg (by omega)]
    exact yrI_ra (tm_w w t) _ c hc
def rsT (G T : Nat → Int) : Bool := decide (aiS G (wr T) (gyN G) = 0)
def stR (G : Nat → Int) : Nat → (Nat → Int) → Nat → (Nat → Int) × Nat
  | 0, T, y => (T, y)
  | m + 1, T, y => if rsT G T = true then (T, y) else stR G m (yrT T) (y + 1)
theorem q_26 {h : zH} {Q : Option Value → zH → Prop} {G T : Nat → Int} (a1 : Int32) (C : CT1 h 15 G) (t : tm G T) (p : pl a1 T) (H : Q (some (.int (zbo (rsT G T = true)))) h) : zqm 26 [.ref 15, .int a1] h Q := by
  have c2 : wfG G := C.2.1
  have c7 : pl (h.1 15 4) (fun c => G (15 + c)) := C.2.2.2.2.2.2.1
  have c11 : h.1 15 8 = mkm (gyI G) 15 := C.2.2.2.2.2.2.2.2.2.2.1
  refine s_26 a1 ?_
  refine q_51 _ _ T (fun c => G (15 + c)) p c7 t.2 (fun c hc => (c2.1 c hc).2.1) ?_
  refine zri_int ?_
  rw [c11, mkm_and]
  have e : (mkm (fun c => gyI G c && !decide (T c = G (15 + c))) 15).toInt = 0 ↔ rsT G T = true := by
    unfold rsT
    rw [decide_eq_true_eq, (ai_0 c2 (wr T)).2, mkm_zero]
    constructor
    · intro z c hc
      have := z c hc
      unfold wr
      rw [t.1 (15 + c) (by omega) (by omega) (by omega), Bool.and_comm]
      exact this
    · intro z c hc
      have := z c hc
      unfold wr at this
      rw [t.1 (15 + c) (by omega) (by omega) (by omega), Bool.and_comm] at this
      exact this
  refine ⟨fun z => ?_, fun z => ?_⟩
  · rw [show zbo (rsT G T = true) = Int32.ofInt 0 from if_neg (fun y => z (e.mpr y))] at H
    exact H
  · rw [show zbo (rsT G T = true) = Int32.ofInt 1 from if_pos (e.mp (Decidable.not_not.mp z))] at H
    exact H
theorem l_102 {h : zH} {Q : Option Value → zH → Prop} {G : Nat → Int} (x1 : Int32) (C : CT1 h 15 G) (R : (Nat → Int) × Nat) (H1 : x1.toInt = 1 → Q (some (.int (mkm (wr R.1) 15))) h) (H0 : ¬ x1.toInt = 1 → rsT G R.1 = true → ∀ v : Int32, v.toInt = (R.2 : Int) → Q (some (.int v)) h) (HN : ¬ x1.toInt = 1 → ¬ rsT G R.1 = true → Q (some (.int (-1000000 : Int32))) h) : ∀ (n m y : Nat) (T : Nat → Int) (x2 x3 x4 : Int32), x3.toInt = (y : Int) → x4.toInt = (y : Int) → y + m = 40 → tm G T → pl x2 T → stR G m T y = R → zQ n 102 36 [some (.ref 0), some (.int x1), some (.int x2), some (.int x3), some (.int x4)] [] h Q
  | 0, _, _, _, _, _, _, _, _, _, _, _, _ => zQ_zero
  | n + 1, m, y, T, x2, x3, x4, e3, e4, hm, t, hp, hR => by
    have c2 : wfG G := C.2.1
    have c7 : pl (h.1 15 4) (fun c => G (15 + c)) := C.2.2.2.2.2.2.1
    have c9 : (h.1 15 6).toInt = G 57 := C.2.2.2.2.2.2.2.2.1
    have c12 := C.2.2.2.2.2.2.2.2.2.2.2.1
    have c13 := C.2.2.2.2.2.2.2.2.2.2.2.2
    have E1 : R.1 = T → zqm 51 [.int x2, .int (h.1 15 4)] h (fun rv h5 => zri rv (fun v5 => Q (some (.int v5)) h5)) ∨ ¬ x1.toInt = 1 := fun eT => by
      by_cases u : x1.toInt = 1
      · left
        refine q_51 _ _ T (fun c => G (15 + c)) hp c7 t.2 (fun c hc => (c2.1 c hc).2.1) ?_
        refine zri_int ?_
        have := H1 u
        rw [eT, mkm_congr (q := fun c => !decide (T c = G (15 + c))) (by omega) (fun c hc => by unfold wr; rw [t.1 (15 + c) (by omega) (by omega) (by omega)])] at this
        exact this
      · right; exact u
    refine s_102_36 x1 x2 x3 x4 ⟨fun d => ?_, fun d => ?_⟩
    · have : m = 0 := by omega
      subst this
      have hR : (T, y) = R := hR
      subst hR
      refine ⟨fun u => ?_, fun u => (E1 rfl).elim id (fun k => absurd k u)⟩
      refine q_26 x2 C t hp ?_
      refine zri_int ⟨fun z => HN u (zb0.mp z), fun z => H0 u (zb1.mp z) x3 e3⟩
    · obtain ⟨m', rfl⟩ : ∃ m', m = m' + 1 := ⟨m - 1, by omega⟩
      have st : stR G (m' + 1) T y = if rsT G T = true then (T, y) else stR G m' (yrT T) (y + 1) := rfl
      refine q_26 x2 C t hp ?_
      refine zri_int ⟨fun z => ?_, fun z => ?_⟩
      · have z := zb1.mp z
        rw [st, if_pos z] at hR
        subst hR
        refine ⟨fun u => ?_, fun u => (E1 rfl).elim id (fun k => absurd k u)⟩
        refine q_26 x2 C t hp ?_
        exact zri_int ⟨fun k => absurd z (zb0.mp k), fun _ => H0 u z x3 e3⟩
      · have z := zb2.mp z
        rw [st, if_neg z] at hR
        have e3' := ai (x := x3) (k := 1) (by omega) (by omega) (by omega) (by omega)
        have e4' := ai (x := x4) (k := 1) (by omega) (by omega) (by omega) (by omega)
        have hi : ∀ k : Nat, 15 ≤ k → k < 62 → k ≠ 60 → T k = G k := t.1
        refine q_28 x2 T (tm_w c2 t) (by rw [hi 57 (by omega) (by omega) (by omega)]; exact c2.2.1) (by rw [hi 57 (by omega) (by omega) (by omega)]; exact c9) hp (pl_congr c7 (fun c hc => (hi (15 + c) (by omega) (by omega) (by omega)).symm)) (fun d hd => ?_) (fun s hs => ?_) (fun v pv => ?_)
        · rw [show h.1 16 d = _ from c12 d hd]
          refine mkm_congr (by omega) (fun c hc => ?_)
          show decide (G (30 + c) = _) = decide (T (30 + c) = _)
          rw [hi (30 + c) (by omega) (by omega) (by omega)]
        · rw [hi 57 (by omega) (by omega) (by omega)] at hs
          have s4 : s < 4 := by have := c2.2.1; omega
          obtain ⟨u1, u2, -⟩ := c13 s hs
          obtain ⟨-, r, -⟩ := c2.2.2.2.2.1 s hs
          have k1 : gyK T s = gyK G s := hi _ (by omega) (by omega) (by omega)
          have k2 : gyE T s = gyE G s := hi _ (by omega) (by omega) (by omega)
          rw [k1, k2]
          exact ⟨u1, u2, r.1, r.2⟩
        · refine zri_int ?_
          refine l_102 x1 C R H1 H0 HN n m' (y + 1) (yrT T) _ _ _ (by omega) (by omega) (by omega) (tm_s c2 t) (pl_congr pv (fun c hc => ?_)) hR
          show _ = if c = 60 then T 60 + 1 else yrI T (gyN T) c
          rw [if_neg (by omega)]
theorem l_179_64 {g : zH} {Q : Option Value → zH → Prop} (H : ∀ h' : zH, (∀ q, q ≠ 67 → h'.1 q = g.1 q) → (∀ k : Nat, k < 62 → h'.1 67 k = g.1 64 k) → (∀ j : Nat, 62 ≤ j → h'.1 67 j = g.1 67 j) → Q none h') : ∀ (n k : Nat) (x3 : Int32) (h : zH), x3.toInt = (k : Int) → k ≤ 62 → (∀ q, q ≠ 67 → h.1 q = g.1 q) → (∀ j : Nat, j < k → h.1 67 j = g.1 64 j) → (∀ j : Nat, 62 ≤ j → h.1 67 j = g.1 67 j) → zQ n 179 2 [some (.ref 58), some (.ref 64), some (.ref 67), some (.int x3)] [] h Q
  | 0, _, _, _, _, _, _, _, _ => zQ_zero
  | n + 1, k, x3, h, e3, hk, f1, f2, f3 => by
    refine s_179_58_64_67_2 x3 ⟨fun d => ?_, fun d _ _ _ _ => ?_⟩
    · have : k = 62 := by omega
      subst this
      exact H h f1 f2 f3
    · have e3' := ai (x := x3) (k := 1) (by omega) (by omega) (by omega) (by omega)
      rw [show x3.toInt.toNat = k by omega]
      refine l_179_64 H n (k + 1) _ _ (by omega) (by omega) (fun q hq => ?_) (fun j hj => ?_) (fun j hj => by rw [wk_ne (Or.inr (by omega))]; exact f3 j hj)
      · rw [zs_q hq]
        exact f1 q hq
      · by_cases z : j = k
        · subst z
          rw [wk_at, f1 64 (by decide)]
        · rw [wk_ne (Or.inr z)]
          exact f2 j (by omega)
theorem q_179_64 {h : zH} {Q : Option Value → zH → Prop} (H : ∀ h' : zH, (∀ q, q ≠ 67 → h'.1 q = h.1 q) → (∀ k : Nat, k < 62 → h'.1 67 k = h.1 64 k) → (∀ j : Nat, 62 ≤ j → h'.1 67 j = h.1 67 j) → Q none h') : zqm 179 [.ref 58, .ref 64, .ref 67] h Q := s_179_58_64_67 (fun n => l_179_64 H n 0 _ h kc_0 (by omega) (fun _ _ => rfl) (fun j hj => by omega) (fun _ _ => rfl))
theorem q_166 {h : zH} {Q : Option Value → zH → Prop} (a1 : Int32) (p : Nat → Bool) (e1 : a1 = mkm p 15) (w : wfG (nowG h)) (cF : ∀ s : Nat, (s : Int) < nowG h 57 → h.1 66 s = mkm (flB (gyD (nowG h)) (gyE (nowG h) s)) 15) (cS : h.1 58 13 = mkm (smB (gyD (nowG h))) 15) (H : ∀ v : Int32, v.toInt = aiS (nowG h) p (gyN (nowG h)) → Q (some (.int v)) h) : zqm 166 [.ref 58, .int a1] h Q := s_166 a1 (fun m => l_166 a1 p e1 w cF cS H m 0 _ _ kc_0 (by have := w.2.1; omega) (by rw [kc_0]; rfl) (by decide) (by decide))
theorem l_193 {g : zH} {Q : Option Value → zH → Prop} (x1 : Int32) (w : wfG (nowG g)) (cS : g.1 58 13 = mkm (smB (gyD (nowG g))) 15) (cF : ∀ s : Nat, (s : Int) < nowG g 57 → g.1 66 s = mkm (flB (gyD (nowG g)) (gyE (nowG g) s)) 15) (R : (Nat → Int) × Nat) (H1 : x1.toInt = 1 → ∀ h' : zH, (∀ q, q ≠ 67 → h'.1 q = g.1 q) → Q (some (.int (mkm (wr R.1) 15))) h') (H0 : ¬ x1.toInt = 1 → rsT (nowG g) R.1 = true → ∀ v : Int32, v.toInt = (R.2 : Int) → ∀ h' : zH, (∀ q, q ≠ 67 → h'.1 q = g.1 q) → Q (some (.int v)) h') (HN : ¬ x1.toInt = 1 → ¬ rsT (nowG g) R.1 = true → ∀ h' : zH, (∀ q, q ≠ 67 → h'.1 q = g.1 q) → Q (some (.int (-1000000 : Int32))) h') : ∀ (n m y : Nat) (T : Nat → Int) (x2 : Int32) (h : zH), x2.toInt = (y : Int) → y + m = 40 → tm (nowG g) T → T 60 = nowG g 60 + (y : Int) → (∀ q, q ≠ 67 → h.1 q = g.1 q) → arG h 67 = T → stR (nowG g) m T y = R → zQ n 193 36 [some (.ref 58), some (.int x1), some (.int x2), none] [] h Q
  | 0, _, _, _, _, _, _, _, _, _, _, _, _ => zQ_zero
  | n + 1, m, y, T, x2, h, e2, hm, t, t60, f1, f2, hR => by
    have eN : nowG h = nowG g := funext fun k => by unfold nowG; rw [f1 64 (by decide)]
    have w' : wfG (nowG h) := by rw [eN]; exact w
    have cS' : h.1 58 13 = mkm (smB (gyD (nowG h))) 15 := by rw [eN, f1 58 (by decide)]; exact cS
    have cF' : ∀ s : Nat, (s : Int) < nowG h 57 → h.1 66 s = mkm (flB (gyD (nowG h)) (gyE (nowG h) s)) 15 := by rw [eN, f1 66 (by decide)]; exact cF
    have a0 := (ai_0 w (wr T)).1
    have rs : rsT (nowG g) T = true ↔ aiS (nowG g) (wr T) (gyN (nowG g)) = 0 := decide_eq_true_iff
    refine s_193_36 x1 x2 ?_
    refine q_156_67 ?_
    refine zri_int ?_
    rw [f2]
    refine q_166 _ (wr T) rfl w' cF' cS' (fun v ev => ?_)
    rw [eN] at ev
    refine zri_int ?_
    have EX : R = (T, y) → zqm 156 [.ref 58, .ref 67] h (fun rv h4 => zri rv (fun v4 => ((¬ x1.toInt = (1 : Int) → zqm 166 [.ref 58, .int v4] h4 (fun rv h6 => zri rv (fun v6 => ((¬ v6.toInt = 0 → Q (some (.int (-1000000 : Int32))) h6) ∧ (¬ (¬ v6.toInt = 0) → Q (some (.int x2)) h6))))) ∧ (¬ (¬ x1.toInt = (1 : Int)) → Q (some (.int v4)) h4)))) := fun eR => by
      subst eR
      refine q_156_67 ?_
      refine zri_int ?_
      rw [f2]
      refine ⟨fun u => ?_, fun u => H1 (Decidable.not_not.mp u) h f1⟩
      refine q_166 _ (wr T) rfl w' cF' cS' (fun v2 ev2 => ?_)
      rw [eN] at ev2
      exact zri_int ⟨fun z => HN u (fun k => z (ev2.trans (rs.mp k))) h f1, fun z => H0 u (rs.mpr (ev2.symm.trans (Decidable.not_not.mp z))) x2 e2 h f1⟩
    refine ⟨fun z => EX ?_, fun z => ⟨fun d => EX ?_, fun d => ?_⟩⟩
    · cases m with
      | zero => exact hR.symm
      | succ m =>
        have st : stR (nowG g) (m + 1) T y = if rsT (nowG g) T = true then (T, y) else stR (nowG g) m (yrT T) (y + 1) := rfl
        rw [st, if_pos (rs.mpr (by omega))] at hR
        exact hR.symm
    · have : m = 0 := by omega
      subst this
      exact hR.symm
    · obtain ⟨m', rfl⟩ : ∃ m', m = m' + 1 := ⟨m - 1, by omega⟩
      have st : stR (nowG g) (m' + 1) T y = if rsT (nowG g) T = true then (T, y) else stR (nowG g) m' (yrT T) (y + 1) := rfl
      rw [st, if_neg (fun k => z (by rw [ev, rs.mp k]; decide))] at hR
      have e2' := ai (x := x2) (k := 1) (by omega) (by omega) (by omega) (by omega)
      have w6 := w.2.2.2.2.2
      refine q_173_67 (by rw [f2, t.1 57 (by omega) (by omega) (by omega)]; exact w.2.1) (by rw [f2, t60]; omega) (by rw [f2, t60]; omega) (fun h' g1 g2 => ?_)
      refine l_193 x1 w cS cF R H1 H0 HN n m' (y + 1) (yrT T) _ h' (by omega) (by omega) (tm_s w t) ?_ (fun q hq => (g1 q hq).trans (f1 q hq)) (funext fun k => ?_) hR
      · show (if 60 = 60 then T 60 + 1 else _) = _
        rw [if_pos rfl, t60]
        omega
      · rw [g2 k, f2]
        rfl
theorem JC_67 {h h' : zH} (f : ∀ q, q ≠ 67 → h'.1 q = h.1 q) (hJ : JC h) : JC h' := JC_fr (fun q a b => f q (by omega)) (f 64 (by decide)) (f 66 (by decide)) (by rw [f 58 (by decide)]) hJ
def T0 (h : zH) : Nat → Int := fun k => if k < 62 then nowG h k else arG h 67 k
theorem T0_lo {h : zH} {k : Nat} (hk : k < 62) : T0 h k = nowG h k := if_pos hk
theorem pr_settled : pr2 102 193 1 JC := by
  intro as hl hv h ht hJ
  match as, hl, hv with
  | [v1], hl, hv =>
    obtain ⟨a, rfl⟩ := hv v1 (by simp)
    by_cases hs : nowG h 61 = 1
    · obtain ⟨C, cS, cF⟩ := JC_1 hJ hs
      obtain ⟨c1, c2, c3, c4, c5, c6, c7, c8, c9, c10, c11, c12, c13⟩ := id C
      obtain ⟨w1, w2, w3, w4, w5, w6⟩ := id c2
      have t0 : tm (nowG h) (T0 h) := ⟨fun k _ k2 _ => T0_lo k2, fun c hc => by rw [T0_lo (by omega)]; exact (w1 c hc).1⟩
      obtain ⟨R, hR⟩ : ∃ R, stR (nowG h) 40 (T0 h) 0 = R := ⟨_, rfl⟩
      have REF : ∀ P : Option Value → zH → Prop, (a.toInt = 1 → ∀ h' : zH, (∀ q, q ≠ 67 → h'.1 q = h.1 q) → P (some (.int (mkm (wr R.1) 15))) h') → (¬ a.toInt = 1 → rsT (nowG h) R.1 = true → ∀ v : Int32, v.toInt = (R.2 : Int) → ∀ h' : zH, (∀ q, q ≠ 67 → h'.1 q = h.1 q) → P (some (.int v)) h') → (¬ a.toInt = 1 → ¬ rsT (nowG h) R.1 = true → ∀ h' : zH, (∀ q, q ≠ 67 → h'.1 q = h.1 q) → P (some (.int (-1000000 : Int32))) h') → (¬ (0 ≤ a.toInt ∧ a.toInt ≤ 1) → P (some (.int (-1000001 : Int32))) h) → zqm 193 [.ref 58, .int a] h P := fun P k1 k0 kN kb => by
        refine s_193 a (fun n => ?_)
        refine q_150 ?_
        refine zri_int ?_
        refine ⟨fun _ => ?_, fun t => absurd hs (zb2.mp t)⟩
        refine q_121 _ _ _ ?_
        refine zri_int ?_
        rw [kc_0, kc_1]
        refine ⟨fun t => ?_, fun t => kb (zb2.mp t)⟩
        refine q_179_64 (fun h' f1 f2 f3 => ?_)
        refine l_193 a c2 cS cF R k1 k0 kN n 40 0 (T0 h) _ h' kc_0 (by omega) t0 ?_ f1 (funext fun k => ?_) hR
        · rw [T0_lo (by decide)]
          show _ = _ + (0 : Int)
          omega
        · unfold arG
          by_cases z : k < 62
          · rw [f2 k z, T0_lo z]
            rfl
          · rw [f3 k (by omega)]
            exact (if_neg z).symm
      refine s_102 a (fun n => ⟨fun _ => ?_, fun z => absurd (by rw [c3]; decide) z⟩)
      refine q_120 a ?_
      refine zri_int ?_
      refine ⟨fun y => ?_, fun y _ => ?_⟩
      · have y := zb1.mp y
        refine l_102 a C R (fun u _ => ?_) (fun u r v ev _ => ?_) (fun u r _ => ?_) n 40 0 (T0 h) _ _ _ kc_0 kc_0 (by omega) t0 (pl_congr c6 (fun c hc => (T0_lo (by omega)).symm)) hR
        · exact REF _ (fun _ h' f _ => ⟨rfl, JC_67 f hJ⟩) (fun k => absurd u k) (fun k => absurd u k) (fun k => absurd y k)
        · exact REF _ (fun k => absurd k u) (fun _ _ v' ev' h' f _ => ⟨vi (by rw [ev', ev]), JC_67 f hJ⟩) (fun _ k => absurd r k) (fun k => absurd y k)
        · exact REF _ (fun k => absurd k u) (fun _ k => absurd k r) (fun _ _ h' f _ => ⟨rfl, JC_67 f hJ⟩) (fun k => absurd y k)
      · have y := zb2.mp y
        refine s_193 a (fun n => ?_)
        refine q_150 ?_
        refine zri_int ?_
        refine ⟨fun _ => ?_, fun t => absurd hs (zb2.mp t)⟩
        refine q_121 _ _ _ ?_
        refine zri_int ?_
        rw [kc_0, kc_1]
        exact ⟨fun t => absurd (zb1.mp t) y, fun _ _ => ⟨rfl, hJ⟩⟩
    · obtain ⟨z1, z2⟩ := JC_0 hJ hs
      refine s_102 a (fun n => ⟨fun z => absurd (z2 0 (by decide)) z, fun _ _ => ?_⟩)
      refine s_193 a (fun n => ?_)
      refine q_150 ?_
      refine zri_int ?_
      exact ⟨fun z => absurd (zb1.mp z) hs, fun _ _ => ⟨rfl, hJ⟩⟩

/-! where to scratch next -/
def ab (x : Int) : Int := if 0 ≤ x then x else -x
theorem ngn : ∀ k : Nat, k < 1024 → (-(-(nI k))).toInt = (k : Int) := by decide +kernel
theorem ngm : ∀ k : Nat, k < 1024 → (-(nI k)).toInt = -(k : Int) := by decide +kernel
theorem neg_s {x : Int32} (h0 : x.toInt < 0) (h1 : -1000 ≤ x.toInt) : (-x).toInt = -x.toInt := by
  have e : x = -(nI (-x.toInt).toNat) := e10m (by rw [ngm _ (by omega)]; omega)
  have f := ngn (-x.toInt).toNat (by omega)
  rw [← e] at f
  rw [f]
  omega
theorem q_219 {h : zH} {Q : Option Value → zH → Prop} (a0 : Int32) (r : -1000 ≤ a0.toInt) (H : ∀ v : Int32, v.toInt = ab a0.toInt → Q (some (.int v)) h) : zqm 219 [.int a0] h Q := by
  unfold ab at H
  refine s_219 a0 ⟨fun z => H a0 (by rw [if_pos z]), fun z => H _ ?_⟩
  rw [if_neg z]
  exact neg_s (by omega) r
theorem q_124s {h : zH} {Q : Option Value → zH → Prop} (a0 : Int32) (r : -1000 ≤ a0.toInt) (H : ∀ v : Int32, v.toInt = ab a0.toInt → Q (some (.int v)) h) : zqm 124 [.int a0] h Q := by
  unfold ab at H
  refine s_124 a0 ⟨fun z => H a0 (by rw [if_pos z]), fun z => H _ ?_⟩
  rw [if_neg z]
  exact neg_s (by omega) r
/-- the first of the least, from a place on -/
def amR (d : Nat → Int) (c n v : Nat) : Prop := c ≤ v ∧ v < n ∧ (∀ j : Nat, c ≤ j → j < n → d v ≤ d j) ∧ ∀ j : Nat, c ≤ j → j < v → d v < d j
theorem amR_u {d : Nat → Int} {c n v u : Nat} (a : amR d c n v) (b : amR d c n u) : v = u := by
  obtain ⟨a1, a2, a3, a4⟩ := a
  obtain ⟨b1, b2, b3, b4⟩ := b
  apply Decidable.byContradiction
  intro z
  by_cases y : v < u
  · have := b4 v a1 y
    have := a3 u b1 b2
    omega
  · have := a4 u b1 (by omega)
    have := b3 v a1 a2
    omega
theorem l_36 {h : zH} {Q : Option Value → zH → Prop} (M : Int) (wc d : Nat → Int) (eM : (h.1 55 1).toInt = M) (ew : ∀ c : Nat, c < 15 → (h.1 56 c).toInt = wc c) (rM : 0 ≤ M ∧ M ≤ 300) (rw' : ∀ c : Nat, c < 15 → 0 ≤ wc c ∧ wc c ≤ 300) (hd : ∀ c : Nat, d c = ab (2 * wc c - M)) (H : ∀ (v : Nat) (x : Int32), x.toInt = (v : Int) → amR d 0 15 v → Q (some (.int x)) h) : ∀ (n m v : Nat) (x1 x2 : Int32), x2.toInt = (m : Int) → m ≤ 15 → x1.toInt = (v : Int) → amR d 0 m v → zQ n 36 14 [some (.ref 55), some (.int x1), some (.int x2)] [] h Q
  | 0, _, _, _, _, _, _, _, _ => zQ_zero
  | n + 1, m, v, x1, x2, e2, hm, e1, am => by
    have q37 : ∀ (x : Int32) (c : Nat) {P : Option Value → zH → Prop}, x.toInt = (c : Int) → c < 15 → (∀ u : Int32, u.toInt = d c → P (some (.int u)) h) → zqm 37 [.ref 55, .int x] h P := fun x c P ex hc hp => by
      have r := rw' c hc
      have e : (((Int32.ofInt 2) * (h.1 56 c)) - (h.1 55 1)).toInt = 2 * wc c - M := wk_sub (wk_mul kc_2 (ew c hc) (by omega) (by omega)) eM (by omega) (by omega)
      refine s_37 x ⟨fun z => by exfalso; omega, fun _ => ⟨fun z => by exfalso; omega, fun _ _ _ => ?_⟩⟩
      rw [show x.toInt.toNat = c by omega]
      refine q_219 _ (by omega) (fun u eu => zri_int (hp u ?_))
      rw [eu, e, hd]
    refine s_36_14 x1 x2 ⟨fun z => ?_, fun z => ?_⟩
    · have : m = 15 := by omega
      subst this
      exact H v x1 e1 am
    · obtain ⟨a1, a2, a3, a4⟩ := am
      have e2' := ai (x := x2) (k := 1) (by omega) (by omega) (by omega) (by omega)
      refine q37 x2 m e2 (by omega) (fun u2 eu2 => ?_)
      refine zri_int ?_
      refine q37 x1 v e1 (by omega) (fun u3 eu3 => ?_)
      refine zri_int ⟨fun y => ?_, fun y => ?_⟩
      · refine l_36 M wc d eM ew rM rw' hd H n (m + 1) v _ _ (by omega) (by omega) e1 ⟨by omega, by omega, fun j j0 j1 => ?_, a4⟩
        by_cases w : j = m
        · subst w; omega
        · exact a3 j j0 (by omega)
      · refine l_36 M wc d eM ew rM rw' hd H n (m + 1) m _ _ (by omega) (by omega) e2 ⟨by omega, by omega, fun j j0 j1 => ?_, fun j j0 j1 => ?_⟩
        · by_cases w : j = m
          · subst w; omega
          · have := a3 j j0 (by omega)
            omega
        · have := a3 j j0 j1
          omega
theorem q_36 {h : zH} {Q : Option Value → zH → Prop} (M : Int) (wc d : Nat → Int) (eM : (h.1 55 1).toInt = M) (ew : ∀ c : Nat, c < 15 → (h.1 56 c).toInt = wc c) (rM : 0 ≤ M ∧ M ≤ 300) (rw' : ∀ c : Nat, c < 15 → 0 ≤ wc c ∧ wc c ≤ 300) (hd : ∀ c : Nat, d c = ab (2 * wc c - M)) (H0 : M = 0 → Q (some (.int (-1000000 : Int32))) h) (H : ¬ M = 0 → ∀ (v : Nat) (x : Int32), x.toInt = (v : Int) → amR d 0 15 v → Q (some (.int x)) h) : zqm 36 [.ref 55] h Q := by
  refine s_36 (fun n => ⟨fun z => ?_, fun z => H0 (by omega)⟩)
  refine l_36 M wc d eM ew rM rw' hd (H (by omega)) n 1 0 _ _ kc_1 (by omega) kc_0 ⟨by omega, by omega, fun j j0 j1 => ?_, fun j j0 j1 => by omega⟩
  have : j = 0 := by omega
  subst this
  exact Int.le_refl _
theorem l_190 {h : zH} {Q : Option Value → zH → Prop} (x1 x2 x3 : Int32) (M : Int) (wc d : Nat → Int) (eM : (h.1 58 19).toInt = M) (ew : ∀ c : Nat, c < 15 → (h.1 70 c).toInt = wc c) (rM : 0 ≤ M ∧ M ≤ 300) (rw' : ∀ c : Nat, c < 15 → 0 ≤ wc c ∧ wc c ≤ 300) (hd : ∀ c : Nat, d c = ab (2 * wc c - M)) (H0 : M = 0 → Q (some (.int (-1000000 : Int32))) h) (H : ¬ M = 0 → ∀ (v : Nat) (x : Int32), x.toInt = (v : Int) → amR d 0 15 v → Q (some (.int x)) h) : ∀ (n c : Nat) (x4 x5 : Int32), x5.toInt = (c : Int) - 1 → c ≤ 15 → (c = 15 ∧ x4 = (-1000000 : Int32)) ∨ (¬ M = 0 ∧ ∃ v : Nat, x4.toInt = (v : Int) ∧ amR d c 15 v) → zQ n 190 43 [some (.ref 58), some (.int x1), some (.int x2), some (.int x3), some (.int x4), some (.int x5)] [] h Q
  | 0, _, _, _, _, _, _ => zQ_zero
  | n + 1, c, x4, x5, e5, hc, hst => by
    have cN : (-1000000 : Int32).toInt = -1000000 := by decide
    have e5' : ¬ x5.toInt < 0 → (x5 + Int32.ofInt (-1)).toInt = ((c - 1 : Nat) : Int) - 1 := fun z => by
      rw [ai (by omega) (by omega) (by omega) (by omega)]
      omega
    refine s_190_43 x1 x2 x3 x4 x5 ⟨fun z => ?_, fun z => ⟨fun y => ?_, fun y => ⟨fun w => ?_, fun w _ _ => ?_⟩⟩⟩
    · rcases hst with ⟨s1, s2⟩ | ⟨s0, v, s1, s2⟩
      · omega
      · have : c = 0 := by omega
        subst this
        exact H s0 v x4 s1 s2
    · rcases hst with ⟨s1, s2⟩ | ⟨s0, v, s1, s2⟩
      · rw [s2]
        exact H0 (by omega)
      · omega
    · rcases hst with ⟨s1, s2⟩ | ⟨s0, v, s1, s2⟩
      · refine l_190 x1 x2 x3 M wc d eM ew rM rw' hd H0 H n (c - 1) _ _ (e5' z) (by omega) (Or.inr ⟨by omega, c - 1, by omega, by omega, by omega, fun j j0 j1 => ?_, fun j j0 j1 => by omega⟩)
        have : j = c - 1 := by omega
        subst this
        exact Int.le_refl _
      · omega
    · rcases hst with ⟨s1, s2⟩ | ⟨s0, v, s1, a1, a2, a3, a4⟩
      · rw [s2] at w
        exact absurd cN w
      · have eq : ∀ (x : Int32) (k : Nat), x.toInt = (k : Int) → k < 15 → (((Int32.ofInt 2) * (h.1 70 x.toInt.toNat)) - (h.1 58 19)).toInt = 2 * wc k - M := fun x k ex hk => by
          have r := rw' k hk
          rw [show x.toInt.toNat = k by omega]
          exact wk_sub (wk_mul kc_2 (ew k hk) (by omega) (by omega)) eM (by omega) (by omega)
        have q5 := eq x5 (c - 1) (by omega) (by omega)
        have q4 := eq x4 v s1 (by omega)
        have r5 := rw' (c - 1) (by omega)
        have r4 := rw' v (by omega)
        refine q_124s _ (by omega) (fun v5 ev5 => ?_)
        refine zri_int (fun _ _ => ?_)
        refine q_124s _ (by omega) (fun v7 ev7 => ?_)
        rw [q5, ← hd] at ev5
        rw [q4, ← hd] at ev7
        refine zri_int ⟨fun u => ?_, fun u => ?_⟩
        · refine l_190 x1 x2 x3 M wc d eM ew rM rw' hd H0 H n (c - 1) _ _ (e5' z) (by omega) (Or.inr ⟨s0, v, s1, by omega, a2, fun j j0 j1 => ?_, fun j j0 j1 => ?_⟩)
          · by_cases t : j = c - 1
            · subst t; omega
            · exact a3 j (by omega) j1
          · by_cases t : j = c - 1
            · subst t; omega
            · exact a4 j (by omega) j1
        · refine l_190 x1 x2 x3 M wc d eM ew rM rw' hd H0 H n (c - 1) _ _ (e5' z) (by omega) (Or.inr ⟨s0, c - 1, by omega, by omega, by omega, fun j j0 j1 => ?_, fun j j0 j1 => by omega⟩)
          by_cases t : j = c - 1
          · subst t
            exact Int.le_refl _
          · have := a3 j (by omega) j1
            omega
theorem scratch_ok (h : zH) (a b : Int32) (ht : hTy h) (hJ : JC h) (hR : JR h) : zqm 99 [.ref 0, .int a, .int b] h (fun rv h1 => zqm 190 [.ref 58, .int a, .int b] h1 (fun rv' h2 => rv' = rv ∧ nrB h h2 ∧ (JS h → JS h2))) := by
  by_cases hs : nowG h 61 = 1
  · obtain ⟨C, cS, cF⟩ := JC_1 hJ hs
    obtain ⟨c1, c2, c3, c4, c5, c6, c7, c8, c9, c10, c11, c12, c13⟩ := id C
    obtain ⟨w1, w2, w3, w4, w5, w6⟩ := id c2
    obtain ⟨K, eK⟩ : ∃ K : Nat, nowG h 57 = (K : Int) := ⟨(nowG h 57).toNat, by omega⟩
    have hz := tSz ht a.toInt.toNat
    have REF : ∀ (g : zH) (P : Option Value → zH → Prop), (∀ q, q ≠ 0 → q ≠ 55 → q ≠ 56 → q ≠ 57 → g.1 q = h.1 q) → (¬ (0 ≤ a.toInt ∧ a.toInt < 8) → P (some (.int (-1000001 : Int32))) g) → ((0 ≤ a.toInt ∧ a.toInt < 8) → (h.1 59 a.toInt.toNat).toInt < 0 → P (some (.int ((-1000010 : Int32) - (Int32.ofInt 1)))) (zSet g 58 3 (Int32.ofInt 1))) → ((0 ≤ a.toInt ∧ a.toInt < 8) → 0 ≤ (h.1 59 a.toInt.toNat).toInt → ¬ (0 ≤ b.toInt ∧ b.toInt + (K : Int) ≤ (h.1 60 a.toInt.toNat).toInt) → P (some (.int ((-1000010 : Int32) - (Int32.ofInt 2)))) (zSet g 58 3 (Int32.ofInt 2))) → ((0 ≤ a.toInt ∧ a.toInt < 8) → 0 ≤ (h.1 59 a.toInt.toNat).toInt → (0 ≤ b.toInt ∧ b.toInt + (K : Int) ≤ (h.1 60 a.toInt.toNat).toInt) → ∀ (n : Nat) (h6 : zH), fsB h6 (zSet (zSet g 58 18 ((Int32.ofInt 40) * a + b)) 58 3 (Int32.ofInt 0)) (fun k => mkB (nowG h) K (fun k => (h.1 (3 + a.toInt.toNat) (b.toInt.toNat + k)).toInt) (fun i => k.testBit i)) (fltL 32768) → zQ n 190 43 [some (.ref 58), some (.int a), some (.int b), some (.int (Int32.ofInt 0)), some (.int (-1000000 : Int32)), some (.int (Int32.ofInt 14))] [] h6 P) → zqm 190 [.ref 58, .int a, .int b] g P := fun g P f kB k1 k2 k0 => by
      have eN : nowG g = nowG h := funext fun k => by unfold nowG; rw [f 64 (by decide) (by decide) (by decide) (by decide)]
      have g59 := f 59 (by decide) (by decide) (by decide) (by decide)
      have g60 := f 60 (by decide) (by decide) (by decide) (by decide)
      refine s_190 a b (fun n => ?_)
      refine q_150 ?_
      rw [eN]
      refine zri_int ⟨fun _ => ?_, fun t => absurd hs (zb2.mp t)⟩
      refine tell_r a b _ _ K (by rw [g60]; omega) (by rw [f 64 (by decide) (by decide) (by decide) (by decide)]; exact eK) (fun z => kB (z.resolve_right (by decide))) (fun z _ y => k1 z (by rw [g59] at y; exact y)) (fun z _ y x => k2 z (by rw [g59] at y; exact y) (by rw [g60] at x; exact x)) (fun z _ y x => ?_)
      rw [g59] at y
      rw [g60] at x
      obtain ⟨tB, eN2⟩ := td_B (a := a) (b := b) ht c2 cS cF eK hR f z y x
      refine q_188 tB (fun h6 f6 => ?_)
      rw [eN2] at f6
      exact k0 z y x n h6 f6
    have TR := fun z => told_r (a1 := a) hR z
    refine s_99 a b ?_
    refine tell_c (Q := fun rv h1 => zqm 190 [.ref 58, .int a, .int b] h1 (fun rv' h2 => rv' = rv ∧ nrB h h2 ∧ (JS h → JS h2))) a b _ K ht (by rw [c9]; exact eK) (by omega) (by rw [c3]; decide) (fun z => ?_) (fun z y => ?_) (fun z y x => ?_) (fun z y x h' f1 f2 => ?_)
    · refine REF h _ (fun _ _ _ _ _ => rfl) (fun _ => ⟨rfl, nrB_0 h, id⟩) (fun t => ?_) (fun t => ?_) (fun t => ?_)
      all_goals exact absurd ⟨t, by decide, by decide⟩ z
    · have T := TR z.1
      refine REF _ _ (fun q q0 _ _ _ => zs_q q0) (fun t => absurd z.1 t) (fun _ _ => ⟨rfl, nrB_s h _ _, fun _ => JS_s h _⟩) (fun _ t => ?_) (fun _ t => ?_)
      all_goals (exfalso; omega)
    · have T := TR z.1
      have T2 := T.2 (by omega)
      refine REF _ _ (fun q q0 _ _ _ => zs_q q0) (fun t => absurd z.1 t) (fun _ t => ?_) (fun _ _ _ => ⟨rfl, nrB_s h _ _, fun _ => JS_s h _⟩) (fun _ _ t => ?_)
      · exfalso; omega
      · exfalso; omega
    · have T := TR z.1
      have T2 := T.2 (by omega)
      have tA : tdA h' (nowG h) K (fun k => (h.1 (3 + a.toInt.toNat) (b.toInt.toNat + k)).toInt) := ⟨C1_fr (fun q q1 q2 => f1 q (by omega)) C, eK, fun k hk => by rw [f2 k hk]⟩
      refine q_33 tA (fun h4 fa => ?_)
      have l300 := allL_l (a := 15)
      have bd : ∀ p : Nat → Bool, (allL 15).countP p ≤ 300 := fun p => by have := cPl (p := p) (L := allL 15); omega
      have bM := bd (fun k => mkB (nowG h) K (fun k => (h.1 (3 + a.toInt.toNat) (b.toInt.toNat + k)).toInt) (fun i => k.testBit i))
      have rM : 0 ≤ (h4.1 55 1).toInt ∧ (h4.1 55 1).toInt ≤ 300 := by rw [fa.2.1]; omega
      have rC : ∀ c : Nat, c < 15 → 0 ≤ (h4.1 56 c).toInt ∧ (h4.1 56 c).toInt ≤ 300 := fun c hc => by
        rw [fa.2.2.1 c hc]
        exact ⟨Int.natCast_nonneg _, Int.ofNat_le.mpr (bd _)⟩
      have gf : ∀ q, q ≠ 0 → q ≠ 55 → q ≠ 56 → q ≠ 57 → (zSet h4 0 11 (Int32.ofInt 0)).1 q = h.1 q := fun q q0 q5 q6 q7 => by rw [zs_q q0, fa.1 q q5 q6]; exact f1 q q7
      refine q_36 (h4.1 55 1).toInt (fun c => (h4.1 56 c).toInt) (fun c => ab (2 * (h4.1 56 c).toInt - (h4.1 55 1).toInt)) rfl (fun _ _ => rfl) rM rC (fun _ => rfl) (fun m0 => ?_) (fun m0 v x4 ex am => ?_)
      · refine zri_int (q_115 _ (zri_int ?_))
        refine REF _ _ gf (fun t => absurd z.1 t) (fun _ t => ?_) (fun _ _ t => ?_) (fun _ _ _ n h6 fb => ?_)
        · exfalso; omega
        · exfalso; omega
        · obtain ⟨e19, -, e70⟩ := fs_eq fa fb
          refine l_190 a b _ (h4.1 55 1).toInt (fun c => (h4.1 56 c).toInt) (fun c => ab (2 * (h4.1 56 c).toInt - (h4.1 55 1).toInt)) e19 e70 rM rC (fun _ => rfl) (fun _ => ⟨rfl, (fs_nr f1 fa fb).1, fun _ => (fs_nr f1 fa fb).2⟩) (fun t => absurd m0 t) n 15 _ _ (by decide) (by omega) (Or.inl ⟨rfl, rfl⟩)
      · refine zri_int (q_115 _ (zri_int ?_))
        refine REF _ _ gf (fun t => absurd z.1 t) (fun _ t => ?_) (fun _ _ t => ?_) (fun _ _ _ n h6 fb => ?_)
        · exfalso; omega
        · exfalso; omega
        · obtain ⟨e19, -, e70⟩ := fs_eq fa fb
          refine l_190 a b _ (h4.1 55 1).toInt (fun c => (h4.1 56 c).toInt) (fun c => ab (2 * (h4.1 56 c).toInt - (h4.1 55 1).toInt)) e19 e70 rM rC (fun _ => rfl) (fun t => absurd t m0) (fun _ u xu eu am2 => ⟨vi (by rw [eu, ex, amR_u am am2]), (fs_nr f1 fa fb).1, fun _ => (fs_nr f1 fa fb).2⟩) n 15 _ _ (by decide) (by omega) (Or.inl ⟨rfl, rfl⟩)
  · obtain ⟨z1, z2⟩ := JC_0 hJ hs
    refine s_99 a b ?_
    refine q_117 a b _ ht (fun _ => zri_int ⟨fun y => absurd y (by decide), fun _ => ?_⟩) (fun z => absurd (z2 0 (by decide)) z) (fun z => absurd (z2 0 (by decide)) z) (fun z => absurd (z2 0 (by decide)) z) (fun z => absurd (z2 0 (by decide)) z)
    refine s_190 a b (fun n => ?_)
    refine q_150 ?_
    exact zri_int ⟨fun z => absurd (zb1.mp z) hs, fun _ => ⟨rfl, nrB_0 h, id⟩⟩
theorem pr_scratch : pr2 99 190 2 JCR := by
  intro as hl hv h ht hJ
  match as, hl, hv with
  | [v1, v2], hl, hv =>
    obtain ⟨a, rfl⟩ := hv v1 (by simp)
    obtain ⟨b, rfl⟩ := hv v2 (by simp)
    exact zqm_imp (scratch_ok h a b ht hJ.1 hJ.2) (fun rv h1 k _ => zqm_imp k (fun rv' h2 k2 _ => ⟨k2.1, nrB_J k2.2.1 hJ⟩))

/-! each; what is common to questions over told itches -/
theorem tell_c {h : zH} {Q : Option Value → zH → Prop} {X : Int32 → zH → Prop} (a1 a2 a3 : Int32) (K : Nat) (ht : hTy h) (hK : (h.1 15 6).toInt = (K : Int)) (K4 : K ≤ 4) (hs : ¬ (h.1 15 0).toInt = 0) (kB : ¬ ((0 ≤ a1.toInt ∧ a1.toInt < 8) ∧ 0 ≤ a3.toInt ∧ a3.toInt ≤ 1) → Q (some (.int (-1000001 : Int32))) h) (k1 : ((0 ≤ a1.toInt ∧ a1.toInt < 8) ∧ 0 ≤ a3.toInt ∧ a3.toInt ≤ 1) → (h.1 12 a1.toInt.toNat).toInt < 0 → Q (some (.int ((-1000010 : Int32) - (Int32.ofInt 1)))) (zSet h 0 11 (Int32.ofInt 1))) (k2 : ((0 ≤ a1.toInt ∧ a1.toInt < 8) ∧ 0 ≤ a3.toInt ∧ a3.toInt ≤ 1) → 0 ≤ (h.1 12 a1.toInt.toNat).toInt → ¬ (0 ≤ a2.toInt ∧ a2.toInt + (K : Int) ≤ (h.1 12 a1.toInt.toNat).toInt) → Q (some (.int ((-1000010 : Int32) - (Int32.ofInt 2)))) (zSet h 0 11 (Int32.ofInt 2))) (k0 : ((0 ≤ a1.toInt ∧ a1.toInt < 8) ∧ 0 ≤ a3.toInt ∧ a3.toInt ≤ 1) → 0 ≤ (h.1 12 a1.toInt.toNat).toInt → (0 ≤ a2.toInt ∧ a2.toInt + (K : Int) ≤ (h.1 12 a1.toInt.toNat).toInt) → ∀ h' : zH, (∀ q, q ≠ 57 → h'.1 q = h.1 q) → (∀ k : Nat, k < K → h'.1 57 k = h.1 (3 + a1.toInt.toNat) (a2.toInt.toNat + k)) → X (Int32.ofInt 0) h') : zqm 117 [.ref 0, .int a1, .int a2, .int a3] h (fun rv h1 => zri rv (fun v1 => ((v1.toInt = 0 → zqm 118 [.ref 0, .int a1, .int a2, .int (h1.1 15 6)] h1 (fun _ h3 => X v1 h3)) ∧ (¬ (v1.toInt = 0) → Q (some (.int v1)) h1)))) := by
  refine q_117 a1 a2 a3 ht (fun z => absurd z hs) (fun _ z => zri_int ⟨fun y => absurd y (by decide), fun _ => kB z⟩) (fun _ z y => zri_int ⟨fun x => absurd x (by decide), fun _ => k1 z y⟩) (fun _ z y x => zri_int ⟨fun w => absurd w (by decide), fun _ => k2 z y (fun w => x ?_)⟩) (fun _ z y x => zri_int ⟨fun _ => ?_, fun w => absurd kc_0 w⟩)
  · rw [hK]
    omega
  · rw [hK] at x
    have hl4 := tLe ht a1.toInt.toNat
    refine s_118 a1 a2 _ (fun n => l_118 a1 a2 _ a1.toInt.toNat a2.toInt.toNat K (by omega) (by omega) (by omega) hK (by omega) hl4 (fun h' f1 f2 => k0 z y ⟨by omega, by omega⟩ h' f1 (fun k hk => f2 k hk (by omega))) n 0 _ h kc_0 (by omega) (fun _ _ => rfl) (fun j hj => by omega))
theorem tell_r {g : zH} {Q : Option Value → zH → Prop} {Y : Int32 → zH → Prop} (a1 a2 a3 a4 : Int32) (K : Nat) (hz : (g.1 60 a1.toInt.toNat).toInt ≤ 40) (hK : a4.toInt = (K : Int)) (kB : ¬ (0 ≤ a1.toInt ∧ a1.toInt < 8) ∨ a3.toInt = 0 → Q (some (.int (-1000001 : Int32))) g) (k1 : (0 ≤ a1.toInt ∧ a1.toInt < 8) → ¬ a3.toInt = 0 → (g.1 59 a1.toInt.toNat).toInt < 0 → Q (some (.int ((-1000010 : Int32) - (Int32.ofInt 1)))) (zSet g 58 3 (Int32.ofInt 1))) (k2 : (0 ≤ a1.toInt ∧ a1.toInt < 8) → ¬ a3.toInt = 0 → 0 ≤ (g.1 59 a1.toInt.toNat).toInt → ¬ (0 ≤ a2.toInt ∧ a2.toInt + (K : Int) ≤ (g.1 60 a1.toInt.toNat).toInt) → Q (some (.int ((-1000010 : Int32) - (Int32.ofInt 2)))) (zSet g 58 3 (Int32.ofInt 2))) (k0 : (0 ≤ a1.toInt ∧ a1.toInt < 8) → ¬ a3.toInt = 0 → 0 ≤ (g.1 59 a1.toInt.toNat).toInt → (0 ≤ a2.toInt ∧ a2.toInt + (K : Int) ≤ (g.1 60 a1.toInt.toNat).toInt) → Y (Int32.ofInt 0) (zSet (zSet g 58 18 ((Int32.ofInt 40) * a1 + a2)) 58 3 (Int32.ofInt 0))) : zqm 186 [.ref 58, .int a1, .int a2, .int a3, .int a4] g (fun rv h3 => zri rv (fun v3 => ((0 ≤ v3.toInt → Y v3 h3) ∧ (¬ (0 ≤ v3.toInt) → Q (some (.int v3)) h3)))) := by
  refine q_186 a1 a2 a3 a4 hz (fun z => zri_int ⟨fun y => absurd y (by decide), fun _ => kB z⟩) (fun z y x => zri_int ⟨fun w => absurd w (by decide), fun _ => k1 z y x⟩) (fun z y x w => zri_int ⟨fun v => absurd v (by decide), fun _ => k2 z y (by omega) (fun v => w (by omega))⟩) (fun z y x w => zri_int ⟨fun _ => k0 z y (by omega) (by omega), fun v => absurd (by decide) v⟩)
/-- a question over told itches, and what answers it, on both sides -/
theorem each_ok (h : zH) (a b : Int32) (ht : hTy h) (hJ : JC h) (hR : JR h) : zqm 97 [.ref 0, .int a, .int b] h (fun rv h1 => zqm 187 [.ref 58, .int a, .int b] h1 (fun rv' h2 => rv' = rv ∧ nrB h h2 ∧ (JS h → JS h2))) := by
  by_cases hs : nowG h 61 = 1
  · obtain ⟨C, cS, cF⟩ := JC_1 hJ hs
    obtain ⟨c1, c2, c3, c4, c5, c6, c7, c8, c9, c10, c11, c12, c13⟩ := id C
    obtain ⟨w1, w2, w3, w4, w5, w6⟩ := id c2
    obtain ⟨K, eK⟩ : ∃ K : Nat, nowG h 57 = (K : Int) := ⟨(nowG h 57).toNat, by omega⟩
    have hz := tSz ht a.toInt.toNat
    have REF : ∀ (g : zH) (P : Option Value → zH → Prop), (∀ q, q ≠ 0 → q ≠ 57 → g.1 q = h.1 q) → (¬ (0 ≤ a.toInt ∧ a.toInt < 8) → P (some (.int (-1000001 : Int32))) g) → ((0 ≤ a.toInt ∧ a.toInt < 8) → (h.1 59 a.toInt.toNat).toInt < 0 → P (some (.int ((-1000010 : Int32) - (Int32.ofInt 1)))) (zSet g 58 3 (Int32.ofInt 1))) → ((0 ≤ a.toInt ∧ a.toInt < 8) → 0 ≤ (h.1 59 a.toInt.toNat).toInt → ¬ (0 ≤ b.toInt ∧ b.toInt + (K : Int) ≤ (h.1 60 a.toInt.toNat).toInt) → P (some (.int ((-1000010 : Int32) - (Int32.ofInt 2)))) (zSet g 58 3 (Int32.ofInt 2))) → ((0 ≤ a.toInt ∧ a.toInt < 8) → 0 ≤ (h.1 59 a.toInt.toNat).toInt → (0 ≤ b.toInt ∧ b.toInt + (K : Int) ≤ (h.1 60 a.toInt.toNat).toInt) → P (some (.int (mkm (fun c => mkB (nowG h) K (fun k => (h.1 (3 + a.toInt.toNat) (b.toInt.toNat + k)).toInt) (fun i => decide (i = c))) 15))) (zSet (zSet g 58 18 ((Int32.ofInt 40) * a + b)) 58 3 (Int32.ofInt 0))) → zqm 187 [.ref 58, .int a, .int b] g P := fun g P f kB k1 k2 k0 => by
      have eN : nowG g = nowG h := funext fun k => by unfold nowG; rw [f 64 (by decide) (by decide)]
      have g59 := f 59 (by decide) (by decide)
      have g60 := f 60 (by decide) (by decide)
      refine s_187 a b (fun n => ?_)
      refine q_150 ?_
      rw [eN]
      refine zri_int ⟨fun _ => ?_, fun t => absurd hs (zb2.mp t)⟩
      refine tell_r a b _ _ K (by rw [g60]; omega) (by rw [f 64 (by decide) (by decide)]; exact eK) (fun z => kB (z.resolve_right (by decide))) (fun z _ y => k1 z (by rw [g59] at y; exact y)) (fun z _ y x => k2 z (by rw [g59] at y; exact y) (by rw [g60] at x; exact x)) (fun z _ y x => ?_)
      rw [g59] at y
      rw [g60] at x
      have hA := (hR a.toInt.toNat (by omega)).2 y
      have e18 : ((Int32.ofInt 40) * a + b).toInt = 40 * a.toInt + b.toInt := i40 (by omega) (by omega) (by omega) (by omega)
      have q2 : ∀ q, q ≠ 0 → q ≠ 57 → q ≠ 58 → (zSet (zSet g 58 18 ((Int32.ofInt 40) * a + b)) 58 3 (Int32.ofInt 0)).1 q = h.1 q := fun q q0 q7 q8 => by rw [zs_q q8, zs_q q8]; exact f q q0 q7
      have eN2 : nowG (zSet (zSet g 58 18 ((Int32.ofInt 40) * a + b)) 58 3 (Int32.ofInt 0)) = nowG h := funext fun k => by unfold nowG; rw [q2 64 (by decide) (by decide) (by decide)]
      have e13 : (zSet (zSet g 58 18 ((Int32.ofInt 40) * a + b)) 58 3 (Int32.ofInt 0)).1 58 13 = h.1 58 13 := by rw [wk_ne (Or.inr (by decide)), wk_ne (Or.inr (by decide)), f 58 (by decide) (by decide)]
      refine l_187 a b _ K (40 * a.toInt.toNat + b.toInt.toNat) (fun k => (h.1 (3 + a.toInt.toNat) (b.toInt.toNat + k)).toInt) (by rw [eN2]; exact c2) (by rw [eN2, e13]; exact cS) (by rw [eN2, q2 66 (by decide) (by decide) (by decide)]; exact cF) (by rw [eN2]; exact eK) (by rw [wk_ne (Or.inr (by decide)), wk_at, e18]; omega) (by omega) (fun k hk => ?_) (by rw [eN2]; exact k0 z y x) n 0 _ _ kc_0 (by omega) rfl
      rw [q2 61 (by decide) (by decide) (by decide), hA.2.2 (b.toInt.toNat + k) (by omega)]
      exact congrArg (fun j => (h.1 61 j).toInt) (by omega)
    have TR := fun z => told_r (a1 := a) hR z
    refine s_97 a b (fun n => ?_)
    refine tell_c (Q := fun rv h1 => zqm 187 [.ref 58, .int a, .int b] h1 (fun rv' h2 => rv' = rv ∧ nrB h h2 ∧ (JS h → JS h2))) a b _ K ht (by rw [c9]; exact eK) (by omega) (by rw [c3]; decide) (fun z => ?_) (fun z y => ?_) (fun z y x => ?_) (fun z y x h' f1 f2 => ?_)
    · refine REF h _ (fun _ _ _ => rfl) (fun _ => ⟨rfl, nrB_0 h, id⟩) (fun t => ?_) (fun t => ?_) (fun t => ?_)
      all_goals exact absurd ⟨t, by decide, by decide⟩ z
    · have T := TR z.1
      refine REF _ _ (fun q q0 _ => zs_q q0) (fun t => absurd z.1 t) (fun _ _ => ⟨rfl, nrB_s h _ _, fun _ => JS_s h _⟩) (fun _ t => ?_) (fun _ t => ?_)
      all_goals (exfalso; omega)
    · have T := TR z.1
      have T2 := T.2 (by omega)
      refine REF _ _ (fun q q0 _ => zs_q q0) (fun t => absurd z.1 t) (fun _ t => ?_) (fun _ _ _ => ⟨rfl, nrB_s h _ _, fun _ => JS_s h _⟩) (fun _ _ t => ?_)
      · exfalso; omega
      · exfalso; omega
    · have T := TR z.1
      have T2 := T.2 (by omega)
      refine l_97 a b _ K (fun k => (h.1 (3 + a.toInt.toNat) (b.toInt.toNat + k)).toInt) (C1_fr (fun q q1 q2 => f1 q (by omega)) C) eK (fun k hk => by rw [f2 k hk]) ?_ n 0 _ _ kc_0 (by omega) rfl
      refine REF _ _ (fun q q0 q7 => by rw [zs_q q0]; exact f1 q q7) (fun t => absurd z.1 t) (fun _ t => ?_) (fun _ _ t => ?_) (fun _ _ _ => ⟨rfl, ⟨fun q q0 _ _ q7 q8 _ => ?_, ?_⟩, fun _ => ?_⟩)
      · exfalso; omega
      · exfalso; omega
      · rw [zs_q q8, zs_q q8, zs_q q0]
        exact f1 q q7
      · rw [wk_ne (Or.inr (by decide)), wk_ne (Or.inr (by decide)), zs_q (by decide), f1 58 (by decide)]
      · unfold JS
        rw [wk_at, zs_q (by decide), zs_q (by decide), wk_at]
  · obtain ⟨z1, z2⟩ := JC_0 hJ hs
    refine s_97 a b (fun n => ?_)
    refine q_117 a b _ ht (fun _ => zri_int ⟨fun y => absurd y (by decide), fun _ => ?_⟩) (fun z => absurd (z2 0 (by decide)) z) (fun z => absurd (z2 0 (by decide)) z) (fun z => absurd (z2 0 (by decide)) z) (fun z => absurd (z2 0 (by decide)) z)
    refine s_187 a b (fun n => ?_)
    refine q_150 ?_
    exact zri_int ⟨fun z => absurd (zb1.mp z) hs, fun _ => ⟨rfl, nrB_0 h, id⟩⟩
theorem pr_each : pr2 97 187 2 JCR := by
  intro as hl hv h ht hJ
  match as, hl, hv with
  | [v1, v2], hl, hv =>
    obtain ⟨a, rfl⟩ := hv v1 (by simp)
    obtain ⟨b, rfl⟩ := hv v2 (by simp)
    exact zqm_imp (each_ok h a b ht hJ.1 hJ.2) (fun rv h1 k _ => zqm_imp k (fun rv' h2 k2 _ => ⟨k2.1, nrB_J k2.2.1 hJ⟩))

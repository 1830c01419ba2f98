/-! quarrels, on both sides -/
theorem quarrel_ok (h : zH) (a b w : Int32) (ht : hTy h) (hR : JR h) : zqm 104 [.ref 0, .int a, .int b, .int w] h (fun rv h1 => zqm 196 [.ref 58, .int a, .int b, .int w] h1 (fun rv' h2 => rv' = rv ∧ nrB h h2 ∧ (JS h → JS h2))) := by
  have hz := tSz ht a.toInt.toNat
  have k4 : (Int32.ofInt 4).toInt = ((4 : Nat) : Int) := by decide
  have REF : ∀ (g : zH) (P : Option Value → zH → Prop), (∀ q, q ≠ 0 → q ≠ 57 → g.1 q = h.1 q) → (¬ ((0 ≤ a.toInt ∧ a.toInt < 8) ∧ 0 ≤ w.toInt ∧ w.toInt ≤ 1) → P (some (.int (-1000001 : Int32))) g) → ((0 ≤ a.toInt ∧ a.toInt < 8) → (0 ≤ w.toInt ∧ w.toInt ≤ 1) → (h.1 59 a.toInt.toNat).toInt < 0 → P (some (.int ((-1000010 : Int32) - (Int32.ofInt 1)))) (zSet g 58 3 (Int32.ofInt 1))) → ((0 ≤ a.toInt ∧ a.toInt < 8) → (0 ≤ w.toInt ∧ w.toInt ≤ 1) → 0 ≤ (h.1 59 a.toInt.toNat).toInt → ¬ (0 ≤ b.toInt ∧ b.toInt + ((4 : Nat) : Int) ≤ (h.1 60 a.toInt.toNat).toInt) → P (some (.int ((-1000010 : Int32) - (Int32.ofInt 2)))) (zSet g 58 3 (Int32.ofInt 2))) → ((0 ≤ a.toInt ∧ a.toInt < 8) → (0 ≤ w.toInt ∧ w.toInt ≤ 1) → 0 ≤ (h.1 59 a.toInt.toNat).toInt → (0 ≤ b.toInt ∧ b.toInt + ((4 : Nat) : Int) ≤ (h.1 60 a.toInt.toNat).toInt) → (¬ ∀ k : Nat, k < 4 → -20 ≤ (h.1 (3 + a.toInt.toNat) (b.toInt.toNat + k)).toInt ∧ (h.1 (3 + a.toInt.toNat) (b.toInt.toNat + k)).toInt ≤ 20) → P (some (.int (-1000001 : Int32))) (zSet (zSet (zSet g 58 18 ((Int32.ofInt 40) * a + b)) 58 3 (Int32.ofInt 0)) 58 3 (g.1 58 3))) → ((0 ≤ a.toInt ∧ a.toInt < 8) → (0 ≤ w.toInt ∧ w.toInt ≤ 1) → 0 ≤ (h.1 59 a.toInt.toNat).toInt → (0 ≤ b.toInt ∧ b.toInt + ((4 : Nat) : Int) ≤ (h.1 60 a.toInt.toNat).toInt) → (∀ k : Nat, k < 4 → -20 ≤ (h.1 (3 + a.toInt.toNat) (b.toInt.toNat + k)).toInt ∧ (h.1 (3 + a.toInt.toNat) (b.toInt.toNat + k)).toInt ≤ 20) → ∀ v : Int32, v.toInt = qv (h.1 (3 + a.toInt.toNat) (b.toInt.toNat + 0)).toInt (h.1 (3 + a.toInt.toNat) (b.toInt.toNat + 1)).toInt (h.1 (3 + a.toInt.toNat) (b.toInt.toNat + 2)).toInt (h.1 (3 + a.toInt.toNat) (b.toInt.toNat + 3)).toInt (!decide (w.toInt = 0)) → P (some (.int v)) (zSet (zSet g 58 18 ((Int32.ofInt 40) * a + b)) 58 3 (Int32.ofInt 0))) → zqm 196 [.ref 58, .int a, .int b, .int w] g P := fun g P f kB k1 k2 kn k0 => by
    have g59 := f 59 (by decide) (by decide)
    have g60 := f 60 (by decide) (by decide)
    refine s_196 a b w (fun n => ?_)
    refine q_121 _ _ _ ?_
    rw [kc_0, kc_1]
    refine zri_int ?_
    refine tell_r a b _ _ 4 (by rw [g60]; omega) k4 (fun z => kB (fun y => z.elim (fun u => u y.1) (fun u => zb0.mp u y.2))) (fun z v y => k1 z (zb1.mp v) (by rw [g59] at y; exact y)) (fun z v y x => k2 z (zb1.mp v) (by rw [g59] at y; exact y) (by rw [g60] at x; exact x)) (fun z v y x => ?_)
    rw [g59] at y
    rw [g60] at x
    have v := zb1.mp v
    have hA := (hR a.toInt.toNat (by omega)).2 y
    have e18 : ((Int32.ofInt 40) * a + b).toInt = 40 * a.toInt + b.toInt := i40 (by omega) (by omega) (by omega) (by omega)
    have q61 : (zSet (zSet g 58 18 ((Int32.ofInt 40) * a + b)) 58 3 (Int32.ofInt 0)).1 61 = h.1 61 := by rw [zs_q (by decide), zs_q (by decide)]; exact f 61 (by decide) (by decide)
    refine l_196 a b w _ _ (40 * a.toInt.toNat + b.toInt.toNat) (fun k => h.1 (3 + a.toInt.toNat) (b.toInt.toNat + k)) (by rw [wk_ne (Or.inr (by decide)), wk_at, e18]; omega) (by omega) (fun k hk => ?_) (kn z v y x) (k0 z v y x) n 0 _ _ kc_0 (by omega) (Or.inl ⟨rfl, fun j hj => by omega⟩)
    show _ = h.1 (3 + a.toInt.toNat) (b.toInt.toNat + k)
    rw [q61, hA.2.2 (b.toInt.toNat + k) (by omega)]
    exact congrArg (fun j => h.1 61 j) (by omega)
  have TR := fun z => told_r (a1 := a) hR z
  refine s_104 a b w (fun n => ?_)
  refine q_68 a (zri_int ⟨fun y => ?_, fun y => ?_⟩)
  · have y := zb0.mp y
    refine REF h _ (fun _ _ _ => rfl) (fun _ => ⟨rfl, nrB_0 h, id⟩) (fun t => ?_) (fun t => ?_) (fun t => ?_) (fun t => ?_)
    all_goals exact absurd t y
  · have y := zb1.mp y
    refine q_120 w (zri_int ⟨fun x => ?_, fun x => ?_⟩)
    · have x := zb1.mp x
      have T := TR y
      have hl4 := tLe ht a.toInt.toNat
      refine q_116 a b _ ht (fun u => zri_int ⟨fun t => absurd t (by decide), fun _ => ?_⟩) (fun u => zri_int ⟨fun _ => ?_, fun t => absurd kc_0 t⟩) (fun u => zri_int ⟨fun t => absurd t (by decide), fun _ => ?_⟩)
      · refine REF _ _ (fun q q0 _ => zs_q q0) (fun t => absurd ⟨y, x⟩ t) (fun _ _ _ => ⟨rfl, nrB_s h _ _, fun _ => JS_s h _⟩) (fun _ _ t => ?_) (fun _ _ t => ?_) (fun _ _ t => ?_)
        all_goals (exfalso; omega)
      · have T2 := T.2 (by omega)
        rw [k4] at u
        refine s_118 a b _ (fun n2 => l_118 a b _ a.toInt.toNat b.toInt.toNat 4 (by omega) (by omega) (by omega) k4 (by omega) hl4 (fun h' f1 f2 => ?_) n2 0 _ h kc_0 (by omega) (fun _ _ => rfl) (fun j hj => by omega))
        refine l_104 a b w _ (fun k => h.1 (3 + a.toInt.toNat) (b.toInt.toNat + k)) (fun k hk => f2 k hk hk) (fun nb => ?_) (fun gd v ev => ?_) n 0 _ kc_0 (by omega) (fun j hj => by omega)
        · refine REF h' _ (fun q _ q7 => f1 q q7) (fun t => absurd ⟨y, x⟩ t) (fun _ _ t => ?_) (fun _ _ _ t => ?_) (fun _ _ _ _ _ => ⟨rfl, ⟨fun q q0 _ _ q7 q8 _ => ?_, ?_⟩, fun hS => ?_⟩) (fun _ _ _ _ t => absurd t nb)
          · exfalso; omega
          · exfalso; omega
          · rw [zs_q q8, zs_q q8, zs_q q8]
            exact f1 q q7
          · rw [wk_ne (Or.inr (by decide)), wk_ne (Or.inr (by decide)), wk_ne (Or.inr (by decide)), f1 58 (by decide)]
          · unfold JS
            rw [wk_at, zs_q (by decide), zs_q (by decide), zs_q (by decide), f1 0 (by decide), f1 58 (by decide)]
            exact hS
        · refine REF _ _ (fun q q0 q7 => by rw [zs_q q0]; exact f1 q q7) (fun t => absurd ⟨y, x⟩ t) (fun _ _ t => ?_) (fun _ _ _ t => ?_) (fun _ _ _ _ t => absurd gd t) (fun _ _ _ _ _ v' ev' => ⟨vi (by rw [ev', ev]), ⟨fun q q0 _ _ q7 q8 _ => ?_, ?_⟩, fun _ => ?_⟩)
          · exfalso; omega
          · exfalso; omega
          · rw [zs_q q8, zs_q q8, zs_q q0]
            exact f1 q q7
          · rw [wk_ne (Or.inr (by decide)), wk_ne (Or.inr (by decide)), zs_q (by decide), f1 58 (by decide)]
          · unfold JS
            rw [wk_at, zs_q (by decide), zs_q (by decide), wk_at]
      · have T2 := T.2 (by omega)
        rw [k4] at u
        refine REF _ _ (fun q q0 _ => zs_q q0) (fun t => absurd ⟨y, x⟩ t) (fun _ _ t => ?_) (fun _ _ _ _ => ⟨rfl, nrB_s h _ _, fun _ => JS_s h _⟩) (fun _ _ _ t => ?_) (fun _ _ _ t => ?_)
        all_goals (exfalso; omega)
    · have x := zb2.mp x
      refine REF h _ (fun _ _ _ => rfl) (fun _ => ⟨rfl, nrB_0 h, id⟩) (fun _ t => ?_) (fun _ t => ?_) (fun _ t => ?_) (fun _ t => ?_)
      all_goals exact absurd t x
theorem pr_quarrel : pr2 104 196 3 JR := by
  intro as hl hv h ht hJ
  match as, hl, hv with
  | [v1, v2, v3], hl, hv =>
    obtain ⟨a, rfl⟩ := hv v1 (by simp)
    obtain ⟨b, rfl⟩ := hv v2 (by simp)
    obtain ⟨w, rfl⟩ := hv v3 (by simp)
    exact zqm_imp (quarrel_ok h a b w ht hJ) (fun rv h1 k _ => zqm_imp k (fun rv' h2 k2 _ => ⟨k2.1, JR_fr (fun q hq => k2.2.1.1 q (by omega) (by omega) (by omega) (by omega) (by omega) (by omega)) hJ⟩))

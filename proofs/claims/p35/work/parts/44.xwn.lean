/-! fit, scratch -/
theorem td_B {h g : zH} {a b : Int32} {K : Nat} (ht : hTy h) (c2 : wfG (nowG h)) (cS : h.1 58 13 = mkm (smB (gyD (nowG h))) 15) (cF : ∀ s : Nat, (s : Int) < nowG h 57 → h.1 66 s = mkm (flB (gyD (nowG h)) (gyE (nowG h) s)) 15) (eK : nowG h 57 = (K : Int)) (hR : JR h) (f : ∀ q, q ≠ 0 → q ≠ 55 → q ≠ 56 → q ≠ 57 → g.1 q = h.1 q) (z : 0 ≤ a.toInt ∧ a.toInt < 8) (y : 0 ≤ (h.1 59 a.toInt.toNat).toInt) (x : 0 ≤ b.toInt ∧ b.toInt + (K : Int) ≤ (h.1 60 a.toInt.toNat).toInt) : tdB (zSet (zSet g 58 18 ((Int32.ofInt 40) * a + b)) 58 3 (Int32.ofInt 0)) K (40 * a.toInt.toNat + b.toInt.toNat) (fun k => (h.1 (3 + a.toInt.toNat) (b.toInt.toNat + k)).toInt) ∧ nowG (zSet (zSet g 58 18 ((Int32.ofInt 40) * a + b)) 58 3 (Int32.ofInt 0)) = nowG h := by
  have hz := tSz ht a.toInt.toNat
  have hA := (hR a.toInt.toNat (by omega)).2 y
  have e18 : ((Int32.ofInt 40) * a + b).toInt = 40 * a.toInt + b.toInt := i40 (by omega) (by omega) (by omega) (by omega)
  have q2 : ∀ q, q ≠ 0 → q ≠ 55 → q ≠ 56 → q ≠ 57 → q ≠ 58 → (zSet (zSet g 58 18 ((Int32.ofInt 40) * a + b)) 58 3 (Int32.ofInt 0)).1 q = h.1 q := fun q q0 q5 q6 q7 q8 => by rw [zs_q q8, zs_q q8]; exact f q q0 q5 q6 q7
  have eN2 : nowG (zSet (zSet g 58 18 ((Int32.ofInt 40) * a + b)) 58 3 (Int32.ofInt 0)) = nowG h := funext fun k => by unfold nowG; rw [q2 64 (by decide) (by decide) (by decide) (by decide) (by decide)]
  have e13 : (zSet (zSet g 58 18 ((Int32.ofInt 40) * a + b)) 58 3 (Int32.ofInt 0)).1 58 13 = h.1 58 13 := by rw [wk_ne (Or.inr (by decide)), wk_ne (Or.inr (by decide)), f 58 (by decide) (by decide) (by decide) (by decide)]
  refine ⟨⟨by rw [eN2]; exact c2, by rw [eN2, e13]; exact cS, by rw [eN2, q2 66 (by decide) (by decide) (by decide) (by decide) (by decide)]; exact cF, by rw [eN2]; exact eK, by rw [wk_ne (Or.inr (by decide)), wk_at, e18]; omega, by omega, fun k hk => ?_⟩, eN2⟩
  show _ = (h.1 (3 + a.toInt.toNat) (b.toInt.toNat + k)).toInt
  rw [q2 61 (by decide) (by decide) (by decide) (by decide) (by decide), hA.2.2 (b.toInt.toNat + k) (by omega)]
  exact congrArg (fun j => (h.1 61 j).toInt) (by omega)
/-- the two sides' fits are of one kind -/
theorem fs_eq {h4 g4 h6 g6 : zH} {F : Nat → Bool} (fa : fsA h4 g4 F (allL 15)) (fb : fsB h6 g6 F (fltL 32768)) : (h6.1 58 19).toInt = (h4.1 55 1).toInt ∧ (h6.1 58 20).toInt = (h4.1 55 2).toInt ∧ ∀ c : Nat, c < 15 → (h6.1 70 c).toInt = (h4.1 56 c).toInt := by
  refine ⟨by rw [fb.2.2.1, fa.2.1, fl_perm.countP_eq], ?_, fun c hc => by rw [fb.2.2.2.1 c hc, fa.2.2.1 c hc, fl_perm.countP_eq]⟩
  exact bsC_u (fun k => fl_perm.mem_iff) fb.2.2.2.2 fa.2.2.2
/-- what is left behind a good answer -/
theorem fs_nr {h h' h4 h6 : zH} {F : Nat → Bool} {X : Int32} (f1 : ∀ q, q ≠ 57 → h'.1 q = h.1 q) (fa : fsA h4 h' F (allL 15)) (fb : fsB h6 (zSet (zSet (zSet h4 0 11 (Int32.ofInt 0)) 58 18 X) 58 3 (Int32.ofInt 0)) F (fltL 32768)) : nrB h h6 ∧ JS h6 := by
  refine ⟨⟨fun q q0 q5 q6 q7 q8 q70 => ?_, ?_⟩, ?_⟩
  · rw [fb.1 q q8 q70, zs_q q8, zs_q q8, zs_q q0, fa.1 q q5 q6]
    exact f1 q q7
  · rw [fb.2.1 13 (by decide) (by decide), wk_ne (Or.inr (by decide)), wk_ne (Or.inr (by decide)), zs_q (by decide), fa.1 58 (by decide) (by decide), f1 58 (by decide)]
  · unfold JS
    rw [fb.1 0 (by decide) (by decide), fb.2.1 3 (by decide) (by decide), zs_q (by decide), zs_q (by decide), wk_at, wk_at]
theorem fit_ok (h : zH) (a b w : Int32) (ht : hTy h) (hJ : JC h) (hR : JR h) : zqm 98 [.ref 0, .int a, .int b, .int w] h (fun rv h1 => zqm 189 [.ref 58, .int a, .int b, .int w] h1 (fun rv' h2 => rv' = rv ∧ nrB h h2 ∧ (JS h → JS h2))) := by
  by_cases hs : nowG h 61 = 1
  · obtain ⟨C, cS, cF⟩ := JC_1 hJ hs
    obtain ⟨c1, c2, c3, c4, c5, c6, c7, c8, c9, c10, c11, c12, c13⟩ := id C
    obtain ⟨w1, w2, w3, w4, w5, w6⟩ := id c2
    obtain ⟨K, eK⟩ : ∃ K : Nat, nowG h 57 = (K : Int) := ⟨(nowG h 57).toNat, by omega⟩
    have hz := tSz ht a.toInt.toNat
    have REF : ∀ (g : zH) (P : Option Value → zH → Prop), (∀ q, q ≠ 0 → q ≠ 55 → q ≠ 56 → q ≠ 57 → g.1 q = h.1 q) → (¬ ((0 ≤ a.toInt ∧ a.toInt < 8) ∧ 0 ≤ w.toInt ∧ w.toInt ≤ 1) → P (some (.int (-1000001 : Int32))) g) → ((0 ≤ a.toInt ∧ a.toInt < 8) → (0 ≤ w.toInt ∧ w.toInt ≤ 1) → (h.1 59 a.toInt.toNat).toInt < 0 → P (some (.int ((-1000010 : Int32) - (Int32.ofInt 1)))) (zSet g 58 3 (Int32.ofInt 1))) → ((0 ≤ a.toInt ∧ a.toInt < 8) → (0 ≤ w.toInt ∧ w.toInt ≤ 1) → 0 ≤ (h.1 59 a.toInt.toNat).toInt → ¬ (0 ≤ b.toInt ∧ b.toInt + (K : Int) ≤ (h.1 60 a.toInt.toNat).toInt) → P (some (.int ((-1000010 : Int32) - (Int32.ofInt 2)))) (zSet g 58 3 (Int32.ofInt 2))) → ((0 ≤ a.toInt ∧ a.toInt < 8) → (0 ≤ w.toInt ∧ w.toInt ≤ 1) → 0 ≤ (h.1 59 a.toInt.toNat).toInt → (0 ≤ b.toInt ∧ b.toInt + (K : Int) ≤ (h.1 60 a.toInt.toNat).toInt) → ∀ h6 : zH, fsB h6 (zSet (zSet g 58 18 ((Int32.ofInt 40) * a + b)) 58 3 (Int32.ofInt 0)) (fun k => mkB (nowG h) K (fun k => (h.1 (3 + a.toInt.toNat) (b.toInt.toNat + k)).toInt) (fun i => k.testBit i)) (fltL 32768) → (¬ w.toInt = 0 → P (some (.int (h6.1 58 20))) h6) ∧ (¬ (¬ w.toInt = 0) → P (some (.int (h6.1 58 19))) h6)) → zqm 189 [.ref 58, .int a, .int b, .int w] g P := fun g P f kB k1 k2 k0 => by
      have eN : nowG g = nowG h := funext fun k => by unfold nowG; rw [f 64 (by decide) (by decide) (by decide) (by decide)]
      have g59 := f 59 (by decide) (by decide) (by decide) (by decide)
      have g60 := f 60 (by decide) (by decide) (by decide) (by decide)
      refine s_189 a b w ?_
      refine q_150 ?_
      rw [eN]
      refine zri_int ⟨fun _ => ?_, fun t => absurd hs (zb2.mp t)⟩
      refine q_121 _ _ _ ?_
      rw [kc_0, kc_1]
      refine zri_int ?_
      refine tell_r a b _ _ K (by rw [g60]; omega) (by rw [f 64 (by decide) (by decide) (by decide) (by decide)]; exact eK) (fun z => kB (fun y => z.elim (fun u => u y.1) (fun u => zb0.mp u y.2))) (fun z v y => k1 z (zb1.mp v) (by rw [g59] at y; exact y)) (fun z v y x => k2 z (zb1.mp v) (by rw [g59] at y; exact y) (by rw [g60] at x; exact x)) (fun z v y x => ?_)
      rw [g59] at y
      rw [g60] at x
      obtain ⟨tB, eN2⟩ := td_B (a := a) (b := b) ht c2 cS cF eK hR f z y x
      refine q_188 tB (fun h6 f6 => ?_)
      rw [eN2] at f6
      exact k0 z (zb1.mp v) y x h6 f6
    have TR := fun z => told_r (a1 := a) hR z
    refine s_98 a b w ?_
    refine tell_c (Q := fun rv h1 => zqm 189 [.ref 58, .int a, .int b, .int w] h1 (fun rv' h2 => rv' = rv ∧ nrB h h2 ∧ (JS h → JS h2))) a b w K ht (by rw [c9]; exact eK) (by omega) (by rw [c3]; decide) (fun z => ?_) (fun z y => ?_) (fun z y x => ?_) (fun z y x h' f1 f2 => ?_)
    · refine REF h _ (fun _ _ _ _ _ => rfl) (fun _ => ⟨rfl, nrB_0 h, id⟩) (fun t u => ?_) (fun t u => ?_) (fun t u => ?_)
      all_goals exact absurd ⟨t, u⟩ z
    · have T := TR z.1
      refine REF _ _ (fun q q0 _ _ _ => zs_q q0) (fun t => absurd z t) (fun _ _ _ => ⟨rfl, nrB_s h _ _, fun _ => JS_s h _⟩) (fun _ _ t => ?_) (fun _ _ t => ?_)
      all_goals (exfalso; omega)
    · have T := TR z.1
      have T2 := T.2 (by omega)
      refine REF _ _ (fun q q0 _ _ _ => zs_q q0) (fun t => absurd z t) (fun _ _ t => ?_) (fun _ _ _ _ => ⟨rfl, nrB_s h _ _, fun _ => JS_s h _⟩) (fun _ _ _ t => ?_)
      · exfalso; omega
      · exfalso; omega
    · have T := TR z.1
      have T2 := T.2 (by omega)
      have tA : tdA h' (nowG h) K (fun k => (h.1 (3 + a.toInt.toNat) (b.toInt.toNat + k)).toInt) := ⟨C1_fr (fun q q1 q2 => f1 q (by omega)) C, eK, fun k hk => by rw [f2 k hk]⟩
      refine q_33 tA (fun h4 fa => ?_)
      refine ⟨fun u => ?_, fun u => ?_⟩
      · refine q_115 _ (zri_int ?_)
        refine REF _ _ (fun q q0 q5 q6 q7 => by rw [zs_q q0, fa.1 q q5 q6]; exact f1 q q7) (fun t => absurd z t) (fun _ _ t => ?_) (fun _ _ _ t => ?_) (fun _ _ _ _ h6 fb => ⟨fun _ => ⟨vi (fs_eq fa fb).2.1, (fs_nr f1 fa fb).1, fun _ => (fs_nr f1 fa fb).2⟩, fun t => absurd u t⟩)
        · exfalso; omega
        · exfalso; omega
      · refine q_115 _ (zri_int ?_)
        refine REF _ _ (fun q q0 q5 q6 q7 => by rw [zs_q q0, fa.1 q q5 q6]; exact f1 q q7) (fun t => absurd z t) (fun _ _ t => ?_) (fun _ _ _ t => ?_) (fun _ _ _ _ h6 fb => ⟨fun t => absurd t u, fun _ => ⟨vi (fs_eq fa fb).1, (fs_nr f1 fa fb).1, fun _ => (fs_nr f1 fa fb).2⟩⟩)
        · exfalso; omega
        · exfalso; omega
  · obtain ⟨z1, z2⟩ := JC_0 hJ hs
    refine s_98 a b w ?_
    refine q_117 a b _ ht (fun _ => zri_int ⟨fun y => absurd y (by decide), fun _ => ?_⟩) (fun z => absurd (z2 0 (by decide)) z) (fun z => absurd (z2 0 (by decide)) z) (fun z => absurd (z2 0 (by decide)) z) (fun z => absurd (z2 0 (by decide)) z)
    refine s_189 a b w ?_
    refine q_150 ?_
    exact zri_int ⟨fun z => absurd (zb1.mp z) hs, fun _ => ⟨rfl, nrB_0 h, id⟩⟩
theorem pr_fit : pr2 98 189 3 JCR := by
  intro as hl hv h ht hJ
  match as, hl, hv with
  | [v1, v2, v3], hl, hv =>
    obtain ⟨a, rfl⟩ := hv v1 (by simp)
    obtain ⟨b, rfl⟩ := hv v2 (by simp)
    obtain ⟨w, rfl⟩ := hv v3 (by simp)
    exact zqm_imp (fit_ok h a b w ht hJ.1 hJ.2) (fun rv h1 k _ => zqm_imp k (fun rv' h2 k2 _ => ⟨k2.1, nrB_J k2.2.1 hJ⟩))

/-! asked of one: its kind, whether it is one of a kind; who signs when -/
theorem zs_q {h : zH} {q j q' : Nat} {x : Int32} (hn : q' ≠ q) : (zSet h q j x).1 q' = h.1 q' := funext fun i => wk_ne (Or.inl hn)
theorem JC_s0 {h : zH} (x : Int32) (hJ : JC h) : JC (zSet h 0 11 x) := JC_fr (fun q a b => zs_q (by omega)) (zs_q (by decide)) (zs_q (by decide)) (wk_ne (Or.inl (by decide))) hJ
theorem JC_s58 {h : zH} (x : Int32) (hJ : JC h) : JC (zSet h 58 3 x) := JC_fr (fun q a b => zs_q (by omega)) (zs_q (by decide)) (zs_q (by decide)) (wk_ne (Or.inr (by decide))) hJ
theorem q_158k {h : zH} {Q : Option Value → zH → Prop} (a1 : Int32) (k : Nat) (e1 : a1.toInt = (k : Int)) (k4 : k < 4) (H : Q (some (.int (h.1 64 (45 + 3 * k)))) h) : zqm 158 [.ref 58, .int a1] h Q := by
  refine s_158 a1 ?_
  rw [o45 e1 (by omega), n45]
  intro _ _
  exact H
theorem JC_c {h : zH} {k : Nat} (hJ : JC h) (kG : (k : Int) < nowG h 57) : nowG h 61 = 1 := by
  apply Decidable.byContradiction
  intro y
  have := (JC_0 hJ y).1 57 (by decide)
  omega
theorem pr_kind : pr2 108 202 1 JC := by
  intro as hl hv h ht hJ
  match as, hl, hv with
  | [v1], hl, hv =>
    obtain ⟨a, rfl⟩ := hv v1 (by simp)
    obtain ⟨m6, m0, m4⟩ := JC_men hJ
    refine s_108 a ?_
    refine q_20 a (by omega) ?_
    refine zri_int ?_
    refine ⟨fun z _ => ?_, fun z _ _ _ => ?_⟩
    · have z := zb0.mp z
      refine s_202 a ?_
      refine q_152 a m0 m4 ?_
      refine zri_int ?_
      exact ⟨fun _ _ => ⟨rfl, hJ⟩, fun y => absurd (zb1.mp y) (by omega)⟩
    · have z := zb1.mp z
      obtain ⟨k, ea⟩ : ∃ k : Nat, a.toInt = (k : Int) := ⟨a.toInt.toNat, by omega⟩
      have kG : (k : Int) < nowG h 57 := by omega
      obtain ⟨C, -, -⟩ := JC_1 hJ (JC_c hJ kG)
      obtain ⟨-, -, -, -, -, -, -, -, -, -, -, -, c13⟩ := C
      obtain ⟨u1, -⟩ := c13 k kG
      rw [show a.toInt.toNat = k by omega]
      refine s_202 a ?_
      refine q_152 a m0 m4 ?_
      refine zri_int ?_
      refine ⟨fun y => absurd (by omega) (zb0.mp y), fun _ => ?_⟩
      refine q_158k a k ea (by omega) ?_
      refine zri_int ?_
      exact fun _ => ⟨vi u1.symm, hJ⟩
def isO (k w : Nat) : Prop := w = 0 ∨ w = k ∨ (w = 1 ∧ (k = 2 ∨ k = 3)) ∨ (w = 4 ∧ k = 5)
theorem l_3 {h : zH} {Q : Option Value → zH → Prop} (x0 x1 : Int32) (w K : Nat) (e1 : x1.toInt = (w : Int)) (H1 : isO K w → Q (some (.int (Int32.ofInt 1))) h) (H0 : ¬ isO K w → Q (some (.int (Int32.ofInt 0))) h) : ∀ (n k : Nat) (x2 x3 : Int32), x2.toInt = (k : Int) → 0 ≤ x3.toInt → x3.toInt + (k : Int) ≤ 5 → (isO k w ↔ isO K w) → zQ n 3 4 [some (.int x0), some (.int x1), some (.int x2), some (.int x3)] [] h Q
  | 0, _, _, _, _, _, _, _ => zQ_zero
  | n + 1, k, x2, x3, e2, b0, b1, hi => by
    refine s_3_4 x0 x1 x2 x3 ⟨fun d => by exfalso; omega, fun _ => ⟨fun z => ⟨fun y => H0 (fun t => ?_), fun y => H1 (hi.mp ?_)⟩, fun z => ⟨fun d => by exfalso; omega, fun _ => ⟨fun y _ _ => ?_, fun y => H1 (hi.mp ?_)⟩⟩⟩⟩
    · have := hi.mpr t
      unfold isO at this
      omega
    · unfold isO
      omega
    · have nx : ∃ k' : Nat, (zs0 k).toInt = (k' : Int) ∧ k' < k ∧ (isO k' w ↔ isO k w) := by
        have hk : k = 1 ∨ k = 2 ∨ k = 3 ∨ k = 4 ∨ k = 5 := by omega
        rcases hk with q | q | q | q | q <;> subst q
        · exact ⟨0, by decide, by decide, by unfold isO; omega⟩
        · exact ⟨1, by decide, by decide, by unfold isO; omega⟩
        · exact ⟨1, by decide, by decide, by unfold isO; omega⟩
        · exact ⟨0, by decide, by decide, by unfold isO; omega⟩
        · exact ⟨4, by decide, by decide, by unfold isO; omega⟩
      obtain ⟨k', n1, n2, n3⟩ := nx
      rw [show x2.toInt.toNat = k by omega]
      have e3 := ai (x := x3) (k := 1) (by omega) (by omega) (by omega) (by omega)
      exact l_3 x0 x1 w K e1 H1 H0 n k' _ _ n1 (by omega) (by omega) (n3.trans hi)
    · unfold isO
      omega
theorem q_3 {h : zH} {Q : Option Value → zH → Prop} (a0 a1 : Int32) (K w : Nat) (e0 : a0.toInt = (K : Int)) (K5 : K ≤ 5) (e1 : a1.toInt = (w : Int)) (H1 : isO K w → Q (some (.int (Int32.ofInt 1))) h) (H0 : ¬ isO K w → Q (some (.int (Int32.ofInt 0))) h) : zqm 3 [.int a0, .int a1] h Q := s_3 a0 a1 (fun n => l_3 a0 a1 w K e1 H1 H0 n K _ _ e0 (by decide) (by rw [kc_0]; omega) Iff.rfl)
theorem q_203 {h : zH} {Q : Option Value → zH → Prop} (a0 a1 : Int32) (K w : Nat) (e0 : a0.toInt = (K : Int)) (e1 : a1.toInt = (w : Int)) (H1 : isO K w → Q (some (.int (Int32.ofInt 1))) h) (H0 : ¬ isO K w → Q (some (.int (Int32.ofInt 0))) h) : zqm 203 [.int a0, .int a1] h Q := by
  unfold isO at H1 H0
  refine s_203 a0 a1 ⟨fun _ => H1 (by omega), fun _ => ⟨fun _ => H1 (by omega), fun _ => ⟨fun _ => ⟨fun _ => H0 (by omega), fun _ => ⟨fun _ => H0 (by omega), fun _ => H1 (by omega)⟩⟩, fun _ => ⟨fun _ => H1 (by omega), fun _ => ⟨fun _ => H1 (by omega), fun _ => ⟨fun _ => H0 (by omega), fun _ => ⟨fun _ => H0 (by omega), fun _ => H1 (by omega)⟩⟩⟩⟩⟩⟩⟩
theorem pr_as : pr2 109 204 2 JC := by
  intro as hl hv h ht hJ
  match as, hl, hv with
  | [v1, v2], hl, hv =>
    obtain ⟨a, rfl⟩ := hv v1 (by simp)
    obtain ⟨b, rfl⟩ := hv v2 (by simp)
    have REF : ∀ (g : zH) (P : Option Value → zH → Prop), JC g → ((∃ k w : Nat, a.toInt = (k : Int) ∧ (k : Int) < nowG g 57 ∧ b.toInt = (w : Int) ∧ w ≤ 5 ∧ isO (g.1 64 (45 + 3 * k)).toInt.toNat w) → P (some (.int a)) (zSet g 58 3 (Int32.ofInt 0))) → ((∃ k w : Nat, a.toInt = (k : Int) ∧ (k : Int) < nowG g 57 ∧ b.toInt = (w : Int) ∧ w ≤ 5 ∧ ¬ isO (g.1 64 (45 + 3 * k)).toInt.toNat w) → P (some (.int ((-1000010 : Int32) - Int32.ofInt 3))) (zSet g 58 3 (Int32.ofInt 3))) → (¬ (0 ≤ a.toInt ∧ a.toInt < nowG g 57 ∧ 0 ≤ b.toInt ∧ b.toInt ≤ 5) → P (some (.int (-1000001 : Int32))) g) → zqm 204 [.ref 58, .int a, .int b] g P := fun g P jg k1 k0 kb => by
      obtain ⟨m6, m0, m4⟩ := JC_men jg
      refine s_204 a b ?_
      refine q_152 a m0 m4 ?_
      refine zri_int ?_
      refine ⟨fun z => kb (fun y => zb0.mp z ⟨y.1, y.2.1⟩), fun z => ?_⟩
      have z := zb1.mp z
      refine q_121 _ _ _ ?_
      refine zri_int ?_
      rw [kc_0, (show (Int32.ofInt 5).toInt = 5 by decide)]
      refine ⟨fun y => ?_, fun y => kb (fun x => zb2.mp y ⟨x.2.2.1, x.2.2.2⟩)⟩
      have y := zb1.mp y
      obtain ⟨k, ea⟩ : ∃ k : Nat, a.toInt = (k : Int) := ⟨a.toInt.toNat, by omega⟩
      obtain ⟨w, ew⟩ : ∃ w : Nat, b.toInt = (w : Int) := ⟨b.toInt.toNat, by omega⟩
      have kG : (k : Int) < nowG g 57 := by omega
      obtain ⟨C, -, -⟩ := JC_1 jg (JC_c jg kG)
      obtain ⟨-, c2, -⟩ := C
      obtain ⟨⟨r1, r2⟩, -⟩ := c2.2.2.2.2.1 k kG
      have r1 : 1 ≤ (g.1 64 (45 + 3 * k)).toInt := r1
      refine q_158k a k ea (by omega) ?_
      refine zri_int ?_
      refine q_203 _ b (g.1 64 (45 + 3 * k)).toInt.toNat w (by omega) ew (fun t => ?_) (fun t => ?_)
      · refine zri_int ⟨fun u => absurd u (by decide), fun _ => ?_⟩
        exact s_126 a (zri_int (k1 ⟨k, w, ea, kG, ew, by omega, t⟩))
      · refine zri_int ⟨fun _ => ?_, fun u => absurd (by decide) u⟩
        exact s_125 _ (zri_int (k0 ⟨k, w, ea, kG, ew, by omega, t⟩))
    obtain ⟨m6, m0, m4⟩ := JC_men hJ
    refine s_109 a b ?_
    refine q_20 a (by omega) ?_
    refine zri_int ?_
    refine ⟨fun z _ => ?_, fun z => ⟨fun y _ => ?_, fun y => ⟨fun x _ _ => ?_, fun x _ => ?_⟩⟩⟩
    · have z := zb0.mp z
      refine REF h _ hJ (fun t => ?_) (fun t => ?_) (fun _ _ => ⟨rfl, hJ⟩)
      · exfalso
        obtain ⟨k, w, t1, t2, t3, t4, t5⟩ := t
        omega
      · exfalso
        obtain ⟨k, w, t1, t2, t3, t4, t5⟩ := t
        omega
    · refine REF h _ hJ (fun t => ?_) (fun t => ?_) (fun _ _ => ⟨rfl, hJ⟩)
      · exfalso
        obtain ⟨k, w, t1, t2, t3, t4, t5⟩ := t
        omega
      · exfalso
        obtain ⟨k, w, t1, t2, t3, t4, t5⟩ := t
        omega
    · have z := zb1.mp z
      obtain ⟨k, ea⟩ : ∃ k : Nat, a.toInt = (k : Int) := ⟨a.toInt.toNat, by omega⟩
      obtain ⟨w, ew⟩ : ∃ w : Nat, b.toInt = (w : Int) := ⟨b.toInt.toNat, by omega⟩
      have kG : (k : Int) < nowG h 57 := by omega
      obtain ⟨C, -, -⟩ := JC_1 hJ (JC_c hJ kG)
      obtain ⟨-, c2, -, -, -, -, -, -, -, -, -, -, c13⟩ := C
      obtain ⟨u1, -⟩ := c13 k kG
      obtain ⟨⟨r1, r2⟩, -⟩ := c2.2.2.2.2.1 k kG
      have u1 : (h.1 17 k).toInt = gyK (nowG h) k := u1
      have eK : (h.1 64 (45 + 3 * k)).toInt = gyK (nowG h) k := rfl
      rw [show a.toInt.toNat = k by omega]
      refine q_3 _ b (gyK (nowG h) k).toNat w (by omega) (by omega) ew (fun t => ?_) (fun t => ?_)
      · refine zri_int ⟨fun u => absurd u (by decide), fun _ => ?_⟩
        refine s_115 a (zri_int (fun _ => ?_))
        refine REF _ _ (JC_s0 _ hJ) (fun _ _ => ⟨rfl, JC_s58 _ (JC_s0 _ hJ)⟩) (fun y => ?_) (fun y => ?_)
        · exfalso
          obtain ⟨k', w', t1, t2, t3, t4, t5⟩ := y
          rw [zs_q (by decide)] at t5
          have : k' = k := by omega
          subst this
          have : w' = w := by omega
          subst this
          rw [eK] at t5
          exact t5 t
        · exact absurd ⟨by omega, (by show a.toInt < (((zSet h 0 11 _).1 64) 57).toInt; rw [zs_q (by decide)]; show _ < nowG h 57; omega), by omega, by omega⟩ y
      · refine zri_int ⟨fun _ => ?_, fun u => absurd (by decide) u⟩
        refine s_114 _ (zri_int (fun _ => ?_))
        refine REF _ _ (JC_s0 _ hJ) (fun y => ?_) (fun _ _ => ⟨rfl, JC_s58 _ (JC_s0 _ hJ)⟩) (fun y => ?_)
        · exfalso
          obtain ⟨k', w', t1, t2, t3, t4, t5⟩ := y
          rw [zs_q (by decide)] at t5
          have : k' = k := by omega
          subst this
          have : w' = w := by omega
          subst this
          rw [eK] at t5
          exact t t5
        · exact absurd ⟨by omega, (by show a.toInt < (((zSet h 0 11 _).1 64) 57).toInt; rw [zs_q (by decide)]; show _ < nowG h 57; omega), by omega, by omega⟩ y
    · refine REF h _ hJ (fun t => ?_) (fun t => ?_) (fun _ _ => ⟨rfl, hJ⟩)
      · exfalso
        obtain ⟨k, w, t1, t2, t3, t4, t5⟩ := t
        omega
      · exfalso
        obtain ⟨k, w, t1, t2, t3, t4, t5⟩ := t
        omega

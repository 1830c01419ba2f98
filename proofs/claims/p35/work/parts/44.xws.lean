/-! what was found last: the other questions -/
abbrev JCS : zH → Prop := fun h => JC h ∧ JS h
abbrev JRS : zH → Prop := fun h => JR h ∧ JS h
abbrev JCRS : zH → Prop := fun h => JC h ∧ JR h ∧ JS h
theorem pr_asS : pr2 109 204 2 JCS := by
  intro as hl hv h ht hJ
  match as, hl, hv with
  | [v1, v2], hl, hv =>
    obtain ⟨a, rfl⟩ := hv v1 (by simp)
    obtain ⟨b, rfl⟩ := hv v2 (by simp)
    have REF : ∀ (g : zH) (P : Option Value → zH → Prop), JC g → ((∃ k w : Nat, a.toInt = (k : Int) ∧ (k : Int) < nowG g 57 ∧ b.toInt = (w : Int) ∧ w ≤ 5 ∧ isO (g.1 64 (45 + 3 * k)).toInt.toNat w) → P (some (.int a)) (zSet g 58 3 (Int32.ofInt 0))) → ((∃ k w : Nat, a.toInt = (k : Int) ∧ (k : Int) < nowG g 57 ∧ b.toInt = (w : Int) ∧ w ≤ 5 ∧ ¬ isO (g.1 64 (45 + 3 * k)).toInt.toNat w) → P (some (.int ((-1000010 : Int32) - Int32.ofInt 3))) (zSet g 58 3 (Int32.ofInt 3))) → (¬ (0 ≤ a.toInt ∧ a.toInt < nowG g 57 ∧ 0 ≤ b.toInt ∧ b.toInt ≤ 5) → P (some (.int (-1000001 : Int32))) g) → zqm 204 [.ref 58, .int a, .int b] g P := fun g P jg k1 k0 kb => by
      obtain ⟨m6, m0, m4⟩ := JC_men jg
      refine s_204 a b ?_
      refine q_152 a m0 m4 ?_
      refine zri_int ?_
      refine ⟨fun z => kb (fun y => zb0.mp z ⟨y.1, y.2.1⟩), fun z => ?_⟩
      have z := zb1.mp z
      refine q_121 _ _ _ ?_
      refine zri_int ?_
      rw [kc_0, (show (Int32.ofInt 5).toInt = 5 by decide)]
      refine ⟨fun y => ?_, fun y => kb (fun x => zb2.mp y ⟨x.2.2.1, x.2.2.2⟩)⟩
      have y := zb1.mp y
      obtain ⟨k, ea⟩ : ∃ k : Nat, a.toInt = (k : Int) := ⟨a.toInt.toNat, by omega⟩
      obtain ⟨w, ew⟩ : ∃ w : Nat, b.toInt = (w : Int) := ⟨b.toInt.toNat, by omega⟩
      have kG : (k : Int) < nowG g 57 := by omega
      obtain ⟨C, -, -⟩ := JC_1 jg (JC_c jg kG)
      obtain ⟨-, c2, -⟩ := C
      obtain ⟨⟨r1, r2⟩, -⟩ := c2.2.2.2.2.1 k kG
      have r1 : 1 ≤ (g.1 64 (45 + 3 * k)).toInt := r1
      refine q_158k a k ea (by omega) ?_
      refine zri_int ?_
      refine q_203 _ b (g.1 64 (45 + 3 * k)).toInt.toNat w (by omega) ew (fun t => ?_) (fun t => ?_)
      · refine zri_int ⟨fun u => absurd u (by decide), fun _ => ?_⟩
        exact s_126 a (zri_int (k1 ⟨k, w, ea, kG, ew, by omega, t⟩))
      · refine zri_int ⟨fun _ => ?_, fun u => absurd (by decide) u⟩
        exact s_125 _ (zri_int (k0 ⟨k, w, ea, kG, ew, by omega, t⟩))
    obtain ⟨m6, m0, m4⟩ := JC_men hJ.1
    refine s_109 a b ?_
    refine q_20 a (by omega) ?_
    refine zri_int ?_
    refine ⟨fun z _ => ?_, fun z => ⟨fun y _ => ?_, fun y => ⟨fun x _ _ => ?_, fun x _ => ?_⟩⟩⟩
    · have z := zb0.mp z
      refine REF h _ hJ.1 (fun t => ?_) (fun t => ?_) (fun _ _ => ⟨rfl, hJ⟩)
      · exfalso
        obtain ⟨k, w, t1, t2, t3, t4, t5⟩ := t
        omega
      · exfalso
        obtain ⟨k, w, t1, t2, t3, t4, t5⟩ := t
        omega
    · refine REF h _ hJ.1 (fun t => ?_) (fun t => ?_) (fun _ _ => ⟨rfl, hJ⟩)
      · exfalso
        obtain ⟨k, w, t1, t2, t3, t4, t5⟩ := t
        omega
      · exfalso
        obtain ⟨k, w, t1, t2, t3, t4, t5⟩ := t
        omega
    · have z := zb1.mp z
      obtain ⟨k, ea⟩ : ∃ k : Nat, a.toInt = (k : Int) := ⟨a.toInt.toNat, by omega⟩
      obtain ⟨w, ew⟩ : ∃ w : Nat, b.toInt = (w : Int) := ⟨b.toInt.toNat, by omega⟩
      have kG : (k : Int) < nowG h 57 := by omega
      obtain ⟨C, -, -⟩ := JC_1 hJ.1 (JC_c hJ.1 kG)
      obtain ⟨-, c2, -, -, -, -, -, -, -, -, -, -, c13⟩ := C
      obtain ⟨u1, -⟩ := c13 k kG
      obtain ⟨⟨r1, r2⟩, -⟩ := c2.2.2.2.2.1 k kG
      have u1 : (h.1 17 k).toInt = gyK (nowG h) k := u1
      have eK : (h.1 64 (45 + 3 * k)).toInt = gyK (nowG h) k := rfl
      rw [show a.toInt.toNat = k by omega]
      refine q_3 _ b (gyK (nowG h) k).toNat w (by omega) (by omega) ew (fun t => ?_) (fun t => ?_)
      · refine zri_int ⟨fun u => absurd u (by decide), fun _ => ?_⟩
        refine s_115 a (zri_int (fun _ => ?_))
        refine REF _ _ (JC_s0 _ hJ.1) (fun _ _ => ⟨rfl, JC_s58 _ (JC_s0 _ hJ.1), JS_s h _⟩) (fun y => ?_) (fun y => ?_)
        · exfalso
          obtain ⟨k', w', t1, t2, t3, t4, t5⟩ := y
          rw [zs_q (by decide)] at t5
          have : k' = k := by omega
          subst this
          have : w' = w := by omega
          subst this
          rw [eK] at t5
          exact t5 t
        · exact absurd ⟨by omega, (by show a.toInt < (((zSet h 0 11 _).1 64) 57).toInt; rw [zs_q (by decide)]; show _ < nowG h 57; omega), by omega, by omega⟩ y
      · refine zri_int ⟨fun _ => ?_, fun u => absurd (by decide) u⟩
        refine s_114 _ (zri_int (fun _ => ?_))
        refine REF _ _ (JC_s0 _ hJ.1) (fun y => ?_) (fun _ _ => ⟨rfl, JC_s58 _ (JC_s0 _ hJ.1), JS_s h _⟩) (fun y => ?_)
        · exfalso
          obtain ⟨k', w', t1, t2, t3, t4, t5⟩ := y
          rw [zs_q (by decide)] at t5
          have : k' = k := by omega
          subst this
          have : w' = w := by omega
          subst this
          rw [eK] at t5
          exact t t5
        · exact absurd ⟨by omega, (by show a.toInt < (((zSet h 0 11 _).1 64) 57).toInt; rw [zs_q (by decide)]; show _ < nowG h 57; omega), by omega, by omega⟩ y
    · refine REF h _ hJ.1 (fun t => ?_) (fun t => ?_) (fun _ _ => ⟨rfl, hJ⟩)
      · exfalso
        obtain ⟨k, w, t1, t2, t3, t4, t5⟩ := t
        omega
      · exfalso
        obtain ⟨k, w, t1, t2, t3, t4, t5⟩ := t
        omega
theorem pr_s {MA MB n : Nat} (hp : pr2 MA MB n JR) (hs : pS MA MB n JR) : pr2 MA MB n JRS := fun as hl hv h ht hJ => zqm_imp (zqm_and (hp as hl hv h ht hJ.1) (hs as hl hv h ht hJ.1 hJ.2)) (fun rv h1 k ht1 => zqm_imp (zqm_and (k.1 ht1) (k.2 ht1)) (fun rv' h2 k2 ht2 => ⟨(k2.1 ht2).1, (k2.1 ht2).2, k2.2 ht2⟩))
theorem pr_rowS : pr2 80 130 3 JRS := pr_s pr_row ps_row
theorem pr_setS : pr2 81 131 3 JRS := pr_s pr_set ps_set
theorem pr_copyS : pr2 82 133 5 JRS := pr_s pr_copy ps_copy
theorem pr_dropS : pr2 83 134 1 JRS := pr_s pr_drop ps_drop
theorem pr_eachS : pr2 97 187 2 JCRS := by
  intro as hl hv h ht hJ
  match as, hl, hv with
  | [v1, v2], hl, hv =>
    obtain ⟨a, rfl⟩ := hv v1 (by simp)
    obtain ⟨b, rfl⟩ := hv v2 (by simp)
    exact zqm_imp (each_ok h a b ht hJ.1 hJ.2.1) (fun rv h1 k _ => zqm_imp k (fun rv' h2 k2 _ => ⟨k2.1, (nrB_J k2.2.1 ⟨hJ.1, hJ.2.1⟩).1, (nrB_J k2.2.1 ⟨hJ.1, hJ.2.1⟩).2, k2.2.2 hJ.2.2⟩))
theorem pr_fitS : pr2 98 189 3 JCRS := by
  intro as hl hv h ht hJ
  match as, hl, hv with
  | [v1, v2, v3], hl, hv =>
    obtain ⟨a, rfl⟩ := hv v1 (by simp)
    obtain ⟨b, rfl⟩ := hv v2 (by simp)
    obtain ⟨w, rfl⟩ := hv v3 (by simp)
    exact zqm_imp (fit_ok h a b w ht hJ.1 hJ.2.1) (fun rv h1 k _ => zqm_imp k (fun rv' h2 k2 _ => ⟨k2.1, (nrB_J k2.2.1 ⟨hJ.1, hJ.2.1⟩).1, (nrB_J k2.2.1 ⟨hJ.1, hJ.2.1⟩).2, k2.2.2 hJ.2.2⟩))
theorem pr_scratchS : pr2 99 190 2 JCRS := by
  intro as hl hv h ht hJ
  match as, hl, hv with
  | [v1, v2], hl, hv =>
    obtain ⟨a, rfl⟩ := hv v1 (by simp)
    obtain ⟨b, rfl⟩ := hv v2 (by simp)
    exact zqm_imp (scratch_ok h a b ht hJ.1 hJ.2.1) (fun rv h1 k _ => zqm_imp k (fun rv' h2 k2 _ => ⟨k2.1, (nrB_J k2.2.1 ⟨hJ.1, hJ.2.1⟩).1, (nrB_J k2.2.1 ⟨hJ.1, hJ.2.1⟩).2, k2.2.2 hJ.2.2⟩))
theorem pr_quarrelS : pr2 104 196 3 JRS := by
  intro as hl hv h ht hJ
  match as, hl, hv with
  | [v1, v2, v3], hl, hv =>
    obtain ⟨a, rfl⟩ := hv v1 (by simp)
    obtain ⟨b, rfl⟩ := hv v2 (by simp)
    obtain ⟨w, rfl⟩ := hv v3 (by simp)
    exact zqm_imp (quarrel_ok h a b w ht hJ.1) (fun rv h1 k _ => zqm_imp k (fun rv' h2 k2 _ => ⟨k2.1, JR_fr (fun q hq => k2.2.1.1 q (by omega) (by omega) (by omega) (by omega) (by omega) (by omega)) hJ.1, k2.2.2 hJ.2⟩))

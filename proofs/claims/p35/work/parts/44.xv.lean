/-! asked of a cell; what is unfelt -/
theorem l_22 {h : zH} {Q : Option Value → zH → Prop} (x1 : Int32) (c : Nat) (D : Nat → Int) (e1 : x1.toInt = (c : Int)) (hc : c < 15) (d0 : 0 ≤ D c) (d3 : D c < 3) (cD : ∀ d : Nat, d < 3 → h.1 16 d = mkm (fun c => decide (D c = (d : Int))) 15) (H : ∀ v : Int32, v.toInt = D c → Q (some (.int v)) h) : ∀ (n d : Nat) (x2 : Int32), x2.toInt = (d : Int) → (d : Int) ≤ D c → zQ n 22 2 [some (.ref 15), some (.int x1), some (.int x2)] [] h Q
  | 0, _, _, _, _ => zQ_zero
  | n + 1, d, x2, e2, hd => by
    refine s_22_2 x1 x2 ⟨fun z => by exfalso; omega, fun z _ _ => ?_⟩
    rw [show x2.toInt.toNat = d by omega, cD d (by omega), bt_has e1 (by omega), mkm_bt _ 15 (by omega) c (by omega), decide_eq_true hc, Bool.true_and]
    have e2' := ai (x := x2) (k := 1) (by omega) (by omega) (by omega) (by omega)
    by_cases y : D c = (d : Int)
    · rw [decide_eq_true y]
      exact ⟨fun t => absurd rfl t, fun _ => H x2 (by omega)⟩
    · rw [decide_eq_false y]
      exact ⟨fun _ => l_22 x1 c D e1 hc d0 d3 cD H n (d + 1) _ (by omega) (by omega), fun t => absurd (by decide) t⟩
theorem l_23 {h : zH} {Q : Option Value → zH → Prop} (x1 : Int32) (c K : Nat) (F : Nat → Nat → Bool) (e1 : x1.toInt = (c : Int)) (hc : c < 15) (hK : (h.1 15 6).toInt = (K : Int)) (K4 : K ≤ 4) (cF : ∀ s : Nat, s < K → h.1 20 s = mkm (F s) 15) (H : Q (some (.int (mkm (fun s => F s c) K))) h) : ∀ (n s : Nat) (x2 x3 : Int32), x3.toInt = (s : Int) → s ≤ K → x2 = mkm (fun s => F s c) s → zQ n 23 4 [some (.ref 15), some (.int x1), some (.int x2), some (.int x3)] [] h Q
  | 0, _, _, _, _, _, _ => zQ_zero
  | n + 1, s, x2, x3, e3, hs, e2 => by
    refine s_23_4 x1 x2 x3 ⟨fun d => ?_, fun d => ⟨fun y => by exfalso; omega, fun y _ _ => ?_⟩⟩
    · have : s = K := by omega
      subst this
      rw [e2]
      exact H
    · have e3' := ai (x := x3) (k := 1) (by omega) (by omega) (by omega) (by omega)
      refine l_23 x1 c K F e1 hc hK K4 cF H n (s + 1) _ _ (by omega) (by omega) ?_
      rw [show x3.toInt.toNat = s by omega, cF s (by omega), bt_at e1 (by omega), mkm_bt _ 15 (by omega) c (by omega), decide_eq_true hc, Bool.true_and]
      cases hf : F s c with
      | true =>
        rw [if_pos rfl]
        exact mkm_1 e2 e3 (by omega) hf
      | false =>
        rw [if_neg (by decide), show Int32.ofInt 0 <<< (x3 &&& 31) = Int32.ofInt 0 by rw [x_nI e3 (by omega)]; have : s = 0 ∨ s = 1 ∨ s = 2 ∨ s = 3 := by { omega }; rcases this with z | z | z | z <;> subst z <;> decide]
        exact mkm_0 e2 hf
theorem l_175 {h : zH} {Q : Option Value → zH → Prop} (x1 x2 : Int32) (c K : Nat) (F : Nat → Nat → Bool) (S : Nat → Bool) (e1 : x1.toInt = (c : Int)) (hc : c < 15) (hK : (h.1 64 57).toInt = (K : Int)) (K4 : K ≤ 4) (cF : ∀ s : Nat, s < K → h.1 66 s = mkm (F s) 15) (cS : h.1 58 13 = mkm S 15) (k3 : ¬ x2.toInt = 4 → Q (some (.int (if S c then Int32.ofInt 1 else Int32.ofInt 0))) h) (k4 : x2.toInt = 4 → Q (some (.int (mkm (fun s => F s c) K))) h) : ∀ (n s : Nat) (x3 x4 : Int32), x4.toInt = (s : Int) → s ≤ K → x3 = mkm (fun s => F s c) s → zQ n 175 71 [some (.ref 58), some (.int x1), some (.int x2), some (.int x3), some (.int x4)] [] h Q
  | 0, _, _, _, _, _, _ => zQ_zero
  | n + 1, s, x3, x4, e4, hs, e3 => by
    refine s_175_71 x1 x2 x3 x4 ⟨fun d => ⟨fun y => ?_, fun y => ?_⟩, fun d => ?_⟩
    · refine q_154s x1 c e1 hc S cS ?_
      refine zri_int ?_
      have k3 := k3 y
      refine ⟨fun t => ?_, fun t => ?_⟩
      · rw [if_neg (zb0.mp t)] at k3; exact k3
      · rw [if_pos (zb1.mp t)] at k3; exact k3
    · have : s = K := by omega
      subst this
      rw [e3]
      exact k4 (Decidable.not_not.mp y)
    · have e4' := ai (x := x4) (k := 1) (by omega) (by omega) (by omega) (by omega)
      refine q_161 x4 x1 s c e4 (by omega) e1 hc (F s) (cF s (by omega)) ?_
      refine zri_int ?_
      refine ⟨fun t => ?_, fun t => ?_⟩
      · exact l_175 x1 x2 c K F S e1 hc hK K4 cF cS k3 k4 n (s + 1) _ _ (by omega) (by omega) (mkm_0 e3 (by simpa using zb0.mp t))
      · exact l_175 x1 x2 c K F S e1 hc hK K4 cF cS k3 k4 n (s + 1) _ _ (by omega) (by omega) (mkm_1 e3 e4 (by omega) (zb1.mp t))
theorem pr_cell : pr2 92 175 2 JC := by
  intro as hl hv h ht hJ
  match as, hl, hv with
  | [v1, v2], hl, hv =>
    obtain ⟨a, rfl⟩ := hv v1 (by simp)
    obtain ⟨b, rfl⟩ := hv v2 (by simp)
    by_cases hs : nowG h 61 = 1
    · obtain ⟨C, cS, cF⟩ := JC_1 hJ hs
      obtain ⟨c1, c2, c3, c4, c5, c6, c7, c8, c9, c10, c11, c12, c13⟩ := id C
      obtain ⟨w1, w2, w3, w4, w5, w6⟩ := id c2
      obtain ⟨K, eK⟩ : ∃ K : Nat, nowG h 57 = (K : Int) := ⟨(nowG h 57).toNat, by omega⟩
      have eK' : (h.1 64 57).toInt = (K : Int) := eK
      refine s_92 a b ⟨fun _ => ?_, fun z => absurd (by rw [c3]; decide) z⟩
      refine q_119 a ?_
      refine zri_int ?_
      refine ⟨fun z => ?_, fun z _ => ?_⟩
      · have z := zb1.mp z
        obtain ⟨c, ea⟩ : ∃ c : Nat, a.toInt = (c : Int) := ⟨a.toInt.toNat, by omega⟩
        have hc : c < 15 := by omega
        obtain ⟨r1, r2, r3⟩ := w1 c hc
        have REF : ∀ P : Option Value → zH → Prop, (b.toInt = 0 → P (some (.int (h.1 64 c))) h) → (b.toInt = 1 → P (some (.int (h.1 64 (15 + c)))) h) → (b.toInt = 2 → P (some (.int (h.1 64 (30 + c)))) h) → (b.toInt = 3 → P (some (.int (if smB (gyD (nowG h)) c then Int32.ofInt 1 else Int32.ofInt 0))) h) → (b.toInt = 4 → P (some (.int (mkm (fun s => flB (gyD (nowG h)) (gyE (nowG h) s) c) K))) h) → (¬ (0 ≤ b.toInt ∧ b.toInt ≤ 4) → P (some (.int (-1000001 : Int32))) h) → zqm 175 [.ref 58, .int a, .int b] h P := fun P k0 k1 k2 k3 k4 kb => by
          refine s_175 a b (fun n => ?_)
          refine q_150 ?_
          refine zri_int ?_
          refine ⟨fun _ => ?_, fun t => absurd hs (zb2.mp t)⟩
          refine q_151 a ?_
          refine zri_int ?_
          refine ⟨fun t => absurd z (zb0.mp t), fun _ => ?_⟩
          refine q_121 _ _ _ ?_
          refine zri_int ?_
          rw [kc_0, kc_4]
          refine ⟨fun t => ?_, fun t => kb (zb2.mp t)⟩
          have t := zb1.mp t
          refine ⟨fun y => ?_, fun y => ⟨fun x => ⟨fun u => ?_, fun u => ?_⟩, fun x => ?_⟩⟩
          · exact l_175 a b c K (fun s => flB (gyD (nowG h)) (gyE (nowG h) s)) (smB (gyD (nowG h))) ea hc eK' (by omega) (fun s hs => cF s (by omega)) cS (fun u => k3 (by omega)) k4 n 0 _ _ kc_0 (by omega) rfl
          · rw [oI30 ea hc, n30]
            intro _ _
            exact k2 (by omega)
          · rw [oI15 ea hc, n15]
            intro _ _
            exact k1 (by omega)
          · rw [oI0 ea hc, nat_c]
            intro _ _
            exact k0 (by omega)
        refine ⟨fun y => ?_, fun y => ?_, fun y => ?_, fun y _ => ?_, fun y => ?_, fun y _ => ?_⟩
        · refine q_48 c6 ea hc r1.1 r1.2 (fun v e => ?_)
          refine zri_int ?_
          exact fun _ => REF _ (fun _ _ => ⟨vi (by rw [e]; rfl), hJ⟩) (fun t => by exfalso; omega) (fun t => by exfalso; omega) (fun t => by exfalso; omega) (fun t => by exfalso; omega) (fun t => by exfalso; omega)
        · refine q_48 c7 ea hc r2.1 r2.2 (fun v e => ?_)
          refine zri_int ?_
          exact fun _ => REF _ (fun t => by exfalso; omega) (fun _ _ => ⟨vi (by rw [e]; rfl), hJ⟩) (fun t => by exfalso; omega) (fun t => by exfalso; omega) (fun t => by exfalso; omega) (fun t => by exfalso; omega)
        · refine s_22 a (fun n => l_22 a c (gyD (nowG h)) ea hc r3.1 r3.2 c12 (fun v e => ?_) n 0 _ kc_0 r3.1)
          refine zri_int ?_
          exact fun _ => REF _ (fun t => by exfalso; omega) (fun t => by exfalso; omega) (fun _ _ => ⟨vi (by rw [e]; rfl), hJ⟩) (fun t => by exfalso; omega) (fun t => by exfalso; omega) (fun t => by exfalso; omega)
        · refine REF _ (fun t => by exfalso; omega) (fun t => by exfalso; omega) (fun t => by exfalso; omega) (fun _ _ => ⟨?_, hJ⟩) (fun t => by exfalso; omega) (fun t => by exfalso; omega)
          rw [c10, bt_at ea (by omega), mkm_bt _ 15 (by omega) c (by omega), decide_eq_true hc, Bool.true_and]
        · refine s_23 a (fun n => l_23 a c K (fun s => flB (gyD (nowG h)) (gyE (nowG h) s)) ea hc (by rw [c9, eK]) (by omega) (fun s hs => (c13 s (by omega)).2.2.2.1) ?_ n 0 _ _ kc_0 (by omega) rfl)
          refine zri_int ?_
          exact fun _ => REF _ (fun t => by exfalso; omega) (fun t => by exfalso; omega) (fun t => by exfalso; omega) (fun t => by exfalso; omega) (fun _ _ => ⟨rfl, hJ⟩) (fun t => by exfalso; omega)
        · exact REF _ (fun t => by exfalso; omega) (fun t => by exfalso; omega) (fun t => by exfalso; omega) (fun t => by exfalso; omega) (fun t => by exfalso; omega) (fun _ _ => ⟨rfl, hJ⟩)
      · refine s_175 a b (fun n => ?_)
        refine q_150 ?_
        refine zri_int ?_
        refine ⟨fun _ => ?_, fun t => absurd hs (zb2.mp t)⟩
        refine q_151 a ?_
        refine zri_int ?_
        exact ⟨fun _ _ => ⟨rfl, hJ⟩, fun t => absurd (zb1.mp t) (zb2.mp z)⟩
    · obtain ⟨z1, z2⟩ := JC_0 hJ hs
      refine s_92 a b ⟨fun z => absurd (z2 0 (by decide)) z, fun _ _ => ?_⟩
      refine s_175 a b (fun n => ?_)
      refine q_150 ?_
      refine zri_int ?_
      exact ⟨fun z => absurd (zb1.mp z) hs, fun _ _ => ⟨rfl, hJ⟩⟩
/-! what is unfelt -/
theorem any_iff {K : Nat} {p : Nat → Bool} : anyc K p = true ↔ ∃ s, s < K ∧ p s = true := by
  unfold anyc
  rw [List.any_eq_true]
  simp [List.mem_range]
theorem sumc_0 {f : Nat → Int} : ∀ n : Nat, (∀ s : Nat, s < n → 0 ≤ f s) → (sumc f n = 0 ↔ ∀ s : Nat, s < n → f s = 0) ∧ 0 ≤ sumc f n
  | 0, _ => ⟨⟨fun _ s hs => by omega, fun _ => rfl⟩, Int.le_refl 0⟩
  | n + 1, h => by
    have ih := sumc_0 n (fun s hs => h s (by omega))
    have hn := h n (by omega)
    have i2 := ih.2
    show (sumc f n + f n = 0 ↔ _) ∧ 0 ≤ sumc f n + f n
    refine ⟨⟨fun e s hs => ?_, fun e => ?_⟩, by omega⟩
    · by_cases z : s = n
      · subst z; omega
      · exact ih.1.mp (by omega) s (by omega)
    · have a := ih.1.mpr (fun s hs => e s (by omega))
      have b := e n (by omega)
      omega
theorem its_one {G : Nat → Int} {s c : Nat} : ∀ n : Nat, itcS G s (fun i => decide (i = c)) n = if c < n then itv G s c else 0
  | 0 => by rw [if_neg (by omega)]; rfl
  | n + 1 => by
    show itcS G s (fun i => decide (i = c)) n + (if decide (n = c) = true then itv G s n else 0) = _
    rw [its_one n]
    by_cases z : n = c
    · subst z
      rw [if_neg (by omega), if_pos (by simp), if_pos (by omega)]
      omega
    · rw [if_neg (show ¬ decide (n = c) = true by simpa using z)]
      by_cases y : c < n
      · rw [if_pos y, if_pos (by omega)]; omega
      · rw [if_neg y, if_neg (by omega)]; omega
def aiS (G : Nat → Int) (p : Nat → Bool) (n : Nat) : Int := sumc (fun s => itcS G s p 15) n
theorem l_166 {h : zH} {Q : Option Value → zH → Prop} (x1 : Int32) (p : Nat → Bool) (e1 : x1 = mkm p 15) (w : wfG (nowG h)) (cF : ∀ s : Nat, (s : Int) < nowG h 57 → h.1 66 s = mkm (flB (gyD (nowG h)) (gyE (nowG h) s)) 15) (cS : h.1 58 13 = mkm (smB (gyD (nowG h))) 15) (H : ∀ v : Int32, v.toInt = aiS (nowG h) p (gyN (nowG h)) → Q (some (.int v)) h) : ∀ (n s : Nat) (x2 x3 : Int32), x3.toInt = (s : Int) → (s : Int) ≤ nowG h 57 → x2.toInt = aiS (nowG h) p s → 0 ≤ x2.toInt → x2.toInt ≤ 150 * (s : Int) → zQ n 166 4 [some (.ref 58), some (.int x1), some (.int x2), some (.int x3)] [] h Q
  | 0, _, _, _, _, _, _, _, _ => zQ_zero
  | n + 1, s, x2, x3, e3, hs, e2, b0, b1 => by
    have w2 := w.2.1
    have e57 : (h.1 64 57).toInt = nowG h 57 := rfl
    refine s_166_4 x1 x2 x3 ⟨fun d => ?_, fun d => ?_⟩
    · have : gyN (nowG h) = s := by unfold gyN; omega
      exact H x2 (by rw [this]; exact e2)
    · have sG : (s : Int) < nowG h 57 := by omega
      obtain ⟨-, -, ⟨s1, s5⟩⟩ := w.2.2.2.2.1 s sG
      have r := itcS_r (p := p) s1 s5 15
      have e3' := ai (x := x3) (k := 1) (by omega) (by omega) (by omega) (by omega)
      refine q_164 x3 x1 s p e3 e1 w sG (cF s sG) cS (fun v e => ?_)
      refine zri_int ?_
      have ea := wk_add (x := x2) (y := v) rfl e (by omega) (by omega)
      exact l_166 x1 p e1 w cF cS H n (s + 1) _ _ (by omega) (by omega) (by rw [ea, e2]; rfl) (by omega) (by omega)
theorem ai_it {G : Nat → Int} (w : wfG G) {c : Nat} (hc : c < 15) : aiS G (fun i => decide (i = c)) (gyN G) = 0 ↔ gyI G c = false := by
  have e : ∀ s : Nat, itcS G s (fun i => decide (i = c)) 15 = itv G s c := fun s => by rw [its_one, if_pos hc]
  have n0 : ∀ s : Nat, s < gyN G → 0 ≤ itcS G s (fun i => decide (i = c)) 15 := fun s hs => by
    unfold gyN at hs
    have w2 := w.2.1
    obtain ⟨-, -, ⟨s1, s5⟩⟩ := w.2.2.2.2.1 s (by omega)
    rw [e s]
    exact (itv_r s1 s5).1
  refine (sumc_0 (gyN G) n0).1.trans ?_
  constructor
  · intro hz
    apply Bool.eq_false_iff.mpr
    intro ht
    obtain ⟨s, hs, hk⟩ := any_iff.mp (show anyc (gyN G) (fun s => tk (gyD G) (gyE G s) (gyK G s) (gyS G s) c) = true from ht)
    have z := hz s hs
    rw [e s] at z
    unfold tk at hk
    rw [Bool.and_eq_true, decide_eq_true_eq] at hk
    unfold itv at z
    rw [if_pos hk.1] at z
    omega
  · intro hf s hs
    have w2 := w.2.1
    obtain ⟨-, -, ⟨s1, s5⟩⟩ := w.2.2.2.2.1 s (by unfold gyN at hs; omega)
    have a := itA_r (k := gyK G s) s1 s5
    have b := itW_r (k := gyK G s) s1 s5
    rw [e s]
    apply Decidable.byContradiction
    intro hn
    have : gyI G c = true := any_iff.mpr ⟨s, hs, by
      unfold tk
      unfold itv at hn
      by_cases z : flB (gyD G) (gyE G s) c = true
      · rw [if_pos z] at hn
        rw [z, Bool.true_and, decide_eq_true_eq]
        by_cases y : smB (gyD G) c = true
        · rw [if_pos y] at hn ⊢
          omega
        · rw [if_neg y] at hn ⊢
          omega
      · rw [if_neg z] at hn
        exact absurd rfl hn⟩
    rw [hf] at this
    cases this
theorem one_c {y : Int32} {c : Nat} (e : y.toInt = (c : Int)) (hc : c < 15) : Int32.ofInt 1 <<< (y &&& 31) = mkm (fun i => decide (i = c)) 15 := mkm_eq (by omega) (fun i hi => by
  show _ = (decide (i < 15) && decide (i = c))
  rw [bt_1shl e (by omega) hi]
  by_cases z : i = c
  · rw [decide_eq_true z, decide_eq_true (show i < 15 by omega)]; rfl
  · rw [decide_eq_false z, Bool.and_false])
theorem l_184 {h : zH} {Q : Option Value → zH → Prop} (w : wfG (nowG h)) (cF : ∀ s : Nat, (s : Int) < nowG h 57 → h.1 66 s = mkm (flB (gyD (nowG h)) (gyE (nowG h) s)) 15) (cS : h.1 58 13 = mkm (smB (gyD (nowG h))) 15) (H : Q (some (.int (mkm (fun c => !gyI (nowG h) c) 15 &&& mkm (wr (nowG h)) 15))) h) : ∀ (n c : Nat) (x1 x2 : Int32), x2.toInt = (c : Int) → c ≤ 15 → x1 = mkm (fun c => !gyI (nowG h) c) c → zQ n 184 14 [some (.ref 58), some (.int x1), some (.int x2)] [] h Q
  | 0, _, _, _, _, _, _ => zQ_zero
  | n + 1, c, x1, x2, e2, hc, e1 => by
    have w2 := w.2.1
    refine s_184_14 x1 x2 ⟨fun d => ?_, fun d => ?_⟩
    · have c15 : c = 15 := by omega
      subst c15
      refine q_156_64 ?_
      refine zri_int ?_
      rw [e1]
      exact H
    · have e2' := ai (x := x2) (k := 1) (by omega) (by omega) (by omega) (by omega)
      refine s_166 _ (fun m => l_166 _ (fun i => decide (i = c)) (one_c e2 (by omega)) w cF cS (fun v e => ?_) m 0 _ _ kc_0 (by omega) (by rw [kc_0]; rfl) (by decide) (by decide))
      refine zri_int ?_
      refine ⟨fun z => ?_, fun z => ?_⟩
      · refine l_184 w cF cS H n (c + 1) _ _ (by omega) (by omega) (mkm_0 e1 ?_)
        show (!gyI (nowG h) c) = false
        have : ¬ gyI (nowG h) c = false := fun y => z (by rw [e]; exact (ai_it w (by omega)).mpr y)
        rw [show gyI (nowG h) c = true by simpa using this]
        rfl
      · refine l_184 w cF cS H n (c + 1) _ _ (by omega) (by omega) (mkm_1 e1 e2 (by omega) ?_)
        show (!gyI (nowG h) c) = true
        rw [(ai_it w (by omega)).mp (by rw [← e]; exact Decidable.not_not.mp z)]
        rfl
theorem pr_unfelt : pr2 96 184 0 JC := by
  intro as hl hv h ht hJ
  have e : as = [] := List.eq_nil_of_length_eq_zero hl
  subst e
  by_cases hs : nowG h 61 = 1
  · obtain ⟨C, cS, cF⟩ := JC_1 hJ hs
    obtain ⟨c1, c2, c3, c4, c5, c6, c7, c8, c9, c10, c11, c12, c13⟩ := id C
    obtain ⟨w1, w2, w3, w4, w5, w6⟩ := id c2
    refine s_96 ⟨fun z => absurd z (by rw [c3]; decide), fun _ => ?_⟩
    refine q_25 (nowG h) c6 c7 (fun c hc => ⟨(w1 c hc).1, (w1 c hc).2.1⟩) ?_
    refine zri_int ?_
    intro _
    refine s_184 (fun n => ?_)
    refine q_150 ?_
    refine zri_int ?_
    refine ⟨fun _ => ?_, fun t => absurd hs (zb2.mp t)⟩
    refine l_184 c2 cF cS (fun _ => ⟨?_, hJ⟩) n 0 _ _ kc_0 (by omega) rfl
    rw [c11, mkm_andn, mkm_and]
    exact congrArg (fun z => some (Value.int z)) (mkm_congr (by omega) (fun c hc => Bool.and_comm _ _))
  · obtain ⟨z1, z2⟩ := JC_0 hJ hs
    refine s_96 ⟨fun _ _ => ?_, fun z => absurd (z2 0 (by decide)) z⟩
    refine s_184 (fun n => ?_)
    refine q_150 ?_
    refine zri_int ?_
    exact ⟨fun z => absurd (zb1.mp z) hs, fun _ _ => ⟨rfl, hJ⟩⟩

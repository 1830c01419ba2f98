/-! asked of a surveyor, bits, what is unfelt -/
theorem q_165 {h : zH} {Q : Option Value → zH → Prop} (a1 : Int32) (s : Nat) (e1 : a1.toInt = (s : Int)) (w : wfG (nowG h)) (sG : (s : Int) < nowG h 57) (hF : h.1 66 s = mkm (flB (gyD (nowG h)) (gyE (nowG h) s)) 15) (hS : h.1 58 13 = mkm (smB (gyD (nowG h))) 15) (H : ∀ v : Int32, v.toInt = itcS (nowG h) s (wr (nowG h)) 15 → Q (some (.int v)) h) : zqm 165 [.ref 58, .int a1] h Q := by
  refine s_165 a1 ?_
  refine q_156_64 ?_
  refine zri_int ?_
  refine q_164 a1 _ s (wr (nowG h)) e1 rfl w sG hF hS (fun v e => ?_)
  exact zri_int (H v e)
theorem q_176 {h : zH} {Q : Option Value → zH → Prop} (a b : Int32) (k : Nat) (e1 : a.toInt = (k : Int)) (m0 : 0 ≤ nowG h 57) (m4 : nowG h 57 ≤ 4) (kG : (k : Int) < nowG h 57) (k0 : b.toInt = 0 → Q (some (.int (h.1 64 (45 + 3 * k + 1)))) h) (k1 : b.toInt = 1 → Q (some (.int (h.1 64 (45 + 3 * k + 2)))) h) (k2 : b.toInt = 2 → zqm 165 [.ref 58, .int a] h (fun rv h9 => zri rv (fun v9 => Q (some (.int v9)) h9))) (k3 : b.toInt = 3 → Q (some (.int (h.1 66 k))) h) (kb : ¬ (0 ≤ b.toInt ∧ b.toInt ≤ 3) → Q (some (.int (-1000001 : Int32))) h) : zqm 176 [.ref 58, .int a, .int b] h Q := by
  refine s_176 a b ?_
  refine q_152 a m0 m4 ?_
  refine zri_int ?_
  refine ⟨fun z => absurd (by omega) (zb0.mp z), fun _ => ?_⟩
  refine q_121 _ _ _ ?_
  refine zri_int ?_
  rw [kc_0, kc_3]
  refine ⟨fun z => ?_, fun z => kb (zb2.mp z)⟩
  have z := zb1.mp z
  refine ⟨fun y0 => ⟨fun y1 => ⟨fun y2 => ?_, fun y2 => ?_⟩, fun y1 => ?_⟩, fun y0 => ?_⟩
  · refine s_162 a (fun _ _ => ?_)
    refine zri_int ?_
    rw [show a.toInt.toNat = k by omega]
    exact k3 (by omega)
  · exact k2 (by omega)
  · refine s_160 a ?_
    rw [wk_add (o45 e1 (by omega)) kc_2 (by omega) (by omega), show (((45 + 3 * k : Nat) : Int) + 2).toNat = 45 + 3 * k + 2 by omega]
    intro _ _
    exact zri_int (k1 (by omega))
  · refine s_159 a ?_
    rw [wk_add (o45 e1 (by omega)) kc_1 (by omega) (by omega), show (((45 + 3 * k : Nat) : Int) + 1).toNat = 45 + 3 * k + 1 by omega]
    intro _ _
    exact zri_int (k0 (by omega))
theorem vi {a b : Int32} (e : a.toInt = b.toInt) : some (Value.int a) = some (Value.int b) := congrArg (fun z => some (Value.int z)) (e10m e)
theorem pr_surveyor : pr2 93 176 2 JC := by
  intro as hl hv h ht hJ
  match as, hl, hv with
  | [v1, v2], hl, hv =>
    obtain ⟨a, rfl⟩ := hv v1 (by simp)
    obtain ⟨b, rfl⟩ := hv v2 (by simp)
    obtain ⟨m6, m0, m4⟩ := JC_men hJ
    refine s_93 a b ?_
    refine q_20 a (by omega) ?_
    refine zri_int ?_
    refine ⟨fun z => ?_, fun z _ => ?_⟩
    · have z := zb1.mp z
      have hs : nowG h 61 = 1 := by
        apply Decidable.byContradiction
        intro y
        have := (JC_0 hJ y).1 57 (by decide)
        omega
      obtain ⟨C, cS, cF⟩ := JC_1 hJ hs
      obtain ⟨c1, c2, c3, c4, c5, c6, c7, c8, c9, c10, c11, c12, c13⟩ := id C
      obtain ⟨w1, w2, w3, w4, w5, w6⟩ := id c2
      obtain ⟨k, ea⟩ : ∃ k : Nat, a.toInt = (k : Int) := ⟨a.toInt.toNat, by omega⟩
      have kG : (k : Int) < nowG h 57 := by omega
      have kn : a.toInt.toNat = k := by omega
      obtain ⟨u1, u2, u3, u4, u5, u6⟩ := c13 k kG
      refine ⟨fun y _ _ _ => ?_, fun y _ _ _ => ?_, fun y => ?_, fun y _ _ _ => ?_, fun y _ => ?_⟩
      · rw [kn]
        refine q_176 a b k ea m0 m4 kG (fun _ _ => ⟨vi ?_, hJ⟩) (fun t => by exfalso; omega) (fun t => by exfalso; omega) (fun t => by exfalso; omega) (fun t => by exfalso; omega)
        exact u2.symm
      · rw [kn]
        refine q_176 a b k ea m0 m4 kG (fun t => by exfalso; omega) (fun _ _ => ⟨vi ?_, hJ⟩) (fun t => by exfalso; omega) (fun t => by exfalso; omega) (fun t => by exfalso; omega)
        exact u3.symm
      · refine q_25 (nowG h) c6 c7 (fun c hc => ⟨(w1 c hc).1, (w1 c hc).2.1⟩) ?_
        refine zri_int ?_
        refine q_17 a _ k (wr (nowG h)) C ea kG rfl (fun v e => ?_)
        refine zri_int ?_
        intro _
        refine q_176 a b k ea m0 m4 kG (fun t => by exfalso; omega) (fun t => by exfalso; omega) (fun _ => ?_) (fun t => by exfalso; omega) (fun t => by exfalso; omega)
        refine q_165 a k ea c2 kG (cF k kG) cS (fun v' e' => ?_)
        refine zri_int ?_
        exact fun _ => ⟨vi (by rw [e, e']), hJ⟩
      · rw [kn]
        refine q_176 a b k ea m0 m4 kG (fun t => by exfalso; omega) (fun t => by exfalso; omega) (fun t => by exfalso; omega) (fun _ _ => ⟨?_, hJ⟩) (fun t => by exfalso; omega)
        rw [cF k kG, ← u4]
      · refine q_176 a b k ea m0 m4 kG (fun t => by exfalso; omega) (fun t => by exfalso; omega) (fun t => by exfalso; omega) (fun t => by exfalso; omega) (fun _ _ => ⟨rfl, hJ⟩)
    · refine s_176 a b ?_
      refine q_152 a m0 m4 ?_
      refine zri_int ?_
      exact ⟨fun _ _ => ⟨rfl, hJ⟩, fun t => absurd (by have := zb1.mp t; omega) (zb2.mp z)⟩
/-! who rests -/
def rsB (G : Nat → Int) (p : Nat → Bool) (s : Nat) : Bool := decide (itcS G s p 15 = 0)
theorem l_24 {h : zH} {Q : Option Value → zH → Prop} {G : Nat → Int} (x1 : Int32) (p : Nat → Bool) (C : CT1 h 15 G) (e1 : x1 = mkm p 15) (H : Q (some (.int (mkm (rsB G p) (gyN G)))) h) : ∀ (n s : Nat) (x2 x3 : Int32), x3.toInt = (s : Int) → (s : Int) ≤ G 57 → x2 = mkm (rsB G p) s → zQ n 24 4 [some (.ref 15), some (.int x1), some (.int x2), some (.int x3)] [] h Q
  | 0, _, _, _, _, _, _ => zQ_zero
  | n + 1, s, x2, x3, e3, hs, e2 => by
    have c9 := C.2.2.2.2.2.2.2.2.1
    have w2 := C.2.1.2.1
    refine s_24_4 x1 x2 x3 ⟨fun d => ?_, fun d => ?_⟩
    · have : gyN G = s := by unfold gyN; omega
      rw [e2, ← this]
      exact H
    · have e3' := ai (x := x3) (k := 1) (by omega) (by omega) (by omega) (by omega)
      refine q_17 x3 x1 s p C e3 (by omega) e1 (fun v e => ?_)
      refine zri_int ?_
      refine ⟨fun z => ?_, fun z => ?_⟩
      · exact l_24 x1 p C e1 H n (s + 1) _ _ (by omega) (by omega) (mkm_0 e2 (decide_eq_false (by rw [← e]; exact z)))
      · exact l_24 x1 p C e1 H n (s + 1) _ _ (by omega) (by omega) (mkm_1 e2 e3 (by omega) (decide_eq_true (by rw [← e]; exact Decidable.not_not.mp z)))
theorem l_177 {h : zH} {Q : Option Value → zH → Prop} (x1 : Int32) (p : Nat → Bool) (e1 : x1 = mkm p 15) (w : wfG (nowG h)) (cF : ∀ s : Nat, (s : Int) < nowG h 57 → h.1 66 s = mkm (flB (gyD (nowG h)) (gyE (nowG h) s)) 15) (cS : h.1 58 13 = mkm (smB (gyD (nowG h))) 15) (H : Q (some (.int (mkm (rsB (nowG h) p) (gyN (nowG h))))) h) : ∀ (n s : Nat) (x2 x3 : Int32), x3.toInt = (s : Int) → (s : Int) ≤ nowG h 57 → x2 = mkm (rsB (nowG h) p) s → zQ n 177 4 [some (.ref 58), some (.int x1), some (.int x2), some (.int x3)] [] h Q
  | 0, _, _, _, _, _, _ => zQ_zero
  | n + 1, s, x2, x3, e3, hs, e2 => by
    have w2 := w.2.1
    have e57 : (h.1 64 57).toInt = nowG h 57 := rfl
    refine s_177_4 x1 x2 x3 ⟨fun d => ?_, fun d => ?_⟩
    · have : gyN (nowG h) = s := by unfold gyN; omega
      rw [e2, ← this]
      exact H
    · have e3' := ai (x := x3) (k := 1) (by omega) (by omega) (by omega) (by omega)
      refine q_164 x3 x1 s p e3 e1 w (by omega) (cF s (by omega)) cS (fun v e => ?_)
      refine zri_int ?_
      refine ⟨fun z => ?_, fun z => ?_⟩
      · exact l_177 x1 p e1 w cF cS H n (s + 1) _ _ (by omega) (by omega) (mkm_0 e2 (decide_eq_false (by rw [← e]; exact z)))
      · exact l_177 x1 p e1 w cF cS H n (s + 1) _ _ (by omega) (by omega) (mkm_1 e2 e3 (by omega) (decide_eq_true (by rw [← e]; exact Decidable.not_not.mp z)))
theorem pr_bits : pr2 94 178 1 JC := by
  intro as hl hv h ht hJ
  match as, hl, hv with
  | [v1], hl, hv =>
    obtain ⟨a, rfl⟩ := hv v1 (by simp)
    by_cases hs : nowG h 61 = 1
    · obtain ⟨C, cS, cF⟩ := JC_1 hJ hs
      obtain ⟨c1, c2, c3, c4, c5, c6, c7, c8, c9, c10, c11, c12, c13⟩ := id C
      obtain ⟨w1, w2, w3, w4, w5, w6⟩ := id c2
      have REF : ∀ P : Option Value → zH → Prop, (a.toInt = 0 → P (some (.int (mkm (wr (nowG h)) 15))) h) → (a.toInt = 1 → P (some (.int (h.1 58 13))) h) → (a.toInt = 2 → zqm 177 [.ref 58, .int (mkm (wr (nowG h)) 15)] h (fun rv h8 => zri rv (fun v8 => P (some (.int v8)) h8))) → (¬ (0 ≤ a.toInt ∧ a.toInt ≤ 2) → P (some (.int (-1000001 : Int32))) h) → zqm 178 [.ref 58, .int a] h P := fun P k0 k1 k2 kb => by
        refine s_178 a ?_
        refine q_150 ?_
        refine zri_int ?_
        refine ⟨fun _ => ?_, fun t => absurd hs (zb2.mp t)⟩
        refine q_121 _ _ _ ?_
        refine zri_int ?_
        rw [kc_0, kc_2]
        refine ⟨fun z => ?_, fun z => kb (zb2.mp z)⟩
        have z := zb1.mp z
        refine q_156_64 ?_
        refine zri_int ?_
        refine ⟨fun y0 => ⟨fun y1 => k2 (by omega), fun y1 => ?_⟩, fun y0 => k0 (by omega)⟩
        refine s_157 ?_
        exact zri_int (k1 (by omega))
      have W : ∀ c : Nat, c < 15 → (0 ≤ nowG h c ∧ nowG h c ≤ 3) ∧ (0 ≤ nowG h (15 + c) ∧ nowG h (15 + c) ≤ 3) := fun c hc => ⟨(w1 c hc).1, (w1 c hc).2.1⟩
      refine s_94 a ⟨fun _ => ⟨fun y => ?_, fun y _ => ?_, fun y => ?_, fun y _ => ?_⟩, fun z => absurd (by rw [c3]; decide) z⟩
      · refine q_25 (nowG h) c6 c7 W ?_
        refine zri_int ?_
        intro _
        exact REF _ (fun _ _ => ⟨rfl, hJ⟩) (fun t => by exfalso; omega) (fun t => by exfalso; omega) (fun t => by exfalso; omega)
      · exact REF _ (fun t => by exfalso; omega) (fun _ _ => ⟨by rw [cS, c10], hJ⟩) (fun t => by exfalso; omega) (fun t => by exfalso; omega)
      · refine q_25 (nowG h) c6 c7 W ?_
        refine zri_int ?_
        refine s_24 _ (fun n => l_24 _ (wr (nowG h)) C rfl ?_ n 0 _ _ kc_0 (by omega) rfl)
        refine zri_int ?_
        intro _
        refine REF _ (fun t => by exfalso; omega) (fun t => by exfalso; omega) (fun _ => ?_) (fun t => by exfalso; omega)
        refine s_177 _ (fun n => l_177 _ (wr (nowG h)) rfl c2 cF cS ?_ n 0 _ _ kc_0 (by omega) rfl)
        exact zri_int (fun _ => ⟨rfl, hJ⟩)
      · exact REF _ (fun t => by exfalso; omega) (fun t => by exfalso; omega) (fun t => by exfalso; omega) (fun _ _ => ⟨rfl, hJ⟩)
    · obtain ⟨z1, z2⟩ := JC_0 hJ hs
      refine s_94 a ⟨fun z => absurd (z2 0 (by decide)) z, fun _ _ => ?_⟩
      refine s_178 a ?_
      refine q_150 ?_
      refine zri_int ?_
      exact ⟨fun z => absurd (zb1.mp z) hs, fun _ _ => ⟨rfl, hJ⟩⟩

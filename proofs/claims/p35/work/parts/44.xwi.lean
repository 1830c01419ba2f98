/-! counts; what is found of rows -/
abbrev JN : zH → Prop := fun h => JT h ∧ JC h ∧ JA h ∧ JR h
theorem l_73 {h : zH} {Q : Option Value → zH → Prop} (H : ∀ v : Int32, v.toInt = ((cnt (fun r => !decide ((h.1 12 r).toInt < 0)) 8 : Nat) : Int) → Q (some (.int v)) h) : ∀ (n r : Nat) (x1 x2 : Int32), x2.toInt = (r : Int) → r ≤ 8 → x1.toInt = ((cnt (fun r => !decide ((h.1 12 r).toInt < 0)) r : Nat) : Int) → zQ n 73 4 [some (.ref 1), some (.int x1), some (.int x2)] [] h Q
  | 0, _, _, _, _, _, _ => zQ_zero
  | n + 1, r, x1, x2, e2, hr, e1 => by
    have cl := cnt_le (fun r => !decide ((h.1 12 r).toInt < 0)) r
    have cs := cnt_s (p := fun r => !decide ((h.1 12 r).toInt < 0)) (n := r)
    refine s_73_4 x1 x2 ⟨fun d => ?_, fun d => ?_⟩
    · have : r = 8 := by omega
      subst this
      exact H x1 e1
    · have e2' := ai (x := x2) (k := 1) (by omega) (by omega) (by omega) (by omega)
      have e1' := ai (x := x1) (k := 1) (by omega) (by omega) (by omega) (by omega)
      refine q_70 x2 ?_
      rw [show x2.toInt.toNat = r by omega]
      refine zri_int ⟨fun z => ?_, fun z => ?_⟩
      · have z := zb1.mp z
        refine l_73 H n (r + 1) _ _ (by omega) (by omega) ?_
        rw [cs, e1, decide_eq_true (show (h.1 12 r).toInt < 0 by omega)]
        rfl
      · have z := zb2.mp z
        refine l_73 H n (r + 1) _ _ (by omega) (by omega) ?_
        rw [cs, e1', e1, decide_eq_false (show ¬ (h.1 12 r).toInt < 0 by omega)]
        rfl
theorem l_215 {h : zH} {Q : Option Value → zH → Prop} (x1 : Int32) (H : ∀ x2 : Int32, x2.toInt = ((cnt (fun r => !decide ((h.1 59 r).toInt < 0)) 8 : Nat) : Int) → ((x1.toInt = 0 → Q (some (.int x2)) h) ∧ ((x1.toInt = 1 → Q (some (.int (h.1 64 57))) h) ∧ ((x1.toInt = 2 → Q (some (.int (h.1 64 58))) h) ∧ ((x1.toInt = 3 → Q (some (.int (h.1 64 59))) h) ∧ ((x1.toInt = 4 → Q (some (.int (h.1 64 60))) h) ∧ ((x1.toInt = 5 → zqm 156 [.ref 58, .ref 64] h (fun rv h3 => zri rv (fun v3 => zqm 123 [.int v3] h3 (fun rv h4 => zri rv (fun v4 => Q (some (.int v4)) h4))))) ∧ ((x1.toInt = 6 → Q (some (.int (h.1 58 12))) h) ∧ ((x1.toInt = 7 → Q (some (.int (h.1 58 5))) h) ∧ ((x1.toInt < 0 ∨ 7 < x1.toInt) → Q (some (.int (-1000001 : Int32))) h)))))))))) : ∀ (n r : Nat) (x2 x3 : Int32), x3.toInt = (r : Int) → r ≤ 8 → x2.toInt = ((cnt (fun r => !decide ((h.1 59 r).toInt < 0)) r : Nat) : Int) → zQ n 215 4 [some (.ref 58), some (.int x1), some (.int x2), some (.int x3)] [] h Q
  | 0, _, _, _, _, _, _ => zQ_zero
  | n + 1, r, x2, x3, e3, hr, e2 => by
    have cl := cnt_le (fun r => !decide ((h.1 59 r).toInt < 0)) r
    have cs := cnt_s (p := fun r => !decide ((h.1 59 r).toInt < 0)) (n := r)
    refine s_215_4 x1 x2 x3 ⟨fun d => ?_, fun d => ?_⟩
    · have : r = 8 := by omega
      subst this
      exact H x2 e2
    · have e3' := ai (x := x3) (k := 1) (by omega) (by omega) (by omega) (by omega)
      have e21 := ai (x := x2) (k := 1) (by omega) (by omega) (by omega) (by omega)
      have e20 := ai (x := x2) (k := 0) (by omega) (by omega) (by omega) (by omega)
      refine q_129 x3 ?_
      rw [show x3.toInt.toNat = r by omega]
      refine zri_int ⟨fun z => ?_, fun z => ?_⟩
      · have z := zb0.mp z
        refine l_215 x1 H n (r + 1) _ _ (by omega) (by omega) ?_
        rw [cs, e21, e2, decide_eq_false z]
        rfl
      · have z := zb1.mp z
        refine l_215 x1 H n (r + 1) _ _ (by omega) (by omega) ?_
        rw [cs, e20, e2, decide_eq_true z]
        rfl
theorem JC_pl {h : zH} (hJ : JC h) : pl (h.1 15 3) (nowG h) ∧ pl (h.1 15 4) (fun c => nowG h (15 + c)) ∧ (∀ c : Nat, c < 15 → (0 ≤ nowG h c ∧ nowG h c ≤ 3) ∧ (0 ≤ nowG h (15 + c) ∧ nowG h (15 + c) ≤ 3)) ∧ (h.1 15 1).toInt = nowG h 58 ∧ (h.1 15 2).toInt = nowG h 59 ∧ (h.1 15 5).toInt = nowG h 60 ∧ (h.1 15 6).toInt = nowG h 57 := by
  by_cases hs : nowG h 61 = 1
  · obtain ⟨C, -, -⟩ := JC_1 hJ hs
    obtain ⟨c1, c2, c3, c4, c5, c6, c7, c8, c9, -⟩ := id C
    exact ⟨c6, c7, fun c hc => ⟨(c2.1 c hc).1, (c2.1 c hc).2.1⟩, c4, c5, c8, c9⟩
  · obtain ⟨z1, z2⟩ := JC_0 hJ hs
    have pz : ∀ (m : Int32) (f : Nat → Int), m.toInt = 0 → (∀ c : Nat, c < 15 → f c = 0) → pl m f := fun m f em ef c hc => by
      rw [show m = Int32.ofInt 0 from e10m (em.trans kc_0.symm), bt_0, bt_0, ef c hc]
      exact ⟨rfl, rfl⟩
    refine ⟨pz _ _ (z2 3 (by decide)) (fun c hc => z1 c (by omega)), pz _ _ (z2 4 (by decide)) (fun c hc => z1 (15 + c) (by omega)), fun c hc => ?_, ?_, ?_, ?_, ?_⟩
    · rw [z1 c (by omega), z1 (15 + c) (by omega)]
      decide
    · rw [z2 1 (by decide), z1 58 (by decide)]
    · rw [z2 2 (by decide), z1 59 (by decide)]
    · rw [z2 5 (by decide), z1 60 (by decide)]
    · rw [z2 6 (by decide), z1 57 (by decide)]
theorem pr_count : pr2 112 215 1 JN := by
  intro as hl hv h ht hJ
  match as, hl, hv with
  | [v1], hl, hv =>
    obtain ⟨a, rfl⟩ := hv v1 (by simp)
    obtain ⟨jT, jC, jA, jR⟩ := id hJ
    obtain ⟨p3, p4, pw, p58, p59, p60, p57⟩ := JC_pl jC
    have ec : cnt (fun r => !decide ((h.1 12 r).toInt < 0)) 8 = cnt (fun r => !decide ((h.1 59 r).toInt < 0)) 8 := cnt_congr (fun r hr => by
      have := (jR r hr).1
      rw [show decide ((h.1 12 r).toInt < 0) = decide ((h.1 59 r).toInt < 0) from decide_eq_decide.mpr this])
    obtain ⟨nA, A, a1, a2, -⟩ := jA
    have REF : ∀ P : Option Value → zH → Prop, (a.toInt = 0 → ∀ v : Int32, v.toInt = ((cnt (fun r => !decide ((h.1 12 r).toInt < 0)) 8 : Nat) : Int) → P (some (.int v)) h) → (a.toInt = 1 → P (some (.int (h.1 64 57))) h) → (a.toInt = 2 → P (some (.int (h.1 64 58))) h) → (a.toInt = 3 → P (some (.int (h.1 64 59))) h) → (a.toInt = 4 → P (some (.int (h.1 64 60))) h) → (a.toInt = 5 → ∀ v : Int32, v.toInt = ((cnt (wr (nowG h)) 15 : Nat) : Int) → P (some (.int v)) h) → (a.toInt = 6 → P (some (.int (h.1 58 12))) h) → (a.toInt = 7 → P (some (.int (h.1 58 5))) h) → (a.toInt < 0 ∨ 7 < a.toInt → P (some (.int (-1000001 : Int32))) h) → zqm 215 [.ref 58, .int a] h P := fun P k0 k1 k2 k3 k4 k5 k6 k7 kb => by
      refine s_215 a (fun n => l_215 a (fun x2 e2 => ⟨fun z => k0 z x2 (by rw [e2, ec]), k1, k2, k3, k4, fun z => ?_, k6, k7, kb⟩) n 0 _ _ kc_0 (by omega) kc_0)
      refine q_156_64 ?_
      refine zri_int ?_
      refine q_123 _ (wr (nowG h)) rfl (fun v ev => ?_)
      exact zri_int (k5 z v ev)
    refine s_112 a ⟨fun z => ?_, fun z _ => ?_, fun z _ => ?_, fun z _ => ?_, fun z _ => ?_, fun z => ?_, fun z _ => ?_, fun z _ => ?_, fun z _ => ?_⟩
    · refine s_73 (fun n => l_73 (fun v ev => ?_) n 0 _ _ kc_0 (by omega) kc_0)
      refine zri_int (fun _ => ?_)
      exact REF _ (fun _ u eu _ => ⟨vi (by rw [eu, ev]), hJ⟩) (fun t => by exfalso; omega) (fun t => by exfalso; omega) (fun t => by exfalso; omega) (fun t => by exfalso; omega) (fun t => by exfalso; omega) (fun t => by exfalso; omega) (fun t => by exfalso; omega) (fun t => by exfalso; omega)
    · exact REF _ (fun t => by exfalso; omega) (fun _ _ => ⟨vi p57.symm, hJ⟩) (fun t => by exfalso; omega) (fun t => by exfalso; omega) (fun t => by exfalso; omega) (fun t => by exfalso; omega) (fun t => by exfalso; omega) (fun t => by exfalso; omega) (fun t => by exfalso; omega)
    · exact REF _ (fun t => by exfalso; omega) (fun t => by exfalso; omega) (fun _ _ => ⟨vi p58.symm, hJ⟩) (fun t => by exfalso; omega) (fun t => by exfalso; omega) (fun t => by exfalso; omega) (fun t => by exfalso; omega) (fun t => by exfalso; omega) (fun t => by exfalso; omega)
    · exact REF _ (fun t => by exfalso; omega) (fun t => by exfalso; omega) (fun t => by exfalso; omega) (fun _ _ => ⟨vi p59.symm, hJ⟩) (fun t => by exfalso; omega) (fun t => by exfalso; omega) (fun t => by exfalso; omega) (fun t => by exfalso; omega) (fun t => by exfalso; omega)
    · exact REF _ (fun t => by exfalso; omega) (fun t => by exfalso; omega) (fun t => by exfalso; omega) (fun t => by exfalso; omega) (fun _ _ => ⟨vi p60.symm, hJ⟩) (fun t => by exfalso; omega) (fun t => by exfalso; omega) (fun t => by exfalso; omega) (fun t => by exfalso; omega)
    · refine q_25 (nowG h) p3 p4 pw ?_
      refine zri_int ?_
      refine q_217 _ (wr (nowG h)) rfl (fun v ev => ?_)
      refine zri_int (fun _ => ?_)
      exact REF _ (fun t => by exfalso; omega) (fun t => by exfalso; omega) (fun t => by exfalso; omega) (fun t => by exfalso; omega) (fun t => by exfalso; omega) (fun _ u eu _ => ⟨vi (by rw [eu, ev]), hJ⟩) (fun t => by exfalso; omega) (fun t => by exfalso; omega) (fun t => by exfalso; omega)
    · exact REF _ (fun t => by exfalso; omega) (fun t => by exfalso; omega) (fun t => by exfalso; omega) (fun t => by exfalso; omega) (fun t => by exfalso; omega) (fun t => by exfalso; omega) (fun _ _ => ⟨vi (by rw [a2.1, a1.1]), hJ⟩) (fun t => by exfalso; omega) (fun t => by exfalso; omega)
    · exact REF _ (fun t => by exfalso; omega) (fun t => by exfalso; omega) (fun t => by exfalso; omega) (fun t => by exfalso; omega) (fun t => by exfalso; omega) (fun t => by exfalso; omega) (fun t => by exfalso; omega) (fun _ _ => ⟨by rw [jT.1], hJ⟩) (fun t => by exfalso; omega)
    · exact REF _ (fun t => by exfalso; omega) (fun t => by exfalso; omega) (fun t => by exfalso; omega) (fun t => by exfalso; omega) (fun t => by exfalso; omega) (fun t => by exfalso; omega) (fun t => by exfalso; omega) (fun t => by exfalso; omega) (fun _ _ => ⟨rfl, hJ⟩)

/-! segments: the reference -/
theorem s_121 {h : zH} {Q : Option Value → zH → Prop} (a0 : Int32) (a1 : Int32) (a2 : Int32) (H : ((a0.toInt < a1.toInt → Q (some (.int (Int32.ofInt 0))) h) ∧ (¬ (a0.toInt < a1.toInt) → ((a2.toInt < a0.toInt → Q (some (.int (Int32.ofInt 0))) h) ∧ (¬ (a2.toInt < a0.toInt) → Q (some (.int (Int32.ofInt 1))) h))))) : zqm 121 [.int a0, .int a1, .int a2] h Q := by
  refine zqm_of zp_121 (fun n => ?_)
  show zQ n 121 0 [some (.int a0), some (.int a1), some (.int a2)] [] h Q
  refine zQ_seq 2 (pc' := 2) (L' := [some (.int a0), some (.int a1), some (.int a2)]) (S' := [.int a1, .int a0]) (h' := h) zp_121 rfl ?_
  refine zQ_ic zp_121 rfl (t := 14) rfl (i := a0.toInt) (j := a1.toInt) rfl rfl (fun c1 => ?_) (fun c1 => ?_)
  · refine zQ_seq 1 (pc' := 15) (L' := [some (.int a0), some (.int a1), some (.int a2)]) (S' := [.int (Int32.ofInt 0)]) (h' := h) zp_121 rfl ?_
    exact zQ_retI zp_121 rfl (H.1 c1)
  · refine zQ_seq 2 (pc' := 7) (L' := [some (.int a0), some (.int a1), some (.int a2)]) (S' := [.int a2, .int a0]) (h' := h) zp_121 rfl ?_
    refine zQ_ic zp_121 rfl (t := 14) rfl (i := a0.toInt) (j := a2.toInt) rfl rfl (fun c2 => ?_) (fun c2 => ?_)
    · refine zQ_seq 1 (pc' := 15) (L' := [some (.int a0), some (.int a1), some (.int a2)]) (S' := [.int (Int32.ofInt 0)]) (h' := h) zp_121 rfl ?_
      exact zQ_retI zp_121 rfl ((H.2 c1).1 c2)
    · refine zQ_seq 1 (pc' := 11) (L' := [some (.int a0), some (.int a1), some (.int a2)]) (S' := [.int (Int32.ofInt 1)]) (h' := h) zp_121 rfl ?_
      refine zQ_goto zp_121 rfl (t := 15) rfl ?_
      exact zQ_retI zp_121 rfl ((H.2 c1).2 c2)
theorem s_122 {h : zH} {Q : Option Value → zH → Prop} (a0 : Int32) (a1 : Int32) (H : ((¬ ((a0 >>> (a1 &&& 31)) &&& (Int32.ofInt 1)).toInt = (1 : Int) → Q (some (.int (Int32.ofInt 0))) h) ∧ (¬ (¬ ((a0 >>> (a1 &&& 31)) &&& (Int32.ofInt 1)).toInt = (1 : Int)) → Q (some (.int (Int32.ofInt 1))) h))) : zqm 122 [.int a0, .int a1] h Q := by
  refine zqm_of zp_122 (fun n => ?_)
  show zQ n 122 0 [some (.int a0), some (.int a1)] [] h Q
  refine zQ_seq 6 (pc' := 6) (L' := [some (.int a0), some (.int a1)]) (S' := [.int (Int32.ofInt 1), .int ((a0 >>> (a1 &&& 31)) &&& (Int32.ofInt 1))]) (h' := h) zp_122 rfl ?_
  refine zQ_ic zp_122 rfl (t := 13) rfl (i := ((a0 >>> (a1 &&& 31)) &&& (Int32.ofInt 1)).toInt) (j := (1 : Int)) rfl kc_1 (fun c1 => ?_) (fun c1 => ?_)
  · refine zQ_seq 1 (pc' := 14) (L' := [some (.int a0), some (.int a1)]) (S' := [.int (Int32.ofInt 0)]) (h' := h) zp_122 rfl ?_
    exact zQ_retI zp_122 rfl (H.1 c1)
  · refine zQ_seq 1 (pc' := 10) (L' := [some (.int a0), some (.int a1)]) (S' := [.int (Int32.ofInt 1)]) (h' := h) zp_122 rfl ?_
    refine zQ_goto zp_122 rfl (t := 14) rfl ?_
    exact zQ_retI zp_122 rfl (H.2 c1)
theorem s_123 {h : zH} {Q : Option Value → zH → Prop} (a0 : Int32) (H : (∀ n, zQ n 123 4 [some (.int a0), some (.int (Int32.ofInt 0)), some (.int a0)] [] h Q)) : zqm 123 [.int a0] h Q := by
  refine zqm_of zp_123 (fun n => ?_)
  have H := H n
  show zQ n 123 0 [some (.int a0), none, none] [] h Q
  refine zQ_seq 4 (pc' := 4) (L' := [some (.int a0), some (.int (Int32.ofInt 0)), some (.int a0)]) (S' := []) (h' := h) zp_123 rfl ?_
  exact H
theorem s_123_4 {n : Nat} {h : zH} {Q : Option Value → zH → Prop} (x0 : Int32) (x1 : Int32) (x2 : Int32) (H : ((x2.toInt = 0 → Q (some (.int x1)) h) ∧ (¬ (x2.toInt = 0) → zQ n 123 4 [some (.int x0), some (.int (x1 + Int32.ofInt 1)), some (.int (x2 &&& (x2 - (Int32.ofInt 1))))] [] h Q))) : zQ (n + 1) 123 4 [some (.int x0), some (.int x1), some (.int x2)] [] h Q := by
  refine zQ_seqL 0 (pc' := 5) (L' := [some (.int x0), some (.int x1), some (.int x2)]) (S' := [.int x2]) (h' := h) zp_123 rfl ?_
  refine zQ_if zp_123 rfl (t := 20) rfl (i := x2.toInt) rfl (fun c1 => ?_) (fun c1 => ?_)
  · refine zQ_seq 1 (pc' := 21) (L' := [some (.int x0), some (.int x1), some (.int x2)]) (S' := [.int x1]) (h' := h) zp_123 rfl ?_
    exact zQ_retI zp_123 rfl (H.1 c1)
  · refine zQ_seq 7 (pc' := 17) (L' := [some (.int x0), some (.int (x1 + Int32.ofInt 1)), some (.int (x2 &&& (x2 - (Int32.ofInt 1))))]) (S' := []) (h' := h) zp_123 rfl ?_
    refine zQ_goto zp_123 rfl (t := 4) rfl ?_
    exact (H.2 c1)
theorem s_124 {h : zH} {Q : Option Value → zH → Prop} (a0 : Int32) (H : ((0 ≤ a0.toInt → Q (some (.int a0)) h) ∧ (¬ (0 ≤ a0.toInt) → Q (some (.int (-a0))) h))) : zqm 124 [.int a0] h Q := by
  refine zqm_of zp_124 (fun n => ?_)
  show zQ n 124 0 [some (.int a0)] [] h Q
  refine zQ_seq 1 (pc' := 1) (L' := [some (.int a0)]) (S' := [.int a0]) (h' := h) zp_124 rfl ?_
  refine zQ_if zp_124 rfl (t := 9) rfl (i := a0.toInt) rfl (fun c1 => ?_) (fun c1 => ?_)
  · refine zQ_seq 1 (pc' := 10) (L' := [some (.int a0)]) (S' := [.int a0]) (h' := h) zp_124 rfl ?_
    exact zQ_retI zp_124 rfl (H.1 c1)
  · refine zQ_seq 2 (pc' := 6) (L' := [some (.int a0)]) (S' := [.int (-a0)]) (h' := h) zp_124 rfl ?_
    refine zQ_goto zp_124 rfl (t := 10) rfl ?_
    exact zQ_retI zp_124 rfl (H.2 c1)
theorem s_125 {h : zH} {Q : Option Value → zH → Prop} (a1 : Int32) (H : Q (some (.int ((-1000010 : Int32) - a1))) (zSet h 58 3 a1)) : zqm 125 [.ref 58, .int a1] h Q := by
  refine zqm_of zp_125 (fun n => ?_)
  show zQ n 125 0 [some (.ref 58), some (.int a1)] [] h Q
  refine zQ_seq 6 (pc' := 9) (L' := [some (.ref 58), some (.int a1)]) (S' := [.int ((-1000010 : Int32) - a1)]) (h' := (zSet h 58 3 a1)) zp_125 rfl ?_
  exact zQ_retI zp_125 rfl H
theorem s_126 {h : zH} {Q : Option Value → zH → Prop} (a1 : Int32) (H : Q (some (.int a1)) (zSet h 58 3 (Int32.ofInt 0))) : zqm 126 [.ref 58, .int a1] h Q := by
  refine zqm_of zp_126 (fun n => ?_)
  show zQ n 126 0 [some (.ref 58), some (.int a1)] [] h Q
  refine zQ_seq 4 (pc' := 6) (L' := [some (.ref 58), some (.int a1)]) (S' := [.int a1]) (h' := (zSet h 58 3 (Int32.ofInt 0))) zp_126 rfl ?_
  exact zQ_retI zp_126 rfl H
theorem s_127 {h : zH} {Q : Option Value → zH → Prop} (H : Q (some (.int (h.1 58 3))) h) : zqm 127 [.ref 58] h Q := by
  refine zqm_of zp_127 (fun n => ?_)
  show zQ n 127 0 [some (.ref 58)] [] h Q
  refine zQ_seq 2 (pc' := 4) (L' := [some (.ref 58)]) (S' := [.int (h.1 58 3)]) (h' := h) zp_127 rfl ?_
  exact zQ_retI zp_127 rfl H
theorem s_128 {h : zH} {Q : Option Value → zH → Prop} (a0 : Int32) (H : zqm 121 [.int a0, .int (Int32.ofInt 0), .int (Int32.ofInt 7)] h (fun rv h1 => zri rv (fun v1 => Q (some (.int v1)) h1))) : zqm 128 [.int a0] h Q := by
  refine zqm_of zp_128 (fun n => ?_)
  show zQ n 128 0 [some (.int a0)] [] h Q
  refine zQ_seq 3 (pc' := 4) (L' := [some (.int a0)]) (S' := [.int (Int32.ofInt 7), .int (Int32.ofInt 0), .int a0]) (h' := h) zp_128 rfl ?_
  refine zQ_csI (M' := 121) (as := [.int a0, .int (Int32.ofInt 0), .int (Int32.ofInt 7)]) (S' := []) zp_128 rfl rfl rfl zp_121 (Or.inr rfl) rfl rfl (zqm_imp H (fun rv h1 r1 => zri_imp r1 (fun v1 r1' => ?_)))
  exact zQ_retI zp_128 rfl r1'
theorem s_129 {h : zH} {Q : Option Value → zH → Prop} (a1 : Int32) (H : (0 ≤ a1.toInt → a1.toInt < 8 → ((0 ≤ (h.1 59 a1.toInt.toNat).toInt → Q (some (.int (Int32.ofInt 0))) h) ∧ (¬ (0 ≤ (h.1 59 a1.toInt.toNat).toInt) → Q (some (.int (Int32.ofInt 1))) h)))) : zqm 129 [.ref 58, .int a1] h Q := by
  refine zqm_of zp_129 (fun n => ?_)
  show zQ n 129 0 [some (.ref 58), some (.int a1)] [] h Q
  refine zQ_seq 3 (pc' := 5) (L' := [some (.ref 58), some (.int a1)]) (S' := [.int a1, .ref 59]) (h' := h) zp_129 rfl ?_
  refine zQ_ial (N := 8) (f := h.1 59) zp_129 rfl rfl rfl (fun b1 b1' => ?_)
  refine zQ_if zp_129 rfl (t := 13) rfl (i := (h.1 59 a1.toInt.toNat).toInt) rfl (fun c2 => ?_) (fun c2 => ?_)
  · refine zQ_seq 1 (pc' := 14) (L' := [some (.ref 58), some (.int a1)]) (S' := [.int (Int32.ofInt 0)]) (h' := h) zp_129 rfl ?_
    exact zQ_retI zp_129 rfl ((H b1 b1').1 c2)
  · refine zQ_seq 1 (pc' := 10) (L' := [some (.ref 58), some (.int a1)]) (S' := [.int (Int32.ofInt 1)]) (h' := h) zp_129 rfl ?_
    refine zQ_goto zp_129 rfl (t := 14) rfl ?_
    exact zQ_retI zp_129 rfl ((H b1 b1').2 c2)
theorem s_130 {h : zH} {Q : Option Value → zH → Prop} (a1 : Int32) (a2 : Int32) (a3 : Int32) (H : (∀ n, zqm 128 [.int a1] h (fun rv h1 => zri rv (fun v1 => ((v1.toInt = 0 → Q (some (.int (-1000001 : Int32))) h1) ∧ (¬ (v1.toInt = 0) → zqm 121 [.int a2, .int (Int32.ofInt 0), .int (Int32.ofInt 2)] h1 (fun rv h3 => zri rv (fun v3 => ((v3.toInt = 0 → Q (some (.int (-1000001 : Int32))) h3) ∧ (¬ (v3.toInt = 0) → ((a3.toInt ≤ (40 : Int) → ((0 ≤ a3.toInt → (0 ≤ a1.toInt → a1.toInt < 8 → (0 ≤ a1.toInt → a1.toInt < 8 → zQ n 130 52 [some (.ref 58), some (.int a1), some (.int a2), some (.int a3), some (.int (Int32.ofInt 0))] [] (zSet (zSet h3 59 a1.toInt.toNat a2) 60 a1.toInt.toNat a3) Q))) ∧ (¬ (0 ≤ a3.toInt) → zqm 125 [.ref 58, .int (Int32.ofInt 4)] h3 (fun rv h9 => zri rv (fun v9 => Q (some (.int v9)) h9))))) ∧ (¬ (a3.toInt ≤ (40 : Int)) → Q (some (.int (-1000001 : Int32))) h3)))))))))))) : zqm 130 [.ref 58, .int a1, .int a2, .int a3] h Q := by
  refine zqm_of zp_130 (fun n => ?_)
  have H := H n
  show zQ n 130 0 [some (.ref 58), some (.int a1), some (.int a2), some (.int a3), none] [] h Q
  refine zQ_seq 1 (pc' := 1) (L' := [some (.ref 58), some (.int a1), some (.int a2), some (.int a3), none]) (S' := [.int a1]) (h' := h) zp_130 rfl ?_
  refine zQ_csI (M' := 128) (as := [.int a1]) (S' := []) zp_130 rfl rfl rfl zp_128 (Or.inr rfl) rfl rfl (zqm_imp H (fun rv h1 r1 => zri_imp r1 (fun v1 r1' => ?_)))
  refine zQ_if zp_130 rfl (t := 22) rfl (i := v1.toInt) rfl (fun c2 => ?_) (fun c2 => ?_)
  · refine zQ_seq 1 (pc' := 24) (L' := [some (.ref 58), some (.int a1), some (.int a2), some (.int a3), none]) (S' := [.int (-1000001 : Int32)]) (h' := h1) zp_130 rfl ?_
    exact zQ_retI zp_130 rfl (r1'.1 c2)
  · refine zQ_seq 3 (pc' := 10) (L' := [some (.ref 58), some (.int a1), some (.int a2), some (.int a3), none]) (S' := [.int (Int32.ofInt 2), .int (Int32.ofInt 0), .int a2]) (h' := h1) zp_130 rfl ?_
    refine zQ_csI (M' := 121) (as := [.int a2, .int (Int32.ofInt 0), .int (Int32.ofInt 2)]) (S' := []) zp_130 rfl rfl rfl zp_121 (Or.inr rfl) rfl rfl (zqm_imp (r1'.2 c2) (fun rv h3 r3 => zri_imp r3 (fun v3 r3' => ?_)))
    refine zQ_if zp_130 rfl (t := 22) rfl (i := v3.toInt) rfl (fun c4 => ?_) (fun c4 => ?_)
    · refine zQ_seq 1 (pc' := 24) (L' := [some (.ref 58), some (.int a1), some (.int a2), some (.int a3), none]) (S' := [.int (-1000001 : Int32)]) (h' := h3) zp_130 rfl ?_
      exact zQ_retI zp_130 rfl (r3'.1 c4)
    · refine zQ_seq 2 (pc' := 19) (L' := [some (.ref 58), some (.int a1), some (.int a2), some (.int a3), none]) (S' := [.int (Int32.ofInt 40), .int a3]) (h' := h3) zp_130 rfl ?_
      refine zQ_ic zp_130 rfl (t := 25) rfl (i := a3.toInt) (j := (40 : Int)) rfl kc_40 (fun c5 => ?_) (fun c5 => ?_)
      · refine zQ_seq 1 (pc' := 26) (L' := [some (.ref 58), some (.int a1), some (.int a2), some (.int a3), none]) (S' := [.int a3]) (h' := h3) zp_130 rfl ?_
        refine zQ_if zp_130 rfl (t := 35) rfl (i := a3.toInt) rfl (fun c6 => ?_) (fun c6 => ?_)
        · refine zQ_seq 4 (pc' := 41) (L' := [some (.ref 58), some (.int a1), some (.int a2), some (.int a3), none]) (S' := [.int a2, .int a1, .ref 59]) (h' := h3) zp_130 rfl ?_
          refine zQ_ias (N := 8) zp_130 rfl rfl rfl (fun b7 b7' => ?_)
          refine zQ_seq 4 (pc' := 48) (L' := [some (.ref 58), some (.int a1), some (.int a2), some (.int a3), none]) (S' := [.int a3, .int a1, .ref 60]) (h' := (zSet h3 59 a1.toInt.toNat a2)) zp_130 rfl ?_
          refine zQ_ias (N := 8) zp_130 rfl rfl rfl (fun b8 b8' => ?_)
          refine zQ_seq 2 (pc' := 52) (L' := [some (.ref 58), some (.int a1), some (.int a2), some (.int a3), some (.int (Int32.ofInt 0))]) (S' := []) (h' := (zSet (zSet h3 59 a1.toInt.toNat a2) 60 a1.toInt.toNat a3)) zp_130 rfl ?_
          exact (((((r3'.2 c4).1 c5).1 c6) b7 b7') b8 b8')
        · refine zQ_seq 2 (pc' := 31) (L' := [some (.ref 58), some (.int a1), some (.int a2), some (.int a3), none]) (S' := [.int (Int32.ofInt 4), .ref 58]) (h' := h3) zp_130 rfl ?_
          refine zQ_cvI (M' := 125) (as := [.ref 58, .int (Int32.ofInt 4)]) (S' := []) zp_130 rfl rfl zp_125 (Or.inl rfl) rfl rfl (zqm_imp (((r3'.2 c4).1 c5).2 c6) (fun rv h9 r9 => zri_imp r9 (fun v9 r9' => ?_)))
          exact zQ_retI zp_130 rfl r9'
      · refine zQ_seq 1 (pc' := 24) (L' := [some (.ref 58), some (.int a1), some (.int a2), some (.int a3), none]) (S' := [.int (-1000001 : Int32)]) (h' := h3) zp_130 rfl ?_
        exact zQ_retI zp_130 rfl ((r3'.2 c4).2 c5)
theorem s_130_52 {n : Nat} {h : zH} {Q : Option Value → zH → Prop} (x1 : Int32) (x2 : Int32) (x3 : Int32) (x4 : Int32) (H : (((40 : Int) ≤ x4.toInt → zqm 126 [.ref 58, .int x3] h (fun rv h2 => zri rv (fun v2 => Q (some (.int v2)) h2))) ∧ (¬ ((40 : Int) ≤ x4.toInt) → (0 ≤ (((Int32.ofInt 40) * x1) + x4).toInt → (((Int32.ofInt 40) * x1) + x4).toInt < 320 → zQ n 130 52 [some (.ref 58), some (.int x1), some (.int x2), some (.int x3), some (.int (x4 + Int32.ofInt 1))] [] (zSet h 61 (((Int32.ofInt 40) * x1) + x4).toInt.toNat (Int32.ofInt 0)) Q)))) : zQ (n + 1) 130 52 [some (.ref 58), some (.int x1), some (.int x2), some (.int x3), some (.int x4)] [] h Q := by
  refine zQ_seqL 1 (pc' := 56) (L' := [some (.ref 58), some (.int x1), some (.int x2), some (.int x3), some (.int x4)]) (S' := [.int (Int32.ofInt 40), .int x4]) (h' := h) zp_130 rfl ?_
  refine zQ_ic zp_130 rfl (t := 78) rfl (i := x4.toInt) (j := (40 : Int)) rfl kc_40 (fun c1 => ?_) (fun c1 => ?_)
  · refine zQ_seq 2 (pc' := 80) (L' := [some (.ref 58), some (.int x1), some (.int x2), some (.int x3), some (.int x4)]) (S' := [.int x3, .ref 58]) (h' := h) zp_130 rfl ?_
    refine zQ_cvI (M' := 126) (as := [.ref 58, .int x3]) (S' := []) zp_130 rfl rfl zp_126 (Or.inl rfl) rfl rfl (zqm_imp (H.1 c1) (fun rv h2 r2 => zri_imp r2 (fun v2 r2' => ?_)))
    exact zQ_retI zp_130 rfl r2'
  · refine zQ_seq 8 (pc' := 71) (L' := [some (.ref 58), some (.int x1), some (.int x2), some (.int x3), some (.int x4)]) (S' := [.int (Int32.ofInt 0), .int (((Int32.ofInt 40) * x1) + x4), .ref 61]) (h' := h) zp_130 rfl ?_
    refine zQ_ias (N := 320) zp_130 rfl rfl rfl (fun b3 b3' => ?_)
    refine zQ_seq 1 (pc' := 75) (L' := [some (.ref 58), some (.int x1), some (.int x2), some (.int x3), some (.int (x4 + Int32.ofInt 1))]) (S' := []) (h' := (zSet h 61 (((Int32.ofInt 40) * x1) + x4).toInt.toNat (Int32.ofInt 0))) zp_130 rfl ?_
    refine zQ_goto zp_130 rfl (t := 52) rfl ?_
    exact ((H.2 c1) b3 b3')
theorem s_131 {h : zH} {Q : Option Value → zH → Prop} (a1 : Int32) (a2 : Int32) (a3 : Int32) (H : zqm 128 [.int a1] h (fun rv h1 => zri rv (fun v1 => ((¬ v1.toInt = 0 → zqm 129 [.ref 58, .int a1] h1 (fun rv h3 => zri rv (fun v3 => ((v3.toInt = 0 → (0 ≤ a1.toInt → a1.toInt < 8 → zqm 121 [.int a2, .int (Int32.ofInt 0), .int ((h3.1 60 a1.toInt.toNat) - (Int32.ofInt 1))] h3 (fun rv h6 => zri rv (fun v6 => ((¬ v6.toInt = 0 → (0 ≤ a1.toInt → a1.toInt < 8 → ((¬ (h6.1 59 a1.toInt.toNat).toInt = 0 → (0 ≤ a1.toInt → a1.toInt < 8 → ((¬ (h6.1 59 a1.toInt.toNat).toInt = (1 : Int) → (0 ≤ (((Int32.ofInt 40) * a1) + a2).toInt → (((Int32.ofInt 40) * a1) + a2).toInt < 320 → zqm 126 [.ref 58, .int a3] (zSet h6 61 (((Int32.ofInt 40) * a1) + a2).toInt.toNat a3) (fun rv h13 => zri rv (fun v13 => Q (some (.int v13)) h13)))) ∧ (¬ (¬ (h6.1 59 a1.toInt.toNat).toInt = (1 : Int)) → (0 ≤ (((Int32.ofInt 40) * a1) + a2).toInt → (((Int32.ofInt 40) * a1) + a2).toInt < 320 → zqm 126 [.ref 58, .int (a3.toInt16.toInt32)] (zSet h6 61 (((Int32.ofInt 40) * a1) + a2).toInt.toNat (a3.toInt16.toInt32)) (fun rv h15 => zri rv (fun v15 => Q (some (.int v15)) h15))))))) ∧ (¬ (¬ (h6.1 59 a1.toInt.toNat).toInt = 0) → (0 ≤ (((Int32.ofInt 40) * a1) + a2).toInt → (((Int32.ofInt 40) * a1) + a2).toInt < 320 → zqm 126 [.ref 58, .int (a3.toInt8.toInt32)] (zSet h6 61 (((Int32.ofInt 40) * a1) + a2).toInt.toNat (a3.toInt8.toInt32)) (fun rv h17 => zri rv (fun v17 => Q (some (.int v17)) h17))))))) ∧ (¬ (¬ v6.toInt = 0) → zqm 125 [.ref 58, .int (Int32.ofInt 2)] h6 (fun rv h18 => zri rv (fun v18 => Q (some (.int v18)) h18)))))))) ∧ (¬ (v3.toInt = 0) → zqm 125 [.ref 58, .int (Int32.ofInt 1)] h3 (fun rv h19 => zri rv (fun v19 => Q (some (.int v19)) h19))))))) ∧ (¬ (¬ v1.toInt = 0) → Q (some (.int (-1000001 : Int32))) h1))))) : zqm 131 [.ref 58, .int a1, .int a2, .int a3] h Q := by
  refine zqm_of zp_131 (fun n => ?_)
  show zQ n 131 0 [some (.ref 58), some (.int a1), some (.int a2), some (.int a3), none] [] h Q
  refine zQ_seq 1 (pc' := 1) (L' := [some (.ref 58), some (.int a1), some (.int a2), some (.int a3), none]) (S' := [.int a1]) (h' := h) zp_131 rfl ?_
  refine zQ_csI (M' := 128) (as := [.int a1]) (S' := []) zp_131 rfl rfl rfl zp_128 (Or.inr rfl) rfl rfl (zqm_imp H (fun rv h1 r1 => zri_imp r1 (fun v1 r1' => ?_)))
  refine zQ_if zp_131 rfl (t := 10) rfl (i := v1.toInt) rfl (fun c2 => ?_) (fun c2 => ?_)
  · refine zQ_seq 2 (pc' := 12) (L' := [some (.ref 58), some (.int a1), some (.int a2), some (.int a3), none]) (S' := [.int a1, .ref 58]) (h' := h1) zp_131 rfl ?_
    refine zQ_cvI (M' := 129) (as := [.ref 58, .int a1]) (S' := []) zp_131 rfl rfl zp_129 (Or.inr rfl) rfl rfl (zqm_imp (r1'.1 c2) (fun rv h3 r3 => zri_imp r3 (fun v3 r3' => ?_)))
    refine zQ_if zp_131 rfl (t := 24) rfl (i := v3.toInt) rfl (fun c4 => ?_) (fun c4 => ?_)
    · refine zQ_seq 5 (pc' := 31) (L' := [some (.ref 58), some (.int a1), some (.int a2), some (.int a3), none]) (S' := [.int a1, .ref 60, .int (Int32.ofInt 0), .int a2]) (h' := h3) zp_131 rfl ?_
      refine zQ_ial (N := 8) (f := h3.1 60) zp_131 rfl rfl rfl (fun b5 b5' => ?_)
      refine zQ_seq 2 (pc' := 34) (L' := [some (.ref 58), some (.int a1), some (.int a2), some (.int a3), none]) (S' := [.int ((h3.1 60 a1.toInt.toNat) - (Int32.ofInt 1)), .int (Int32.ofInt 0), .int a2]) (h' := h3) zp_131 rfl ?_
      refine zQ_csI (M' := 121) (as := [.int a2, .int (Int32.ofInt 0), .int ((h3.1 60 a1.toInt.toNat) - (Int32.ofInt 1))]) (S' := []) zp_131 rfl rfl rfl zp_121 (Or.inr rfl) rfl rfl (zqm_imp ((r3'.1 c4) b5 b5') (fun rv h6 r6 => zri_imp r6 (fun v6 r6' => ?_)))
      refine zQ_if zp_131 rfl (t := 46) rfl (i := v6.toInt) rfl (fun c7 => ?_) (fun c7 => ?_)
      · refine zQ_seq 3 (pc' := 51) (L' := [some (.ref 58), some (.int a1), some (.int a2), some (.int a3), none]) (S' := [.int a1, .ref 59]) (h' := h6) zp_131 rfl ?_
        refine zQ_ial (N := 8) (f := h6.1 59) zp_131 rfl rfl rfl (fun b8 b8' => ?_)
        refine zQ_if zp_131 rfl (t := 60) rfl (i := (h6.1 59 a1.toInt.toNat).toInt) rfl (fun c9 => ?_) (fun c9 => ?_)
        · refine zQ_seq 3 (pc' := 65) (L' := [some (.ref 58), some (.int a1), some (.int a2), some (.int a3), none]) (S' := [.int a1, .ref 59]) (h' := h6) zp_131 rfl ?_
          refine zQ_ial (N := 8) (f := h6.1 59) zp_131 rfl rfl rfl (fun b10 b10' => ?_)
          refine zQ_seq 1 (pc' := 67) (L' := [some (.ref 58), some (.int a1), some (.int a2), some (.int a3), none]) (S' := [.int (Int32.ofInt 1), .int (h6.1 59 a1.toInt.toNat)]) (h' := h6) zp_131 rfl ?_
          refine zQ_ic zp_131 rfl (t := 75) rfl (i := (h6.1 59 a1.toInt.toNat).toInt) (j := (1 : Int)) rfl kc_1 (fun c11 => ?_) (fun c11 => ?_)
          · refine zQ_seq 10 (pc' := 90) (L' := [some (.ref 58), some (.int a1), some (.int a2), some (.int a3), some (.int a3)]) (S' := [.int a3, .int (((Int32.ofInt 40) * a1) + a2), .ref 61]) (h' := h6) zp_131 rfl ?_
            refine zQ_ias (N := 320) zp_131 rfl rfl rfl (fun b12 b12' => ?_)
            refine zQ_seq 2 (pc' := 94) (L' := [some (.ref 58), some (.int a1), some (.int a2), some (.int a3), some (.int a3)]) (S' := [.int a3, .ref 58]) (h' := (zSet h6 61 (((Int32.ofInt 40) * a1) + a2).toInt.toNat a3)) zp_131 rfl ?_
            refine zQ_cvI (M' := 126) (as := [.ref 58, .int a3]) (S' := []) zp_131 rfl rfl zp_126 (Or.inl rfl) rfl rfl (zqm_imp ((((((r6'.1 c7) b8 b8').1 c9) b10 b10').1 c11) b12 b12') (fun rv h13 r13 => zri_imp r13 (fun v13 r13' => ?_)))
            exact zQ_retI zp_131 rfl r13'
          · refine zQ_seq 2 (pc' := 72) (L' := [some (.ref 58), some (.int a1), some (.int a2), some (.int a3), none]) (S' := [.int (a3.toInt16.toInt32)]) (h' := h6) zp_131 rfl ?_
            refine zQ_goto zp_131 rfl (t := 76) rfl ?_
            refine zQ_seq 9 (pc' := 90) (L' := [some (.ref 58), some (.int a1), some (.int a2), some (.int a3), some (.int (a3.toInt16.toInt32))]) (S' := [.int (a3.toInt16.toInt32), .int (((Int32.ofInt 40) * a1) + a2), .ref 61]) (h' := h6) zp_131 rfl ?_
            refine zQ_ias (N := 320) zp_131 rfl rfl rfl (fun b14 b14' => ?_)
            refine zQ_seq 2 (pc' := 94) (L' := [some (.ref 58), some (.int a1), some (.int a2), some (.int a3), some (.int (a3.toInt16.toInt32))]) (S' := [.int (a3.toInt16.toInt32), .ref 58]) (h' := (zSet h6 61 (((Int32.ofInt 40) * a1) + a2).toInt.toNat (a3.toInt16.toInt32))) zp_131 rfl ?_
            refine zQ_cvI (M' := 126) (as := [.ref 58, .int (a3.toInt16.toInt32)]) (S' := []) zp_131 rfl rfl zp_126 (Or.inl rfl) rfl rfl (zqm_imp ((((((r6'.1 c7) b8 b8').1 c9) b10 b10').2 c11) b14 b14') (fun rv h15 r15 => zri_imp r15 (fun v15 r15' => ?_)))
            exact zQ_retI zp_131 rfl r15'
        · refine zQ_seq 2 (pc' := 57) (L' := [some (.ref 58), some (.int a1), some (.int a2), some (.int a3), none]) (S' := [.int (a3.toInt8.toInt32)]) (h' := h6) zp_131 rfl ?_
          refine zQ_goto zp_131 rfl (t := 76) rfl ?_
          refine zQ_seq 9 (pc' := 90) (L' := [some (.ref 58), some (.int a1), some (.int a2), some (.int a3), some (.int (a3.toInt8.toInt32))]) (S' := [.int (a3.toInt8.toInt32), .int (((Int32.ofInt 40) * a1) + a2), .ref 61]) (h' := h6) zp_131 rfl ?_
          refine zQ_ias (N := 320) zp_131 rfl rfl rfl (fun b16 b16' => ?_)
          refine zQ_seq 2 (pc' := 94) (L' := [some (.ref 58), some (.int a1), some (.int a2), some (.int a3), some (.int (a3.toInt8.toInt32))]) (S' := [.int (a3.toInt8.toInt32), .ref 58]) (h' := (zSet h6 61 (((Int32.ofInt 40) * a1) + a2).toInt.toNat (a3.toInt8.toInt32))) zp_131 rfl ?_
          refine zQ_cvI (M' := 126) (as := [.ref 58, .int (a3.toInt8.toInt32)]) (S' := []) zp_131 rfl rfl zp_126 (Or.inl rfl) rfl rfl (zqm_imp ((((r6'.1 c7) b8 b8').2 c9) b16 b16') (fun rv h17 r17 => zri_imp r17 (fun v17 r17' => ?_)))
          exact zQ_retI zp_131 rfl r17'
      · refine zQ_seq 2 (pc' := 42) (L' := [some (.ref 58), some (.int a1), some (.int a2), some (.int a3), none]) (S' := [.int (Int32.ofInt 2), .ref 58]) (h' := h6) zp_131 rfl ?_
        refine zQ_cvI (M' := 125) (as := [.ref 58, .int (Int32.ofInt 2)]) (S' := []) zp_131 rfl rfl zp_125 (Or.inl rfl) rfl rfl (zqm_imp (r6'.2 c7) (fun rv h18 r18 => zri_imp r18 (fun v18 r18' => ?_)))
        exact zQ_retI zp_131 rfl r18'
    · refine zQ_seq 2 (pc' := 20) (L' := [some (.ref 58), some (.int a1), some (.int a2), some (.int a3), none]) (S' := [.int (Int32.ofInt 1), .ref 58]) (h' := h3) zp_131 rfl ?_
      refine zQ_cvI (M' := 125) (as := [.ref 58, .int (Int32.ofInt 1)]) (S' := []) zp_131 rfl rfl zp_125 (Or.inl rfl) rfl rfl (zqm_imp (r3'.2 c4) (fun rv h19 r19 => zri_imp r19 (fun v19 r19' => ?_)))
      exact zQ_retI zp_131 rfl r19'
  · refine zQ_seq 1 (pc' := 9) (L' := [some (.ref 58), some (.int a1), some (.int a2), some (.int a3), none]) (S' := [.int (-1000001 : Int32)]) (h' := h1) zp_131 rfl ?_
    exact zQ_retI zp_131 rfl (r1'.2 c2)
theorem s_132 {h : zH} {Q : Option Value → zH → Prop} (a1 : Int32) (a2 : Int32) (a3 : Int32) (H : ((a2.toInt < 0 → Q (some (.int (Int32.ofInt 0))) h) ∧ (¬ (a2.toInt < 0) → ((a3.toInt < 0 → Q (some (.int (Int32.ofInt 0))) h) ∧ (¬ (a3.toInt < 0) → (0 ≤ a1.toInt → a1.toInt < 8 → (((h.1 60 a1.toInt.toNat).toInt < a2.toInt → Q (some (.int (Int32.ofInt 0))) h) ∧ (¬ ((h.1 60 a1.toInt.toNat).toInt < a2.toInt) → (0 ≤ a1.toInt → a1.toInt < 8 → ((((h.1 60 a1.toInt.toNat) - a2).toInt < a3.toInt → Q (some (.int (Int32.ofInt 0))) h) ∧ (¬ (((h.1 60 a1.toInt.toNat) - a2).toInt < a3.toInt) → Q (some (.int (Int32.ofInt 1))) h))))))))))) : zqm 132 [.ref 58, .int a1, .int a2, .int a3] h Q := by
  refine zqm_of zp_132 (fun n => ?_)
  show zQ n 132 0 [some (.ref 58), some (.int a1), some (.int a2), some (.int a3)] [] h Q
  refine zQ_seq 1 (pc' := 1) (L' := [some (.ref 58), some (.int a1), some (.int a2), some (.int a3)]) (S' := [.int a2]) (h' := h) zp_132 rfl ?_
  refine zQ_if zp_132 rfl (t := 34) rfl (i := a2.toInt) rfl (fun c1 => ?_) (fun c1 => ?_)
  · refine zQ_seq 1 (pc' := 35) (L' := [some (.ref 58), some (.int a1), some (.int a2), some (.int a3)]) (S' := [.int (Int32.ofInt 0)]) (h' := h) zp_132 rfl ?_
    exact zQ_retI zp_132 rfl (H.1 c1)
  · refine zQ_seq 1 (pc' := 5) (L' := [some (.ref 58), some (.int a1), some (.int a2), some (.int a3)]) (S' := [.int a3]) (h' := h) zp_132 rfl ?_
    refine zQ_if zp_132 rfl (t := 34) rfl (i := a3.toInt) rfl (fun c2 => ?_) (fun c2 => ?_)
    · refine zQ_seq 1 (pc' := 35) (L' := [some (.ref 58), some (.int a1), some (.int a2), some (.int a3)]) (S' := [.int (Int32.ofInt 0)]) (h' := h) zp_132 rfl ?_
      exact zQ_retI zp_132 rfl ((H.2 c1).1 c2)
    · refine zQ_seq 4 (pc' := 14) (L' := [some (.ref 58), some (.int a1), some (.int a2), some (.int a3)]) (S' := [.int a1, .ref 60, .int a2]) (h' := h) zp_132 rfl ?_
      refine zQ_ial (N := 8) (f := h.1 60) zp_132 rfl rfl rfl (fun b3 b3' => ?_)
      refine zQ_ic zp_132 rfl (t := 34) rfl (i := a2.toInt) (j := (h.1 60 a1.toInt.toNat).toInt) rfl rfl (fun c4 => ?_) (fun c4 => ?_)
      · refine zQ_seq 1 (pc' := 35) (L' := [some (.ref 58), some (.int a1), some (.int a2), some (.int a3)]) (S' := [.int (Int32.ofInt 0)]) (h' := h) zp_132 rfl ?_
        exact zQ_retI zp_132 rfl ((((H.2 c1).2 c2) b3 b3').1 c4)
      · refine zQ_seq 4 (pc' := 24) (L' := [some (.ref 58), some (.int a1), some (.int a2), some (.int a3)]) (S' := [.int a1, .ref 60, .int a3]) (h' := h) zp_132 rfl ?_
        refine zQ_ial (N := 8) (f := h.1 60) zp_132 rfl rfl rfl (fun b5 b5' => ?_)
        refine zQ_seq 2 (pc' := 27) (L' := [some (.ref 58), some (.int a1), some (.int a2), some (.int a3)]) (S' := [.int ((h.1 60 a1.toInt.toNat) - a2), .int a3]) (h' := h) zp_132 rfl ?_
        refine zQ_ic zp_132 rfl (t := 34) rfl (i := a3.toInt) (j := ((h.1 60 a1.toInt.toNat) - a2).toInt) rfl rfl (fun c6 => ?_) (fun c6 => ?_)
        · refine zQ_seq 1 (pc' := 35) (L' := [some (.ref 58), some (.int a1), some (.int a2), some (.int a3)]) (S' := [.int (Int32.ofInt 0)]) (h' := h) zp_132 rfl ?_
          exact zQ_retI zp_132 rfl ((((((H.2 c1).2 c2) b3 b3').2 c4) b5 b5').1 c6)
        · refine zQ_seq 1 (pc' := 31) (L' := [some (.ref 58), some (.int a1), some (.int a2), some (.int a3)]) (S' := [.int (Int32.ofInt 1)]) (h' := h) zp_132 rfl ?_
          refine zQ_goto zp_132 rfl (t := 35) rfl ?_
          exact zQ_retI zp_132 rfl ((((((H.2 c1).2 c2) b3 b3').2 c4) b5 b5').2 c6)
theorem s_133 {h : zH} {Q : Option Value → zH → Prop} (a1 : Int32) (a2 : Int32) (a3 : Int32) (a4 : Int32) (a5 : Int32) (H : (∀ n, zqm 128 [.int a1] h (fun rv h1 => zri rv (fun v1 => ((v1.toInt = 0 → Q (some (.int (-1000001 : Int32))) h1) ∧ (¬ (v1.toInt = 0) → zqm 128 [.int a3] h1 (fun rv h3 => zri rv (fun v3 => ((¬ v3.toInt = 0 → zqm 129 [.ref 58, .int a1] h3 (fun rv h5 => zri rv (fun v5 => ((¬ v5.toInt = 0 → zqm 125 [.ref 58, .int (Int32.ofInt 1)] h5 (fun rv h7 => zri rv (fun v7 => Q (some (.int v7)) h7))) ∧ (¬ (¬ v5.toInt = 0) → zqm 129 [.ref 58, .int a3] h5 (fun rv h8 => zri rv (fun v8 => ((v8.toInt = 0 → (0 ≤ a1.toInt → a1.toInt < 8 → (0 ≤ a3.toInt → a3.toInt < 8 → (((h8.1 59 a1.toInt.toNat).toInt = (h8.1 59 a3.toInt.toNat).toInt → zqm 132 [.ref 58, .int a1, .int a2, .int a5] h8 (fun rv h13 => zri rv (fun v13 => ((v13.toInt = 0 → zqm 125 [.ref 58, .int (Int32.ofInt 2)] h13 (fun rv h15 => zri rv (fun v15 => Q (some (.int v15)) h15))) ∧ (¬ (v13.toInt = 0) → zqm 132 [.ref 58, .int a3, .int a4, .int a5] h13 (fun rv h16 => zri rv (fun v16 => ((¬ v16.toInt = 0 → zQ n 133 109 [some (.ref 58), some (.int a1), some (.int a2), some (.int a3), some (.int a4), some (.int a5), some (.int (((Int32.ofInt 40) * a1) + a2)), some (.int (((Int32.ofInt 40) * a3) + a4)), some (.int (Int32.ofInt 0)), none] [] h16 Q) ∧ (¬ (¬ v16.toInt = 0) → zqm 125 [.ref 58, .int (Int32.ofInt 2)] h16 (fun rv h18 => zri rv (fun v18 => Q (some (.int v18)) h18))))))))))) ∧ (¬ ((h8.1 59 a1.toInt.toNat).toInt = (h8.1 59 a3.toInt.toNat).toInt) → zqm 125 [.ref 58, .int (Int32.ofInt 5)] h8 (fun rv h19 => zri rv (fun v19 => Q (some (.int v19)) h19))))))) ∧ (¬ (v8.toInt = 0) → zqm 125 [.ref 58, .int (Int32.ofInt 1)] h8 (fun rv h20 => zri rv (fun v20 => Q (some (.int v20)) h20))))))))))) ∧ (¬ (¬ v3.toInt = 0) → Q (some (.int (-1000001 : Int32))) h3)))))))))) : zqm 133 [.ref 58, .int a1, .int a2, .int a3, .int a4, .int a5] h Q := by
  refine zqm_of zp_133 (fun n => ?_)
  have H := H n
  show zQ n 133 0 [some (.ref 58), some (.int a1), some (.int a2), some (.int a3), some (.int a4), some (.int a5), none, none, none, none] [] h Q
  refine zQ_seq 1 (pc' := 1) (L' := [some (.ref 58), some (.int a1), some (.int a2), some (.int a3), some (.int a4), some (.int a5), none, none, none, none]) (S' := [.int a1]) (h' := h) zp_133 rfl ?_
  refine zQ_csI (M' := 128) (as := [.int a1]) (S' := []) zp_133 rfl rfl rfl zp_128 (Or.inr rfl) rfl rfl (zqm_imp H (fun rv h1 r1 => zri_imp r1 (fun v1 r1' => ?_)))
  refine zQ_if zp_133 rfl (t := 14) rfl (i := v1.toInt) rfl (fun c2 => ?_) (fun c2 => ?_)
  · refine zQ_seq 1 (pc' := 16) (L' := [some (.ref 58), some (.int a1), some (.int a2), some (.int a3), some (.int a4), some (.int a5), none, none, none, none]) (S' := [.int (-1000001 : Int32)]) (h' := h1) zp_133 rfl ?_
    exact zQ_retI zp_133 rfl (r1'.1 c2)
  · refine zQ_seq 1 (pc' := 8) (L' := [some (.ref 58), some (.int a1), some (.int a2), some (.int a3), some (.int a4), some (.int a5), none, none, none, none]) (S' := [.int a3]) (h' := h1) zp_133 rfl ?_
    refine zQ_csI (M' := 128) (as := [.int a3]) (S' := []) zp_133 rfl rfl rfl zp_128 (Or.inr rfl) rfl rfl (zqm_imp (r1'.2 c2) (fun rv h3 r3 => zri_imp r3 (fun v3 r3' => ?_)))
    refine zQ_if zp_133 rfl (t := 17) rfl (i := v3.toInt) rfl (fun c4 => ?_) (fun c4 => ?_)
    · refine zQ_seq 2 (pc' := 19) (L' := [some (.ref 58), some (.int a1), some (.int a2), some (.int a3), some (.int a4), some (.int a5), none, none, none, none]) (S' := [.int a1, .ref 58]) (h' := h3) zp_133 rfl ?_
      refine zQ_cvI (M' := 129) (as := [.ref 58, .int a1]) (S' := []) zp_133 rfl rfl zp_129 (Or.inr rfl) rfl rfl (zqm_imp (r3'.1 c4) (fun rv h5 r5 => zri_imp r5 (fun v5 r5' => ?_)))
      refine zQ_if zp_133 rfl (t := 33) rfl (i := v5.toInt) rfl (fun c6 => ?_) (fun c6 => ?_)
      · refine zQ_seq 2 (pc' := 35) (L' := [some (.ref 58), some (.int a1), some (.int a2), some (.int a3), some (.int a4), some (.int a5), none, none, none, none]) (S' := [.int (Int32.ofInt 1), .ref 58]) (h' := h5) zp_133 rfl ?_
        refine zQ_cvI (M' := 125) (as := [.ref 58, .int (Int32.ofInt 1)]) (S' := []) zp_133 rfl rfl zp_125 (Or.inl rfl) rfl rfl (zqm_imp (r5'.1 c6) (fun rv h7 r7 => zri_imp r7 (fun v7 r7' => ?_)))
        exact zQ_retI zp_133 rfl r7'
      · refine zQ_seq 2 (pc' := 27) (L' := [some (.ref 58), some (.int a1), some (.int a2), some (.int a3), some (.int a4), some (.int a5), none, none, none, none]) (S' := [.int a3, .ref 58]) (h' := h5) zp_133 rfl ?_
        refine zQ_cvI (M' := 129) (as := [.ref 58, .int a3]) (S' := []) zp_133 rfl rfl zp_129 (Or.inr rfl) rfl rfl (zqm_imp (r5'.2 c6) (fun rv h8 r8 => zri_imp r8 (fun v8 r8' => ?_)))
        refine zQ_if zp_133 rfl (t := 39) rfl (i := v8.toInt) rfl (fun c9 => ?_) (fun c9 => ?_)
        · refine zQ_seq 3 (pc' := 44) (L' := [some (.ref 58), some (.int a1), some (.int a2), some (.int a3), some (.int a4), some (.int a5), none, none, none, none]) (S' := [.int a1, .ref 59]) (h' := h8) zp_133 rfl ?_
          refine zQ_ial (N := 8) (f := h8.1 59) zp_133 rfl rfl rfl (fun b10 b10' => ?_)
          refine zQ_seq 3 (pc' := 50) (L' := [some (.ref 58), some (.int a1), some (.int a2), some (.int a3), some (.int a4), some (.int a5), none, none, none, none]) (S' := [.int a3, .ref 59, .int (h8.1 59 a1.toInt.toNat)]) (h' := h8) zp_133 rfl ?_
          refine zQ_ial (N := 8) (f := h8.1 59) zp_133 rfl rfl rfl (fun b11 b11' => ?_)
          refine zQ_ic zp_133 rfl (t := 60) rfl (i := (h8.1 59 a1.toInt.toNat).toInt) (j := (h8.1 59 a3.toInt.toNat).toInt) rfl rfl (fun c12 => ?_) (fun c12 => ?_)
          · refine zQ_seq 4 (pc' := 65) (L' := [some (.ref 58), some (.int a1), some (.int a2), some (.int a3), some (.int a4), some (.int a5), none, none, none, none]) (S' := [.int a5, .int a2, .int a1, .ref 58]) (h' := h8) zp_133 rfl ?_
            refine zQ_cvI (M' := 132) (as := [.ref 58, .int a1, .int a2, .int a5]) (S' := []) zp_133 rfl rfl zp_132 (Or.inr rfl) rfl rfl (zqm_imp ((((r8'.1 c9) b10 b10') b11 b11').1 c12) (fun rv h13 r13 => zri_imp r13 (fun v13 r13' => ?_)))
            refine zQ_if zp_133 rfl (t := 83) rfl (i := v13.toInt) rfl (fun c14 => ?_) (fun c14 => ?_)
            · refine zQ_seq 2 (pc' := 85) (L' := [some (.ref 58), some (.int a1), some (.int a2), some (.int a3), some (.int a4), some (.int a5), none, none, none, none]) (S' := [.int (Int32.ofInt 2), .ref 58]) (h' := h13) zp_133 rfl ?_
              refine zQ_cvI (M' := 125) (as := [.ref 58, .int (Int32.ofInt 2)]) (S' := []) zp_133 rfl rfl zp_125 (Or.inl rfl) rfl rfl (zqm_imp (r13'.1 c14) (fun rv h15 r15 => zri_imp r15 (fun v15 r15' => ?_)))
              exact zQ_retI zp_133 rfl r15'
            · refine zQ_seq 4 (pc' := 77) (L' := [some (.ref 58), some (.int a1), some (.int a2), some (.int a3), some (.int a4), some (.int a5), none, none, none, none]) (S' := [.int a5, .int a4, .int a3, .ref 58]) (h' := h13) zp_133 rfl ?_
              refine zQ_cvI (M' := 132) (as := [.ref 58, .int a3, .int a4, .int a5]) (S' := []) zp_133 rfl rfl zp_132 (Or.inr rfl) rfl rfl (zqm_imp (r13'.2 c14) (fun rv h16 r16 => zri_imp r16 (fun v16 r16' => ?_)))
              refine zQ_if zp_133 rfl (t := 89) rfl (i := v16.toInt) rfl (fun c17 => ?_) (fun c17 => ?_)
              · refine zQ_seq 14 (pc' := 109) (L' := [some (.ref 58), some (.int a1), some (.int a2), some (.int a3), some (.int a4), some (.int a5), some (.int (((Int32.ofInt 40) * a1) + a2)), some (.int (((Int32.ofInt 40) * a3) + a4)), some (.int (Int32.ofInt 0)), none]) (S' := []) (h' := h16) zp_133 rfl ?_
                exact (r16'.1 c17)
              · refine zQ_seq 2 (pc' := 85) (L' := [some (.ref 58), some (.int a1), some (.int a2), some (.int a3), some (.int a4), some (.int a5), none, none, none, none]) (S' := [.int (Int32.ofInt 2), .ref 58]) (h' := h16) zp_133 rfl ?_
                refine zQ_cvI (M' := 125) (as := [.ref 58, .int (Int32.ofInt 2)]) (S' := []) zp_133 rfl rfl zp_125 (Or.inl rfl) rfl rfl (zqm_imp (r16'.2 c17) (fun rv h18 r18 => zri_imp r18 (fun v18 r18' => ?_)))
                exact zQ_retI zp_133 rfl r18'
          · refine zQ_seq 2 (pc' := 56) (L' := [some (.ref 58), some (.int a1), some (.int a2), some (.int a3), some (.int a4), some (.int a5), none, none, none, none]) (S' := [.int (Int32.ofInt 5), .ref 58]) (h' := h8) zp_133 rfl ?_
            refine zQ_cvI (M' := 125) (as := [.ref 58, .int (Int32.ofInt 5)]) (S' := []) zp_133 rfl rfl zp_125 (Or.inl rfl) rfl rfl (zqm_imp ((((r8'.1 c9) b10 b10') b11 b11').2 c12) (fun rv h19 r19 => zri_imp r19 (fun v19 r19' => ?_)))
            exact zQ_retI zp_133 rfl r19'
        · refine zQ_seq 2 (pc' := 35) (L' := [some (.ref 58), some (.int a1), some (.int a2), some (.int a3), some (.int a4), some (.int a5), none, none, none, none]) (S' := [.int (Int32.ofInt 1), .ref 58]) (h' := h8) zp_133 rfl ?_
          refine zQ_cvI (M' := 125) (as := [.ref 58, .int (Int32.ofInt 1)]) (S' := []) zp_133 rfl rfl zp_125 (Or.inl rfl) rfl rfl (zqm_imp (r8'.2 c9) (fun rv h20 r20 => zri_imp r20 (fun v20 r20' => ?_)))
          exact zQ_retI zp_133 rfl r20'
    · refine zQ_seq 1 (pc' := 16) (L' := [some (.ref 58), some (.int a1), some (.int a2), some (.int a3), some (.int a4), some (.int a5), none, none, none, none]) (S' := [.int (-1000001 : Int32)]) (h' := h3) zp_133 rfl ?_
      exact zQ_retI zp_133 rfl (r3'.2 c4)
theorem s_133_109 {n : Nat} {h : zH} {Q : Option Value → zH → Prop} (x1 : Int32) (x2 : Int32) (x3 : Int32) (x4 : Int32) (x5 : Int32) (x6 : Int32) (x7 : Int32) (x8 : Int32) (o9 : Option Value) (H : ((x5.toInt ≤ x8.toInt → zqm 126 [.ref 58, .int x5] h (fun rv h2 => zri rv (fun v2 => Q (some (.int v2)) h2))) ∧ (¬ (x5.toInt ≤ x8.toInt) → ((x7.toInt ≤ x6.toInt → (0 ≤ (x6 + x8).toInt → (x6 + x8).toInt < 320 → (0 ≤ (x7 + x8).toInt → (x7 + x8).toInt < 320 → zQ n 133 109 [some (.ref 58), some (.int x1), some (.int x2), some (.int x3), some (.int x4), some (.int x5), some (.int x6), some (.int x7), some (.int (x8 + Int32.ofInt 1)), some (.int x8)] [] (zSet h 61 (x7 + x8).toInt.toNat (h.1 61 (x6 + x8).toInt.toNat)) Q))) ∧ (¬ (x7.toInt ≤ x6.toInt) → (0 ≤ (x6 + ((x5 - (Int32.ofInt 1)) - x8)).toInt → (x6 + ((x5 - (Int32.ofInt 1)) - x8)).toInt < 320 → (0 ≤ (x7 + ((x5 - (Int32.ofInt 1)) - x8)).toInt → (x7 + ((x5 - (Int32.ofInt 1)) - x8)).toInt < 320 → zQ n 133 109 [some (.ref 58), some (.int x1), some (.int x2), some (.int x3), some (.int x4), some (.int x5), some (.int x6), some (.int x7), some (.int (x8 + Int32.ofInt 1)), some (.int ((x5 - (Int32.ofInt 1)) - x8))] [] (zSet h 61 (x7 + ((x5 - (Int32.ofInt 1)) - x8)).toInt.toNat (h.1 61 (x6 + ((x5 - (Int32.ofInt 1)) - x8)).toInt.toNat)) Q))))))) : zQ (n + 1) 133 109 [some (.ref 58), some (.int x1), some (.int x2), some (.int x3), some (.int x4), some (.int x5), some (.int x6), some (.int x7), some (.int x8), o9] [] h Q := by
  refine zQ_seqL 1 (pc' := 113) (L' := [some (.ref 58), some (.int x1), some (.int x2), some (.int x3), some (.int x4), some (.int x5), some (.int x6), some (.int x7), some (.int x8), o9]) (S' := [.int x5, .int x8]) (h' := h) zp_133 rfl ?_
  refine zQ_ic zp_133 rfl (t := 163) rfl (i := x8.toInt) (j := x5.toInt) rfl rfl (fun c1 => ?_) (fun c1 => ?_)
  · refine zQ_seq 2 (pc' := 166) (L' := [some (.ref 58), some (.int x1), some (.int x2), some (.int x3), some (.int x4), some (.int x5), some (.int x6), some (.int x7), some (.int x8), o9]) (S' := [.int x5, .ref 58]) (h' := h) zp_133 rfl ?_
    refine zQ_cvI (M' := 126) (as := [.ref 58, .int x5]) (S' := []) zp_133 rfl rfl zp_126 (Or.inl rfl) rfl rfl (zqm_imp (H.1 c1) (fun rv h2 r2 => zri_imp r2 (fun v2 r2' => ?_)))
    exact zQ_retI zp_133 rfl r2'
  · refine zQ_seq 2 (pc' := 120) (L' := [some (.ref 58), some (.int x1), some (.int x2), some (.int x3), some (.int x4), some (.int x5), some (.int x6), some (.int x7), some (.int x8), o9]) (S' := [.int x6, .int x7]) (h' := h) zp_133 rfl ?_
    refine zQ_ic zp_133 rfl (t := 133) rfl (i := x7.toInt) (j := x6.toInt) rfl rfl (fun c3 => ?_) (fun c3 => ?_)
    · refine zQ_seq 12 (pc' := 155) (L' := [some (.ref 58), some (.int x1), some (.int x2), some (.int x3), some (.int x4), some (.int x5), some (.int x6), some (.int x7), some (.int x8), some (.int x8)]) (S' := [.int (x6 + x8), .ref 61, .int (x7 + x8), .ref 61]) (h' := h) zp_133 rfl ?_
      refine zQ_ial (N := 320) (f := h.1 61) zp_133 rfl rfl rfl (fun b4 b4' => ?_)
      refine zQ_ias (N := 320) zp_133 rfl rfl rfl (fun b5 b5' => ?_)
      refine zQ_seq 1 (pc' := 160) (L' := [some (.ref 58), some (.int x1), some (.int x2), some (.int x3), some (.int x4), some (.int x5), some (.int x6), some (.int x7), some (.int (x8 + Int32.ofInt 1)), some (.int x8)]) (S' := []) (h' := (zSet h 61 (x7 + x8).toInt.toNat (h.1 61 (x6 + x8).toInt.toNat))) zp_133 rfl ?_
      refine zQ_goto zp_133 rfl (t := 109) rfl ?_
      exact ((((H.2 c1).1 c3) b4 b4') b5 b5')
    · refine zQ_seq 5 (pc' := 130) (L' := [some (.ref 58), some (.int x1), some (.int x2), some (.int x3), some (.int x4), some (.int x5), some (.int x6), some (.int x7), some (.int x8), o9]) (S' := [.int ((x5 - (Int32.ofInt 1)) - x8)]) (h' := h) zp_133 rfl ?_
      refine zQ_goto zp_133 rfl (t := 135) rfl ?_
      refine zQ_seq 11 (pc' := 155) (L' := [some (.ref 58), some (.int x1), some (.int x2), some (.int x3), some (.int x4), some (.int x5), some (.int x6), some (.int x7), some (.int x8), some (.int ((x5 - (Int32.ofInt 1)) - x8))]) (S' := [.int (x6 + ((x5 - (Int32.ofInt 1)) - x8)), .ref 61, .int (x7 + ((x5 - (Int32.ofInt 1)) - x8)), .ref 61]) (h' := h) zp_133 rfl ?_
      refine zQ_ial (N := 320) (f := h.1 61) zp_133 rfl rfl rfl (fun b6 b6' => ?_)
      refine zQ_ias (N := 320) zp_133 rfl rfl rfl (fun b7 b7' => ?_)
      refine zQ_seq 1 (pc' := 160) (L' := [some (.ref 58), some (.int x1), some (.int x2), some (.int x3), some (.int x4), some (.int x5), some (.int x6), some (.int x7), some (.int (x8 + Int32.ofInt 1)), some (.int ((x5 - (Int32.ofInt 1)) - x8))]) (S' := []) (h' := (zSet h 61 (x7 + ((x5 - (Int32.ofInt 1)) - x8)).toInt.toNat (h.1 61 (x6 + ((x5 - (Int32.ofInt 1)) - x8)).toInt.toNat))) zp_133 rfl ?_
      refine zQ_goto zp_133 rfl (t := 109) rfl ?_
      exact ((((H.2 c1).2 c3) b6 b6') b7 b7')
theorem s_134 {h : zH} {Q : Option Value → zH → Prop} (a1 : Int32) (H : zqm 128 [.int a1] h (fun rv h1 => zri rv (fun v1 => ((¬ v1.toInt = 0 → zqm 129 [.ref 58, .int a1] h1 (fun rv h3 => zri rv (fun v3 => ((v3.toInt = 0 → (0 ≤ a1.toInt → a1.toInt < 8 → (0 ≤ a1.toInt → a1.toInt < 8 → zqm 126 [.ref 58, .int (h3.1 60 a1.toInt.toNat)] (zSet h3 59 a1.toInt.toNat (Int32.ofInt (-1))) (fun rv h7 => zri rv (fun v7 => Q (some (.int v7)) h7))))) ∧ (¬ (v3.toInt = 0) → zqm 125 [.ref 58, .int (Int32.ofInt 1)] h3 (fun rv h8 => zri rv (fun v8 => Q (some (.int v8)) h8))))))) ∧ (¬ (¬ v1.toInt = 0) → Q (some (.int (-1000001 : Int32))) h1))))) : zqm 134 [.ref 58, .int a1] h Q := by
  refine zqm_of zp_134 (fun n => ?_)
  show zQ n 134 0 [some (.ref 58), some (.int a1)] [] h Q
  refine zQ_seq 1 (pc' := 1) (L' := [some (.ref 58), some (.int a1)]) (S' := [.int a1]) (h' := h) zp_134 rfl ?_
  refine zQ_csI (M' := 128) (as := [.int a1]) (S' := []) zp_134 rfl rfl rfl zp_128 (Or.inr rfl) rfl rfl (zqm_imp H (fun rv h1 r1 => zri_imp r1 (fun v1 r1' => ?_)))
  refine zQ_if zp_134 rfl (t := 10) rfl (i := v1.toInt) rfl (fun c2 => ?_) (fun c2 => ?_)
  · refine zQ_seq 2 (pc' := 12) (L' := [some (.ref 58), some (.int a1)]) (S' := [.int a1, .ref 58]) (h' := h1) zp_134 rfl ?_
    refine zQ_cvI (M' := 129) (as := [.ref 58, .int a1]) (S' := []) zp_134 rfl rfl zp_129 (Or.inr rfl) rfl rfl (zqm_imp (r1'.1 c2) (fun rv h3 r3 => zri_imp r3 (fun v3 r3' => ?_)))
    refine zQ_if zp_134 rfl (t := 24) rfl (i := v3.toInt) rfl (fun c4 => ?_) (fun c4 => ?_)
    · refine zQ_seq 4 (pc' := 30) (L' := [some (.ref 58), some (.int a1)]) (S' := [.int (Int32.ofInt (-1)), .int a1, .ref 59]) (h' := h3) zp_134 rfl ?_
      refine zQ_ias (N := 8) zp_134 rfl rfl rfl (fun b5 b5' => ?_)
      refine zQ_seq 4 (pc' := 37) (L' := [some (.ref 58), some (.int a1)]) (S' := [.int a1, .ref 60, .ref 58]) (h' := (zSet h3 59 a1.toInt.toNat (Int32.ofInt (-1)))) zp_134 rfl ?_
      refine zQ_ial (N := 8) (f := (zSet h3 59 a1.toInt.toNat (Int32.ofInt (-1))).1 60) zp_134 rfl rfl rfl (fun b6 b6' => ?_)
      refine zQ_cvI (M' := 126) (as := [.ref 58, .int (h3.1 60 a1.toInt.toNat)]) (S' := []) zp_134 rfl rfl zp_126 (Or.inl rfl) rfl rfl (zqm_imp (((r3'.1 c4) b5 b5') b6 b6') (fun rv h7 r7 => zri_imp r7 (fun v7 r7' => ?_)))
      exact zQ_retI zp_134 rfl r7'
    · refine zQ_seq 2 (pc' := 20) (L' := [some (.ref 58), some (.int a1)]) (S' := [.int (Int32.ofInt 1), .ref 58]) (h' := h3) zp_134 rfl ?_
      refine zQ_cvI (M' := 125) (as := [.ref 58, .int (Int32.ofInt 1)]) (S' := []) zp_134 rfl rfl zp_125 (Or.inl rfl) rfl rfl (zqm_imp (r3'.2 c4) (fun rv h8 r8 => zri_imp r8 (fun v8 r8' => ?_)))
      exact zQ_retI zp_134 rfl r8'
  · refine zQ_seq 1 (pc' := 9) (L' := [some (.ref 58), some (.int a1)]) (S' := [.int (-1000001 : Int32)]) (h' := h1) zp_134 rfl ?_
    exact zQ_retI zp_134 rfl (r1'.2 c2)
theorem s_135 {h : zH} {Q : Option Value → zH → Prop} (a1 : Int32) (H : zqm 121 [.int a1, .int (Int32.ofInt 0), .int (Int32.ofInt 255)] h (fun rv h1 => zri rv (fun v1 => ((¬ v1.toInt = 0 → ((¬ (h1.1 58 5).toInt = (120 : Int) → (0 ≤ (h1.1 58 5).toInt → (h1.1 58 5).toInt < 120 → Q (some (.int ((h1.1 58 5) + (Int32.ofInt 1)))) (zSet (zSet h1 62 (h1.1 58 5).toInt.toNat a1) 58 5 ((h1.1 58 5) + (Int32.ofInt 1))))) ∧ (¬ (¬ (h1.1 58 5).toInt = (120 : Int)) → Q (some (.int (-1000003 : Int32))) h1))) ∧ (¬ (¬ v1.toInt = 0) → Q (some (.int (-1000001 : Int32))) h1))))) : zqm 135 [.ref 58, .int a1] h Q := by
  refine zqm_of zp_135 (fun n => ?_)
  show zQ n 135 0 [some (.ref 58), some (.int a1)] [] h Q
  refine zQ_seq 3 (pc' := 5) (L' := [some (.ref 58), some (.int a1)]) (S' := [.int (Int32.ofInt 255), .int (Int32.ofInt 0), .int a1]) (h' := h) zp_135 rfl ?_
  refine zQ_csI (M' := 121) (as := [.int a1, .int (Int32.ofInt 0), .int (Int32.ofInt 255)]) (S' := []) zp_135 rfl rfl rfl zp_121 (Or.inr rfl) rfl rfl (zqm_imp H (fun rv h1 r1 => zri_imp r1 (fun v1 r1' => ?_)))
  refine zQ_if zp_135 rfl (t := 14) rfl (i := v1.toInt) rfl (fun c2 => ?_) (fun c2 => ?_)
  · refine zQ_seq 3 (pc' := 20) (L' := [some (.ref 58), some (.int a1)]) (S' := [.int (Int32.ofInt 120), .int (h1.1 58 5)]) (h' := h1) zp_135 rfl ?_
    refine zQ_ic zp_135 rfl (t := 26) rfl (i := (h1.1 58 5).toInt) (j := (120 : Int)) rfl kc_120 (fun c3 => ?_) (fun c3 => ?_)
    · refine zQ_seq 5 (pc' := 35) (L' := [some (.ref 58), some (.int a1)]) (S' := [.int a1, .int (h1.1 58 5), .ref 62]) (h' := h1) zp_135 rfl ?_
      refine zQ_ias (N := 120) zp_135 rfl rfl rfl (fun b4 b4' => ?_)
      refine zQ_seq 8 (pc' := 50) (L' := [some (.ref 58), some (.int a1)]) (S' := [.int ((h1.1 58 5) + (Int32.ofInt 1))]) (h' := (zSet (zSet h1 62 (h1.1 58 5).toInt.toNat a1) 58 5 ((h1.1 58 5) + (Int32.ofInt 1)))) zp_135 rfl ?_
      exact zQ_retI zp_135 rfl (((r1'.1 c2).1 c3) b4 b4')
    · refine zQ_seq 1 (pc' := 25) (L' := [some (.ref 58), some (.int a1)]) (S' := [.int (-1000003 : Int32)]) (h' := h1) zp_135 rfl ?_
      exact zQ_retI zp_135 rfl ((r1'.1 c2).2 c3)
  · refine zQ_seq 1 (pc' := 13) (L' := [some (.ref 58), some (.int a1)]) (S' := [.int (-1000001 : Int32)]) (h' := h1) zp_135 rfl ?_
    exact zQ_retI zp_135 rfl (r1'.2 c2)
theorem s_136 {h : zH} {Q : Option Value → zH → Prop} (H : (((h.1 58 5).toInt ≤ (h.1 58 7).toInt → Q (some (.int (Int32.ofInt (-1)))) h) ∧ (¬ ((h.1 58 5).toInt ≤ (h.1 58 7).toInt) → (0 ≤ (h.1 58 7).toInt → (h.1 58 7).toInt < 120 → Q (some (.int (h.1 62 (h.1 58 7).toInt.toNat))) h)))) : zqm 136 [.ref 58] h Q := by
  refine zqm_of zp_136 (fun n => ?_)
  show zQ n 136 0 [some (.ref 58)] [] h Q
  refine zQ_seq 4 (pc' := 8) (L' := [some (.ref 58)]) (S' := [.int (h.1 58 5), .int (h.1 58 7)]) (h' := h) zp_136 rfl ?_
  refine zQ_ic zp_136 rfl (t := 23) rfl (i := (h.1 58 7).toInt) (j := (h.1 58 5).toInt) rfl rfl (fun c1 => ?_) (fun c1 => ?_)
  · refine zQ_seq 1 (pc' := 24) (L' := [some (.ref 58)]) (S' := [.int (Int32.ofInt (-1))]) (h' := h) zp_136 rfl ?_
    exact zQ_retI zp_136 rfl (H.1 c1)
  · refine zQ_seq 4 (pc' := 19) (L' := [some (.ref 58)]) (S' := [.int (h.1 58 7), .ref 62]) (h' := h) zp_136 rfl ?_
    refine zQ_ial (N := 120) (f := h.1 62) zp_136 rfl rfl rfl (fun b2 b2' => ?_)
    refine zQ_goto zp_136 rfl (t := 24) rfl ?_
    exact zQ_retI zp_136 rfl ((H.2 c1) b2 b2')
theorem s_137 {h : zH} {Q : Option Value → zH → Prop} (a1 : Int32) (H : (((h.1 58 5).toInt ≤ a1.toInt → Q (some (.int (Int32.ofInt 0))) h) ∧ (¬ ((h.1 58 5).toInt ≤ a1.toInt) → (0 ≤ a1.toInt → a1.toInt < 120 → zqm 121 [.int (h.1 62 a1.toInt.toNat), .int (Int32.ofInt 48), .int (Int32.ofInt 57)] h (fun rv h3 => zri rv (fun v3 => ((v3.toInt = 0 → Q (some (.int (Int32.ofInt 0))) h3) ∧ (¬ (v3.toInt = 0) → Q (some (.int (Int32.ofInt 1))) h3)))))))) : zqm 137 [.ref 58, .int a1] h Q := by
  refine zqm_of zp_137 (fun n => ?_)
  show zQ n 137 0 [some (.ref 58), some (.int a1)] [] h Q
  refine zQ_seq 3 (pc' := 5) (L' := [some (.ref 58), some (.int a1)]) (S' := [.int (h.1 58 5), .int a1]) (h' := h) zp_137 rfl ?_
  refine zQ_ic zp_137 rfl (t := 28) rfl (i := a1.toInt) (j := (h.1 58 5).toInt) rfl rfl (fun c1 => ?_) (fun c1 => ?_)
  · refine zQ_seq 1 (pc' := 29) (L' := [some (.ref 58), some (.int a1)]) (S' := [.int (Int32.ofInt 0)]) (h' := h) zp_137 rfl ?_
    exact zQ_retI zp_137 rfl (H.1 c1)
  · refine zQ_seq 3 (pc' := 13) (L' := [some (.ref 58), some (.int a1)]) (S' := [.int a1, .ref 62]) (h' := h) zp_137 rfl ?_
    refine zQ_ial (N := 120) (f := h.1 62) zp_137 rfl rfl rfl (fun b2 b2' => ?_)
    refine zQ_seq 2 (pc' := 18) (L' := [some (.ref 58), some (.int a1)]) (S' := [.int (Int32.ofInt 57), .int (Int32.ofInt 48), .int (h.1 62 a1.toInt.toNat)]) (h' := h) zp_137 rfl ?_
    refine zQ_csI (M' := 121) (as := [.int (h.1 62 a1.toInt.toNat), .int (Int32.ofInt 48), .int (Int32.ofInt 57)]) (S' := []) zp_137 rfl rfl rfl zp_121 (Or.inr rfl) rfl rfl (zqm_imp ((H.2 c1) b2 b2') (fun rv h3 r3 => zri_imp r3 (fun v3 r3' => ?_)))
    refine zQ_if zp_137 rfl (t := 28) rfl (i := v3.toInt) rfl (fun c4 => ?_) (fun c4 => ?_)
    · refine zQ_seq 1 (pc' := 29) (L' := [some (.ref 58), some (.int a1)]) (S' := [.int (Int32.ofInt 0)]) (h' := h3) zp_137 rfl ?_
      exact zQ_retI zp_137 rfl (r3'.1 c4)
    · refine zQ_seq 1 (pc' := 25) (L' := [some (.ref 58), some (.int a1)]) (S' := [.int (Int32.ofInt 1)]) (h' := h3) zp_137 rfl ?_
      refine zQ_goto zp_137 rfl (t := 29) rfl ?_
      exact zQ_retI zp_137 rfl (r3'.2 c4)
theorem s_138 {h : zH} {Q : Option Value → zH → Prop} (a1 : Int32) (H : Q (some (.int (Int32.ofInt 0))) (zSet h 58 6 a1)) : zqm 138 [.ref 58, .int a1] h Q := by
  refine zqm_of zp_138 (fun n => ?_)
  show zQ n 138 0 [some (.ref 58), some (.int a1)] [] h Q
  refine zQ_seq 4 (pc' := 6) (L' := [some (.ref 58), some (.int a1)]) (S' := [.int (Int32.ofInt 0)]) (h' := (zSet h 58 6 a1)) zp_138 rfl ?_
  exact zQ_retI zp_138 rfl H
theorem s_139 {h : zH} {Q : Option Value → zH → Prop} (a1 : Int32) (H : zqm 136 [.ref 58] h (fun rv h1 => zri rv (fun v1 => ((v1.toInt = a1.toInt → Q (some (.int (Int32.ofInt 1))) (zSet h1 58 7 ((h1.1 58 7) + (Int32.ofInt 1)))) ∧ (¬ (v1.toInt = a1.toInt) → zqm 138 [.ref 58, .int (Int32.ofInt 1)] h1 (fun rv h3 => zri rv (fun v3 => Q (some (.int v3)) h3))))))) : zqm 139 [.ref 58, .int a1] h Q := by
  refine zqm_of zp_139 (fun n => ?_)
  show zQ n 139 0 [some (.ref 58), some (.int a1)] [] h Q
  refine zQ_seq 1 (pc' := 1) (L' := [some (.ref 58), some (.int a1)]) (S' := [.ref 58]) (h' := h) zp_139 rfl ?_
  refine zQ_cvI (M' := 136) (as := [.ref 58]) (S' := []) zp_139 rfl rfl zp_136 (Or.inl rfl) rfl rfl (zqm_imp H (fun rv h1 r1 => zri_imp r1 (fun v1 r1' => ?_)))
  refine zQ_seq 1 (pc' := 5) (L' := [some (.ref 58), some (.int a1)]) (S' := [.int a1, .int v1]) (h' := h1) zp_139 rfl ?_
  refine zQ_ic zp_139 rfl (t := 14) rfl (i := v1.toInt) (j := a1.toInt) rfl rfl (fun c2 => ?_) (fun c2 => ?_)
  · refine zQ_seq 7 (pc' := 25) (L' := [some (.ref 58), some (.int a1)]) (S' := [.int (Int32.ofInt 1)]) (h' := (zSet h1 58 7 ((h1.1 58 7) + (Int32.ofInt 1)))) zp_139 rfl ?_
    exact zQ_retI zp_139 rfl (r1'.1 c2)
  · refine zQ_seq 2 (pc' := 10) (L' := [some (.ref 58), some (.int a1)]) (S' := [.int (Int32.ofInt 1), .ref 58]) (h' := h1) zp_139 rfl ?_
    refine zQ_cvI (M' := 138) (as := [.ref 58, .int (Int32.ofInt 1)]) (S' := []) zp_139 rfl rfl zp_138 (Or.inr rfl) rfl rfl (zqm_imp (r1'.2 c2) (fun rv h3 r3 => zri_imp r3 (fun v3 r3' => ?_)))
    exact zQ_retI zp_139 rfl r3'
theorem s_140 {h : zH} {Q : Option Value → zH → Prop} (a1 : Int32) (a2 : Int32) (H : zqm 137 [.ref 58, .int (h.1 58 7)] h (fun rv h1 => zri rv (fun v1 => ((v1.toInt = 0 → zqm 138 [.ref 58, .int (Int32.ofInt 1)] h1 (fun rv h3 => zri rv (fun v3 => Q (some (.int v3)) h3))) ∧ (¬ (v1.toInt = 0) → zqm 137 [.ref 58, .int ((h1.1 58 7) + (Int32.ofInt 1))] h1 (fun rv h4 => zri rv (fun v4 => ((v4.toInt = 0 → (0 ≤ (h4.1 58 7).toInt → (h4.1 58 7).toInt < 120 → zqm 137 [.ref 58, .int ((h4.1 58 7) + (Int32.ofInt 1))] (zSet h4 58 8 ((h4.1 62 (h4.1 58 7).toInt.toNat) - (Int32.ofInt 48))) (fun rv h7 => zri rv (fun v7 => ((v7.toInt = 0 → zqm 121 [.int (h7.1 58 8), .int a1, .int a2] h7 (fun rv h9 => zri rv (fun v9 => ((¬ v9.toInt = 0 → Q (some (.int (Int32.ofInt 1))) (zSet h9 58 7 ((h9.1 58 7) + (Int32.ofInt 1)))) ∧ (¬ (¬ v9.toInt = 0) → zqm 138 [.ref 58, .int (Int32.ofInt 2)] h9 (fun rv h11 => zri rv (fun v11 => Q (some (.int v11)) h11))))))) ∧ (¬ (v7.toInt = 0) → (0 ≤ ((h7.1 58 7) + (Int32.ofInt 1)).toInt → ((h7.1 58 7) + (Int32.ofInt 1)).toInt < 120 → zqm 121 [.int ((((Int32.ofInt 10) * (h7.1 58 8)) + (h7.1 62 ((h7.1 58 7) + (Int32.ofInt 1)).toInt.toNat)) - (Int32.ofInt 48)), .int a1, .int a2] (zSet h7 58 8 ((((Int32.ofInt 10) * (h7.1 58 8)) + (h7.1 62 ((h7.1 58 7) + (Int32.ofInt 1)).toInt.toNat)) - (Int32.ofInt 48))) (fun rv h13 => zri rv (fun v13 => ((¬ v13.toInt = 0 → Q (some (.int (Int32.ofInt 1))) (zSet h13 58 7 ((h13.1 58 7) + (Int32.ofInt 2)))) ∧ (¬ (¬ v13.toInt = 0) → zqm 138 [.ref 58, .int (Int32.ofInt 2)] h13 (fun rv h15 => zri rv (fun v15 => Q (some (.int v15)) h15))))))))))))) ∧ (¬ (v4.toInt = 0) → zqm 137 [.ref 58, .int ((h4.1 58 7) + (Int32.ofInt 2))] h4 (fun rv h16 => zri rv (fun v16 => ((v16.toInt = 0 → (0 ≤ (h16.1 58 7).toInt → (h16.1 58 7).toInt < 120 → zqm 137 [.ref 58, .int ((h16.1 58 7) + (Int32.ofInt 1))] (zSet h16 58 8 ((h16.1 62 (h16.1 58 7).toInt.toNat) - (Int32.ofInt 48))) (fun rv h19 => zri rv (fun v19 => ((v19.toInt = 0 → zqm 121 [.int (h19.1 58 8), .int a1, .int a2] h19 (fun rv h21 => zri rv (fun v21 => ((¬ v21.toInt = 0 → Q (some (.int (Int32.ofInt 1))) (zSet h21 58 7 ((h21.1 58 7) + (Int32.ofInt 1)))) ∧ (¬ (¬ v21.toInt = 0) → zqm 138 [.ref 58, .int (Int32.ofInt 2)] h21 (fun rv h23 => zri rv (fun v23 => Q (some (.int v23)) h23))))))) ∧ (¬ (v19.toInt = 0) → (0 ≤ ((h19.1 58 7) + (Int32.ofInt 1)).toInt → ((h19.1 58 7) + (Int32.ofInt 1)).toInt < 120 → zqm 121 [.int ((((Int32.ofInt 10) * (h19.1 58 8)) + (h19.1 62 ((h19.1 58 7) + (Int32.ofInt 1)).toInt.toNat)) - (Int32.ofInt 48)), .int a1, .int a2] (zSet h19 58 8 ((((Int32.ofInt 10) * (h19.1 58 8)) + (h19.1 62 ((h19.1 58 7) + (Int32.ofInt 1)).toInt.toNat)) - (Int32.ofInt 48))) (fun rv h25 => zri rv (fun v25 => ((¬ v25.toInt = 0 → Q (some (.int (Int32.ofInt 1))) (zSet h25 58 7 ((h25.1 58 7) + (Int32.ofInt 2)))) ∧ (¬ (¬ v25.toInt = 0) → zqm 138 [.ref 58, .int (Int32.ofInt 2)] h25 (fun rv h27 => zri rv (fun v27 => Q (some (.int v27)) h27))))))))))))) ∧ (¬ (v16.toInt = 0) → zqm 138 [.ref 58, .int (Int32.ofInt 1)] h16 (fun rv h28 => zri rv (fun v28 => Q (some (.int v28)) h28))))))))))))))) : zqm 140 [.ref 58, .int a1, .int a2] h Q := by
  refine zqm_of zp_140 (fun n => ?_)
  show zQ n 140 0 [some (.ref 58), some (.int a1), some (.int a2), none] [] h Q
  refine zQ_seq 3 (pc' := 5) (L' := [some (.ref 58), some (.int a1), some (.int a2), none]) (S' := [.int (h.1 58 7), .ref 58]) (h' := h) zp_140 rfl ?_
  refine zQ_cvI (M' := 137) (as := [.ref 58, .int (h.1 58 7)]) (S' := []) zp_140 rfl rfl zp_137 (Or.inr rfl) rfl rfl (zqm_imp H (fun rv h1 r1 => zri_imp r1 (fun v1 r1' => ?_)))
  refine zQ_if zp_140 rfl (t := 37) rfl (i := v1.toInt) rfl (fun c2 => ?_) (fun c2 => ?_)
  · refine zQ_seq 2 (pc' := 39) (L' := [some (.ref 58), some (.int a1), some (.int a2), none]) (S' := [.int (Int32.ofInt 1), .ref 58]) (h' := h1) zp_140 rfl ?_
    refine zQ_cvI (M' := 138) (as := [.ref 58, .int (Int32.ofInt 1)]) (S' := []) zp_140 rfl rfl zp_138 (Or.inr rfl) rfl rfl (zqm_imp (r1'.1 c2) (fun rv h3 r3 => zri_imp r3 (fun v3 r3' => ?_)))
    exact zQ_retI zp_140 rfl r3'
  · refine zQ_seq 5 (pc' := 18) (L' := [some (.ref 58), some (.int a1), some (.int a2), none]) (S' := [.int ((h1.1 58 7) + (Int32.ofInt 1)), .ref 58]) (h' := h1) zp_140 rfl ?_
    refine zQ_cvI (M' := 137) (as := [.ref 58, .int ((h1.1 58 7) + (Int32.ofInt 1))]) (S' := []) zp_140 rfl rfl zp_137 (Or.inr rfl) rfl rfl (zqm_imp (r1'.2 c2) (fun rv h4 r4 => zri_imp r4 (fun v4 r4' => ?_)))
    refine zQ_if zp_140 rfl (t := 43) rfl (i := v4.toInt) rfl (fun c5 => ?_) (fun c5 => ?_)
    · refine zQ_seq 5 (pc' := 52) (L' := [some (.ref 58), some (.int a1), some (.int a2), none]) (S' := [.int (h4.1 58 7), .ref 62, .ref 58]) (h' := h4) zp_140 rfl ?_
      refine zQ_ial (N := 120) (f := h4.1 62) zp_140 rfl rfl rfl (fun b6 b6' => ?_)
      refine zQ_seq 10 (pc' := 68) (L' := [some (.ref 58), some (.int a1), some (.int a2), some (.int (Int32.ofInt 1))]) (S' := [.int ((h4.1 58 7) + (Int32.ofInt 1)), .ref 58]) (h' := (zSet h4 58 8 ((h4.1 62 (h4.1 58 7).toInt.toNat) - (Int32.ofInt 48)))) zp_140 rfl ?_
      refine zQ_cvI (M' := 137) (as := [.ref 58, .int ((h4.1 58 7) + (Int32.ofInt 1))]) (S' := []) zp_140 rfl rfl zp_137 (Or.inr rfl) rfl rfl (zqm_imp ((r4'.1 c5) b6 b6') (fun rv h7 r7 => zri_imp r7 (fun v7 r7' => ?_)))
      refine zQ_if zp_140 rfl (t := 102) rfl (i := v7.toInt) rfl (fun c8 => ?_) (fun c8 => ?_)
      · refine zQ_seq 4 (pc' := 108) (L' := [some (.ref 58), some (.int a1), some (.int a2), some (.int (Int32.ofInt 1))]) (S' := [.int a2, .int a1, .int (h7.1 58 8)]) (h' := h7) zp_140 rfl ?_
        refine zQ_csI (M' := 121) (as := [.int (h7.1 58 8), .int a1, .int a2]) (S' := []) zp_140 rfl rfl rfl zp_121 (Or.inr rfl) rfl rfl (zqm_imp (r7'.1 c8) (fun rv h9 r9 => zri_imp r9 (fun v9 r9' => ?_)))
        refine zQ_if zp_140 rfl (t := 120) rfl (i := v9.toInt) rfl (fun c10 => ?_) (fun c10 => ?_)
        · refine zQ_seq 7 (pc' := 131) (L' := [some (.ref 58), some (.int a1), some (.int a2), some (.int (Int32.ofInt 1))]) (S' := [.int (Int32.ofInt 1)]) (h' := (zSet h9 58 7 ((h9.1 58 7) + (Int32.ofInt 1)))) zp_140 rfl ?_
          exact zQ_retI zp_140 rfl (r9'.1 c10)
        · refine zQ_seq 2 (pc' := 116) (L' := [some (.ref 58), some (.int a1), some (.int a2), some (.int (Int32.ofInt 1))]) (S' := [.int (Int32.ofInt 2), .ref 58]) (h' := h9) zp_140 rfl ?_
          refine zQ_cvI (M' := 138) (as := [.ref 58, .int (Int32.ofInt 2)]) (S' := []) zp_140 rfl rfl zp_138 (Or.inr rfl) rfl rfl (zqm_imp (r9'.2 c10) (fun rv h11 r11 => zri_imp r11 (fun v11 r11' => ?_)))
          exact zQ_retI zp_140 rfl r11'
      · refine zQ_seq 11 (pc' := 92) (L' := [some (.ref 58), some (.int a1), some (.int a2), some (.int (Int32.ofInt 1))]) (S' := [.int ((h7.1 58 7) + (Int32.ofInt 1)), .ref 62, .int ((Int32.ofInt 10) * (h7.1 58 8)), .ref 58]) (h' := h7) zp_140 rfl ?_
        refine zQ_ial (N := 120) (f := h7.1 62) zp_140 rfl rfl rfl (fun b12 b12' => ?_)
        refine zQ_seq 10 (pc' := 108) (L' := [some (.ref 58), some (.int a1), some (.int a2), some (.int (Int32.ofInt 2))]) (S' := [.int a2, .int a1, .int ((((Int32.ofInt 10) * (h7.1 58 8)) + (h7.1 62 ((h7.1 58 7) + (Int32.ofInt 1)).toInt.toNat)) - (Int32.ofInt 48))]) (h' := (zSet h7 58 8 ((((Int32.ofInt 10) * (h7.1 58 8)) + (h7.1 62 ((h7.1 58 7) + (Int32.ofInt 1)).toInt.toNat)) - (Int32.ofInt 48)))) zp_140 rfl ?_
        refine zQ_csI (M' := 121) (as := [.int ((((Int32.ofInt 10) * (h7.1 58 8)) + (h7.1 62 ((h7.1 58 7) + (Int32.ofInt 1)).toInt.toNat)) - (Int32.ofInt 48)), .int a1, .int a2]) (S' := []) zp_140 rfl rfl rfl zp_121 (Or.inr rfl) rfl rfl (zqm_imp ((r7'.2 c8) b12 b12') (fun rv h13 r13 => zri_imp r13 (fun v13 r13' => ?_)))
        refine zQ_if zp_140 rfl (t := 120) rfl (i := v13.toInt) rfl (fun c14 => ?_) (fun c14 => ?_)
        · refine zQ_seq 7 (pc' := 131) (L' := [some (.ref 58), some (.int a1), some (.int a2), some (.int (Int32.ofInt 2))]) (S' := [.int (Int32.ofInt 1)]) (h' := (zSet h13 58 7 ((h13.1 58 7) + (Int32.ofInt 2)))) zp_140 rfl ?_
          exact zQ_retI zp_140 rfl (r13'.1 c14)
        · refine zQ_seq 2 (pc' := 116) (L' := [some (.ref 58), some (.int a1), some (.int a2), some (.int (Int32.ofInt 2))]) (S' := [.int (Int32.ofInt 2), .ref 58]) (h' := h13) zp_140 rfl ?_
          refine zQ_cvI (M' := 138) (as := [.ref 58, .int (Int32.ofInt 2)]) (S' := []) zp_140 rfl rfl zp_138 (Or.inr rfl) rfl rfl (zqm_imp (r13'.2 c14) (fun rv h15 r15 => zri_imp r15 (fun v15 r15' => ?_)))
          exact zQ_retI zp_140 rfl r15'
    · refine zQ_seq 5 (pc' := 31) (L' := [some (.ref 58), some (.int a1), some (.int a2), none]) (S' := [.int ((h4.1 58 7) + (Int32.ofInt 2)), .ref 58]) (h' := h4) zp_140 rfl ?_
      refine zQ_cvI (M' := 137) (as := [.ref 58, .int ((h4.1 58 7) + (Int32.ofInt 2))]) (S' := []) zp_140 rfl rfl zp_137 (Or.inr rfl) rfl rfl (zqm_imp (r4'.2 c5) (fun rv h16 r16 => zri_imp r16 (fun v16 r16' => ?_)))
      refine zQ_if zp_140 rfl (t := 43) rfl (i := v16.toInt) rfl (fun c17 => ?_) (fun c17 => ?_)
      · refine zQ_seq 5 (pc' := 52) (L' := [some (.ref 58), some (.int a1), some (.int a2), none]) (S' := [.int (h16.1 58 7), .ref 62, .ref 58]) (h' := h16) zp_140 rfl ?_
        refine zQ_ial (N := 120) (f := h16.1 62) zp_140 rfl rfl rfl (fun b18 b18' => ?_)
        refine zQ_seq 10 (pc' := 68) (L' := [some (.ref 58), some (.int a1), some (.int a2), some (.int (Int32.ofInt 1))]) (S' := [.int ((h16.1 58 7) + (Int32.ofInt 1)), .ref 58]) (h' := (zSet h16 58 8 ((h16.1 62 (h16.1 58 7).toInt.toNat) - (Int32.ofInt 48)))) zp_140 rfl ?_
        refine zQ_cvI (M' := 137) (as := [.ref 58, .int ((h16.1 58 7) + (Int32.ofInt 1))]) (S' := []) zp_140 rfl rfl zp_137 (Or.inr rfl) rfl rfl (zqm_imp ((r16'.1 c17) b18 b18') (fun rv h19 r19 => zri_imp r19 (fun v19 r19' => ?_)))
        refine zQ_if zp_140 rfl (t := 102) rfl (i := v19.toInt) rfl (fun c20 => ?_) (fun c20 => ?_)
        · refine zQ_seq 4 (pc' := 108) (L' := [some (.ref 58), some (.int a1), some (.int a2), some (.int (Int32.ofInt 1))]) (S' := [.int a2, .int a1, .int (h19.1 58 8)]) (h' := h19) zp_140 rfl ?_
          refine zQ_csI (M' := 121) (as := [.int (h19.1 58 8), .int a1, .int a2]) (S' := []) zp_140 rfl rfl rfl zp_121 (Or.inr rfl) rfl rfl (zqm_imp (r19'.1 c20) (fun rv h21 r21 => zri_imp r21 (fun v21 r21' => ?_)))
          refine zQ_if zp_140 rfl (t := 120) rfl (i := v21.toInt) rfl (fun c22 => ?_) (fun c22 => ?_)
          · refine zQ_seq 7 (pc' := 131) (L' := [some (.ref 58), some (.int a1), some (.int a2), some (.int (Int32.ofInt 1))]) (S' := [.int (Int32.ofInt 1)]) (h' := (zSet h21 58 7 ((h21.1 58 7) + (Int32.ofInt 1)))) zp_140 rfl ?_
            exact zQ_retI zp_140 rfl (r21'.1 c22)
          · refine zQ_seq 2 (pc' := 116) (L' := [some (.ref 58), some (.int a1), some (.int a2), some (.int (Int32.ofInt 1))]) (S' := [.int (Int32.ofInt 2), .ref 58]) (h' := h21) zp_140 rfl ?_
            refine zQ_cvI (M' := 138) (as := [.ref 58, .int (Int32.ofInt 2)]) (S' := []) zp_140 rfl rfl zp_138 (Or.inr rfl) rfl rfl (zqm_imp (r21'.2 c22) (fun rv h23 r23 => zri_imp r23 (fun v23 r23' => ?_)))
            exact zQ_retI zp_140 rfl r23'
        · refine zQ_seq 11 (pc' := 92) (L' := [some (.ref 58), some (.int a1), some (.int a2), some (.int (Int32.ofInt 1))]) (S' := [.int ((h19.1 58 7) + (Int32.ofInt 1)), .ref 62, .int ((Int32.ofInt 10) * (h19.1 58 8)), .ref 58]) (h' := h19) zp_140 rfl ?_
          refine zQ_ial (N := 120) (f := h19.1 62) zp_140 rfl rfl rfl (fun b24 b24' => ?_)
          refine zQ_seq 10 (pc' := 108) (L' := [some (.ref 58), some (.int a1), some (.int a2), some (.int (Int32.ofInt 2))]) (S' := [.int a2, .int a1, .int ((((Int32.ofInt 10) * (h19.1 58 8)) + (h19.1 62 ((h19.1 58 7) + (Int32.ofInt 1)).toInt.toNat)) - (Int32.ofInt 48))]) (h' := (zSet h19 58 8 ((((Int32.ofInt 10) * (h19.1 58 8)) + (h19.1 62 ((h19.1 58 7) + (Int32.ofInt 1)).toInt.toNat)) - (Int32.ofInt 48)))) zp_140 rfl ?_
          refine zQ_csI (M' := 121) (as := [.int ((((Int32.ofInt 10) * (h19.1 58 8)) + (h19.1 62 ((h19.1 58 7) + (Int32.ofInt 1)).toInt.toNat)) - (Int32.ofInt 48)), .int a1, .int a2]) (S' := []) zp_140 rfl rfl rfl zp_121 (Or.inr rfl) rfl rfl (zqm_imp ((r19'.2 c20) b24 b24') (fun rv h25 r25 => zri_imp r25 (fun v25 r25' => ?_)))
          refine zQ_if zp_140 rfl (t := 120) rfl (i := v25.toInt) rfl (fun c26 => ?_) (fun c26 => ?_)
          · refine zQ_seq 7 (pc' := 131) (L' := [some (.ref 58), some (.int a1), some (.int a2), some (.int (Int32.ofInt 2))]) (S' := [.int (Int32.ofInt 1)]) (h' := (zSet h25 58 7 ((h25.1 58 7) + (Int32.ofInt 2)))) zp_140 rfl ?_
            exact zQ_retI zp_140 rfl (r25'.1 c26)
          · refine zQ_seq 2 (pc' := 116) (L' := [some (.ref 58), some (.int a1), some (.int a2), some (.int (Int32.ofInt 2))]) (S' := [.int (Int32.ofInt 2), .ref 58]) (h' := h25) zp_140 rfl ?_
            refine zQ_cvI (M' := 138) (as := [.ref 58, .int (Int32.ofInt 2)]) (S' := []) zp_140 rfl rfl zp_138 (Or.inr rfl) rfl rfl (zqm_imp (r25'.2 c26) (fun rv h27 r27 => zri_imp r27 (fun v27 r27' => ?_)))
            exact zQ_retI zp_140 rfl r27'
      · refine zQ_seq 2 (pc' := 39) (L' := [some (.ref 58), some (.int a1), some (.int a2), none]) (S' := [.int (Int32.ofInt 1), .ref 58]) (h' := h16) zp_140 rfl ?_
        refine zQ_cvI (M' := 138) (as := [.ref 58, .int (Int32.ofInt 1)]) (S' := []) zp_140 rfl rfl zp_138 (Or.inr rfl) rfl rfl (zqm_imp (r16'.2 c17) (fun rv h28 r28 => zri_imp r28 (fun v28 r28' => ?_)))
        exact zQ_retI zp_140 rfl r28'
theorem s_141 {h : zH} {Q : Option Value → zH → Prop} (H : zqm 139 [.ref 58, .int (Int32.ofInt 108)] h (fun rv h1 => zri rv (fun v1 => ((v1.toInt = 0 → Q (some (.int (Int32.ofInt 0))) h1) ∧ (¬ (v1.toInt = 0) → zqm 140 [.ref 58, .int (Int32.ofInt 0), .int (Int32.ofInt 14)] h1 (fun rv h3 => zri rv (fun v3 => ((¬ v3.toInt = 0 → zqm 139 [.ref 58, .int (Int32.ofInt 44)] (zSet h3 63 58 (h3.1 58 8)) (fun rv h5 => zri rv (fun v5 => ((v5.toInt = 0 → Q (some (.int (Int32.ofInt 0))) h5) ∧ (¬ (v5.toInt = 0) → zqm 140 [.ref 58, .int (Int32.ofInt 0), .int (Int32.ofInt 3)] h5 (fun rv h7 => zri rv (fun v7 => ((¬ v7.toInt = 0 → zqm 139 [.ref 58, .int (Int32.ofInt 59)] (zSet h7 63 59 (h7.1 58 8)) (fun rv h9 => zri rv (fun v9 => Q (some (.int v9)) h9))) ∧ (¬ (¬ v7.toInt = 0) → Q (some (.int (Int32.ofInt 0))) h7))))))))) ∧ (¬ (¬ v3.toInt = 0) → Q (some (.int (Int32.ofInt 0))) h3))))))))) : zqm 141 [.ref 58] h Q := by
  refine zqm_of zp_141 (fun n => ?_)
  show zQ n 141 0 [some (.ref 58)] [] h Q
  refine zQ_seq 2 (pc' := 3) (L' := [some (.ref 58)]) (S' := [.int (Int32.ofInt 108), .ref 58]) (h' := h) zp_141 rfl ?_
  refine zQ_cvI (M' := 139) (as := [.ref 58, .int (Int32.ofInt 108)]) (S' := []) zp_141 rfl rfl zp_139 (Or.inr rfl) rfl rfl (zqm_imp H (fun rv h1 r1 => zri_imp r1 (fun v1 r1' => ?_)))
  refine zQ_if zp_141 rfl (t := 19) rfl (i := v1.toInt) rfl (fun c2 => ?_) (fun c2 => ?_)
  · refine zQ_seq 1 (pc' := 20) (L' := [some (.ref 58)]) (S' := [.int (Int32.ofInt 0)]) (h' := h1) zp_141 rfl ?_
    exact zQ_retI zp_141 rfl (r1'.1 c2)
  · refine zQ_seq 3 (pc' := 13) (L' := [some (.ref 58)]) (S' := [.int (Int32.ofInt 14), .int (Int32.ofInt 0), .ref 58]) (h' := h1) zp_141 rfl ?_
    refine zQ_cvI (M' := 140) (as := [.ref 58, .int (Int32.ofInt 0), .int (Int32.ofInt 14)]) (S' := []) zp_141 rfl rfl zp_140 (Or.inr rfl) rfl rfl (zqm_imp (r1'.2 c2) (fun rv h3 r3 => zri_imp r3 (fun v3 r3' => ?_)))
    refine zQ_if zp_141 rfl (t := 21) rfl (i := v3.toInt) rfl (fun c4 => ?_) (fun c4 => ?_)
    · refine zQ_seq 5 (pc' := 31) (L' := [some (.ref 58)]) (S' := [.int (h3.1 58 8), .int (Int32.ofInt 58), .ref 63]) (h' := h3) zp_141 rfl ?_
      refine zQ_iask 58 (N := 62) zp_141 rfl rfl kc_58 ?_
      refine zQ_seq 2 (pc' := 35) (L' := [some (.ref 58)]) (S' := [.int (Int32.ofInt 44), .ref 58]) (h' := (zSet h3 63 58 (h3.1 58 8))) zp_141 rfl ?_
      refine zQ_cvI (M' := 139) (as := [.ref 58, .int (Int32.ofInt 44)]) (S' := []) zp_141 rfl rfl zp_139 (Or.inr rfl) rfl rfl (zqm_imp (r3'.1 c4) (fun rv h5 r5 => zri_imp r5 (fun v5 r5' => ?_)))
      refine zQ_if zp_141 rfl (t := 50) rfl (i := v5.toInt) rfl (fun c6 => ?_) (fun c6 => ?_)
      · refine zQ_seq 1 (pc' := 51) (L' := [some (.ref 58)]) (S' := [.int (Int32.ofInt 0)]) (h' := h5) zp_141 rfl ?_
        exact zQ_retI zp_141 rfl (r5'.1 c6)
      · refine zQ_seq 3 (pc' := 44) (L' := [some (.ref 58)]) (S' := [.int (Int32.ofInt 3), .int (Int32.ofInt 0), .ref 58]) (h' := h5) zp_141 rfl ?_
        refine zQ_cvI (M' := 140) (as := [.ref 58, .int (Int32.ofInt 0), .int (Int32.ofInt 3)]) (S' := []) zp_141 rfl rfl zp_140 (Or.inr rfl) rfl rfl (zqm_imp (r5'.2 c6) (fun rv h7 r7 => zri_imp r7 (fun v7 r7' => ?_)))
        refine zQ_if zp_141 rfl (t := 52) rfl (i := v7.toInt) rfl (fun c8 => ?_) (fun c8 => ?_)
        · refine zQ_seq 5 (pc' := 62) (L' := [some (.ref 58)]) (S' := [.int (h7.1 58 8), .int (Int32.ofInt 59), .ref 63]) (h' := h7) zp_141 rfl ?_
          refine zQ_iask 59 (N := 62) zp_141 rfl rfl kc_59 ?_
          refine zQ_seq 2 (pc' := 66) (L' := [some (.ref 58)]) (S' := [.int (Int32.ofInt 59), .ref 58]) (h' := (zSet h7 63 59 (h7.1 58 8))) zp_141 rfl ?_
          refine zQ_cvI (M' := 139) (as := [.ref 58, .int (Int32.ofInt 59)]) (S' := []) zp_141 rfl rfl zp_139 (Or.inr rfl) rfl rfl (zqm_imp (r7'.1 c8) (fun rv h9 r9 => zri_imp r9 (fun v9 r9' => ?_)))
          exact zQ_retI zp_141 rfl r9'
        · refine zQ_seq 1 (pc' := 51) (L' := [some (.ref 58)]) (S' := [.int (Int32.ofInt 0)]) (h' := h7) zp_141 rfl ?_
          exact zQ_retI zp_141 rfl (r7'.2 c8)
    · refine zQ_seq 1 (pc' := 20) (L' := [some (.ref 58)]) (S' := [.int (Int32.ofInt 0)]) (h' := h3) zp_141 rfl ?_
      exact zQ_retI zp_141 rfl (r3'.2 c4)
theorem s_142 {h : zH} {Q : Option Value → zH → Prop} (a1 : Int32) (a2 : Int32) (a3 : Int32) (a4 : Int32) (H : (∀ n, zqm 139 [.ref 58, .int a1] h (fun rv h1 => zri rv (fun v1 => ((¬ v1.toInt = 0 → zQ n 142 13 [some (.ref 58), some (.int a1), some (.int a2), some (.int a3), some (.int a4), some (.int (Int32.ofInt 0))] [] h1 Q) ∧ (¬ (¬ v1.toInt = 0) → Q (some (.int (Int32.ofInt 0))) h1)))))) : zqm 142 [.ref 58, .int a1, .int a2, .int a3, .int a4] h Q := by
  refine zqm_of zp_142 (fun n => ?_)
  have H := H n
  show zQ n 142 0 [some (.ref 58), some (.int a1), some (.int a2), some (.int a3), some (.int a4), none] [] h Q
  refine zQ_seq 2 (pc' := 2) (L' := [some (.ref 58), some (.int a1), some (.int a2), some (.int a3), some (.int a4), none]) (S' := [.int a1, .ref 58]) (h' := h) zp_142 rfl ?_
  refine zQ_cvI (M' := 139) (as := [.ref 58, .int a1]) (S' := []) zp_142 rfl rfl zp_139 (Or.inr rfl) rfl rfl (zqm_imp H (fun rv h1 r1 => zri_imp r1 (fun v1 r1' => ?_)))
  refine zQ_if zp_142 rfl (t := 10) rfl (i := v1.toInt) rfl (fun c2 => ?_) (fun c2 => ?_)
  · refine zQ_seq 2 (pc' := 13) (L' := [some (.ref 58), some (.int a1), some (.int a2), some (.int a3), some (.int a4), some (.int (Int32.ofInt 0))]) (S' := []) (h' := h1) zp_142 rfl ?_
    exact (r1'.1 c2)
  · refine zQ_seq 1 (pc' := 9) (L' := [some (.ref 58), some (.int a1), some (.int a2), some (.int a3), some (.int a4), none]) (S' := [.int (Int32.ofInt 0)]) (h' := h1) zp_142 rfl ?_
    exact zQ_retI zp_142 rfl (r1'.2 c2)
theorem s_142_13 {n : Nat} {h : zH} {Q : Option Value → zH → Prop} (x1 : Int32) (x2 : Int32) (x3 : Int32) (x4 : Int32) (x5 : Int32) (H : (((15 : Int) ≤ x5.toInt → zqm 139 [.ref 58, .int (Int32.ofInt 59)] h (fun rv h2 => zri rv (fun v2 => Q (some (.int v2)) h2))) ∧ (¬ ((15 : Int) ≤ x5.toInt) → zqm 136 [.ref 58] h (fun rv h3 => zri rv (fun v3 => zqm 121 [.int v3, .int x2, .int ((x2 + x3) - (Int32.ofInt 1))] h3 (fun rv h4 => zri rv (fun v4 => ((¬ v4.toInt = 0 → zqm 136 [.ref 58] h4 (fun rv h6 => zri rv (fun v6 => (0 ≤ (x4 + x5).toInt → (x4 + x5).toInt < 62 → zQ n 142 13 [some (.ref 58), some (.int x1), some (.int x2), some (.int x3), some (.int x4), some (.int (x5 + Int32.ofInt 1))] [] (zSet (zSet h6 63 (x4 + x5).toInt.toNat (v6 - x2)) 58 7 ((h6.1 58 7) + (Int32.ofInt 1))) Q)))) ∧ (¬ (¬ v4.toInt = 0) → zqm 138 [.ref 58, .int (Int32.ofInt 1)] h4 (fun rv h8 => zri rv (fun v8 => Q (some (.int v8)) h8))))))))))) : zQ (n + 1) 142 13 [some (.ref 58), some (.int x1), some (.int x2), some (.int x3), some (.int x4), some (.int x5)] [] h Q := by
  refine zQ_seqL 1 (pc' := 17) (L' := [some (.ref 58), some (.int x1), some (.int x2), some (.int x3), some (.int x4), some (.int x5)]) (S' := [.int (Int32.ofInt 15), .int x5]) (h' := h) zp_142 rfl ?_
  refine zQ_ic zp_142 rfl (t := 74) rfl (i := x5.toInt) (j := (15 : Int)) rfl kc_15 (fun c1 => ?_) (fun c1 => ?_)
  · refine zQ_seq 2 (pc' := 77) (L' := [some (.ref 58), some (.int x1), some (.int x2), some (.int x3), some (.int x4), some (.int x5)]) (S' := [.int (Int32.ofInt 59), .ref 58]) (h' := h) zp_142 rfl ?_
    refine zQ_cvI (M' := 139) (as := [.ref 58, .int (Int32.ofInt 59)]) (S' := []) zp_142 rfl rfl zp_139 (Or.inr rfl) rfl rfl (zqm_imp (H.1 c1) (fun rv h2 r2 => zri_imp r2 (fun v2 r2' => ?_)))
    exact zQ_retI zp_142 rfl r2'
  · refine zQ_seq 1 (pc' := 21) (L' := [some (.ref 58), some (.int x1), some (.int x2), some (.int x3), some (.int x4), some (.int x5)]) (S' := [.ref 58]) (h' := h) zp_142 rfl ?_
    refine zQ_cvI (M' := 136) (as := [.ref 58]) (S' := []) zp_142 rfl rfl zp_136 (Or.inl rfl) rfl rfl (zqm_imp (H.2 c1) (fun rv h3 r3 => zri_imp r3 (fun v3 r3' => ?_)))
    refine zQ_seq 6 (pc' := 30) (L' := [some (.ref 58), some (.int x1), some (.int x2), some (.int x3), some (.int x4), some (.int x5)]) (S' := [.int ((x2 + x3) - (Int32.ofInt 1)), .int x2, .int v3]) (h' := h3) zp_142 rfl ?_
    refine zQ_csI (M' := 121) (as := [.int v3, .int x2, .int ((x2 + x3) - (Int32.ofInt 1))]) (S' := []) zp_142 rfl rfl rfl zp_121 (Or.inr rfl) rfl rfl (zqm_imp r3' (fun rv h4 r4 => zri_imp r4 (fun v4 r4' => ?_)))
    refine zQ_if zp_142 rfl (t := 42) rfl (i := v4.toInt) rfl (fun c5 => ?_) (fun c5 => ?_)
    · refine zQ_seq 6 (pc' := 52) (L' := [some (.ref 58), some (.int x1), some (.int x2), some (.int x3), some (.int x4), some (.int x5)]) (S' := [.ref 58, .int (x4 + x5), .ref 63]) (h' := h4) zp_142 rfl ?_
      refine zQ_cvI (M' := 136) (as := [.ref 58]) (S' := [.int (x4 + x5), .ref 63]) zp_142 rfl rfl zp_136 (Or.inl rfl) rfl rfl (zqm_imp (r4'.1 c5) (fun rv h6 r6 => zri_imp r6 (fun v6 r6' => ?_)))
      refine zQ_seq 2 (pc' := 57) (L' := [some (.ref 58), some (.int x1), some (.int x2), some (.int x3), some (.int x4), some (.int x5)]) (S' := [.int (v6 - x2), .int (x4 + x5), .ref 63]) (h' := h6) zp_142 rfl ?_
      refine zQ_ias (N := 62) zp_142 rfl rfl rfl (fun b7 b7' => ?_)
      refine zQ_seq 7 (pc' := 71) (L' := [some (.ref 58), some (.int x1), some (.int x2), some (.int x3), some (.int x4), some (.int (x5 + Int32.ofInt 1))]) (S' := []) (h' := (zSet (zSet h6 63 (x4 + x5).toInt.toNat (v6 - x2)) 58 7 ((h6.1 58 7) + (Int32.ofInt 1)))) zp_142 rfl ?_
      refine zQ_goto zp_142 rfl (t := 13) rfl ?_
      exact (r6' b7 b7')
    · refine zQ_seq 2 (pc' := 38) (L' := [some (.ref 58), some (.int x1), some (.int x2), some (.int x3), some (.int x4), some (.int x5)]) (S' := [.int (Int32.ofInt 1), .ref 58]) (h' := h4) zp_142 rfl ?_
      refine zQ_cvI (M' := 138) (as := [.ref 58, .int (Int32.ofInt 1)]) (S' := []) zp_142 rfl rfl zp_138 (Or.inr rfl) rfl rfl (zqm_imp (r4'.2 c5) (fun rv h8 r8 => zri_imp r8 (fun v8 r8' => ?_)))
      exact zQ_retI zp_142 rfl r8'
theorem s_143 {h : zH} {Q : Option Value → zH → Prop} (a0 : Int32) (H : ((a0.toInt = 107 → Q (some (.int (Int32.ofInt 4))) h) ∧ ((a0.toInt = 111 → Q (some (.int (Int32.ofInt 5))) h) ∧ ((a0.toInt = 112 → Q (some (.int (Int32.ofInt 1))) h) ∧ ((a0.toInt = 121 → Q (some (.int (Int32.ofInt 3))) h) ∧ ((a0.toInt = 122 → Q (some (.int (Int32.ofInt 2))) h) ∧ ((¬ a0.toInt = 107 ∧ ¬ a0.toInt = 111 ∧ ¬ a0.toInt = 112 ∧ ¬ a0.toInt = 121 ∧ ¬ a0.toInt = 122) → Q (some (.int (Int32.ofInt (-1)))) h))))))) : zqm 143 [.int a0] h Q := by
  refine zqm_of zp_143 (fun n => ?_)
  show zQ n 143 0 [some (.int a0)] [] h Q
  refine zQ_seq 1 (pc' := 1) (L' := [some (.int a0)]) (S' := [.int a0]) (h' := h) zp_143 rfl ?_
  refine zQ_lsw zp_143 rfl (fun t ht => ?_)
  rcases (by omega : a0.toInt = 107 ∨ a0.toInt = 111 ∨ a0.toInt = 112 ∨ a0.toInt = 121 ∨ a0.toInt = 122 ∨ (¬ a0.toInt = 107 ∧ ¬ a0.toInt = 111 ∧ ¬ a0.toInt = 112 ∧ ¬ a0.toInt = 121 ∧ ¬ a0.toInt = 122)) with c1 | c1 | c1 | c1 | c1 | c1
  · have e : (some 58 : Option Nat) = some t := by rw [c1] at ht; exact ht
    cases e
    refine zQ_seq 1 (pc' := 59) (L' := [some (.int a0)]) (S' := [.int (Int32.ofInt 4)]) (h' := h) zp_143 rfl ?_
    exact zQ_retI zp_143 rfl (H.1 c1)
  · have e : (some 60 : Option Nat) = some t := by rw [c1] at ht; exact ht
    cases e
    refine zQ_seq 1 (pc' := 61) (L' := [some (.int a0)]) (S' := [.int (Int32.ofInt 5)]) (h' := h) zp_143 rfl ?_
    exact zQ_retI zp_143 rfl (H.2.1 c1)
  · have e : (some 52 : Option Nat) = some t := by rw [c1] at ht; exact ht
    cases e
    refine zQ_seq 1 (pc' := 53) (L' := [some (.int a0)]) (S' := [.int (Int32.ofInt 1)]) (h' := h) zp_143 rfl ?_
    exact zQ_retI zp_143 rfl (H.2.2.1 c1)
  · have e : (some 56 : Option Nat) = some t := by rw [c1] at ht; exact ht
    cases e
    refine zQ_seq 1 (pc' := 57) (L' := [some (.int a0)]) (S' := [.int (Int32.ofInt 3)]) (h' := h) zp_143 rfl ?_
    exact zQ_retI zp_143 rfl (H.2.2.2.1 c1)
  · have e : (some 54 : Option Nat) = some t := by rw [c1] at ht; exact ht
    cases e
    refine zQ_seq 1 (pc' := 55) (L' := [some (.int a0)]) (S' := [.int (Int32.ofInt 2)]) (h' := h) zp_143 rfl ?_
    exact zQ_retI zp_143 rfl (H.2.2.2.2.1 c1)
  · have e : (some 62 : Option Nat) = some t := by rw [zLsw_d (by simpa using c1)] at ht; exact ht
    cases e
    refine zQ_seq 1 (pc' := 63) (L' := [some (.int a0)]) (S' := [.int (Int32.ofInt (-1))]) (h' := h) zp_143 rfl ?_
    exact zQ_retI zp_143 rfl (H.2.2.2.2.2 c1)
theorem s_144 {h : zH} {Q : Option Value → zH → Prop} (H : zqm 136 [.ref 58] h (fun rv h1 => zri rv (fun v1 => zqm 143 [.int v1] h1 (fun rv h2 => zri rv (fun v2 => ((0 ≤ v2.toInt → ((¬ (h2.1 63 57).toInt = (4 : Int) → (0 ≤ ((Int32.ofInt 45) + ((Int32.ofInt 3) * (h2.1 63 57))).toInt → ((Int32.ofInt 45) + ((Int32.ofInt 3) * (h2.1 63 57))).toInt < 62 → zqm 140 [.ref 58, .int (Int32.ofInt 0), .int (Int32.ofInt 2)] (zSet (zSet h2 63 ((Int32.ofInt 45) + ((Int32.ofInt 3) * (h2.1 63 57))).toInt.toNat v2) 58 7 ((h2.1 58 7) + (Int32.ofInt 1))) (fun rv h6 => zri rv (fun v6 => ((¬ v6.toInt = 0 → (0 ≤ (((Int32.ofInt 45) + ((Int32.ofInt 3) * (h2.1 63 57))) + (Int32.ofInt 1)).toInt → (((Int32.ofInt 45) + ((Int32.ofInt 3) * (h2.1 63 57))) + (Int32.ofInt 1)).toInt < 62 → zqm 139 [.ref 58, .int (Int32.ofInt 44)] (zSet h6 63 (((Int32.ofInt 45) + ((Int32.ofInt 3) * (h2.1 63 57))) + (Int32.ofInt 1)).toInt.toNat (h6.1 58 8)) (fun rv h9 => zri rv (fun v9 => ((v9.toInt = 0 → Q (some (.int (Int32.ofInt 0))) h9) ∧ (¬ (v9.toInt = 0) → zqm 140 [.ref 58, .int (Int32.ofInt 1), .int (Int32.ofInt 5)] h9 (fun rv h11 => zri rv (fun v11 => ((¬ v11.toInt = 0 → (0 ≤ (((Int32.ofInt 45) + ((Int32.ofInt 3) * (h2.1 63 57))) + (Int32.ofInt 2)).toInt → (((Int32.ofInt 45) + ((Int32.ofInt 3) * (h2.1 63 57))) + (Int32.ofInt 2)).toInt < 62 → zqm 139 [.ref 58, .int (Int32.ofInt 59)] (zSet (zSet h11 63 (((Int32.ofInt 45) + ((Int32.ofInt 3) * (h2.1 63 57))) + (Int32.ofInt 2)).toInt.toNat (h11.1 58 8)) 63 57 (((zSet h11 63 (((Int32.ofInt 45) + ((Int32.ofInt 3) * (h2.1 63 57))) + (Int32.ofInt 2)).toInt.toNat (h11.1 58 8)).1 63 57) + (Int32.ofInt 1))) (fun rv h14 => zri rv (fun v14 => Q (some (.int v14)) h14)))) ∧ (¬ (¬ v11.toInt = 0) → Q (some (.int (Int32.ofInt 0))) h11)))))))))) ∧ (¬ (¬ v6.toInt = 0) → Q (some (.int (Int32.ofInt 0))) h6)))))) ∧ (¬ (¬ (h2.1 63 57).toInt = (4 : Int)) → zqm 138 [.ref 58, .int (Int32.ofInt 3)] h2 (fun rv h15 => zri rv (fun v15 => Q (some (.int v15)) h15))))) ∧ (¬ (0 ≤ v2.toInt) → zqm 138 [.ref 58, .int (Int32.ofInt 1)] h2 (fun rv h16 => zri rv (fun v16 => Q (some (.int v16)) h16))))))))) : zqm 144 [.ref 58] h Q := by
  refine zqm_of zp_144 (fun n => ?_)
  show zQ n 144 0 [some (.ref 58), none, none] [] h Q
  refine zQ_seq 1 (pc' := 1) (L' := [some (.ref 58), none, none]) (S' := [.ref 58]) (h' := h) zp_144 rfl ?_
  refine zQ_cvI (M' := 136) (as := [.ref 58]) (S' := []) zp_144 rfl rfl zp_136 (Or.inl rfl) rfl rfl (zqm_imp H (fun rv h1 r1 => zri_imp r1 (fun v1 r1' => ?_)))
  refine zQ_csI (M' := 143) (as := [.int v1]) (S' := []) zp_144 rfl rfl rfl zp_143 (Or.inl rfl) rfl rfl (zqm_imp r1' (fun rv h2 r2 => zri_imp r2 (fun v2 r2' => ?_)))
  refine zQ_seq 2 (pc' := 9) (L' := [some (.ref 58), some (.int v2), none]) (S' := [.int v2]) (h' := h2) zp_144 rfl ?_
  refine zQ_if zp_144 rfl (t := 18) rfl (i := v2.toInt) rfl (fun c3 => ?_) (fun c3 => ?_)
  · refine zQ_seq 3 (pc' := 24) (L' := [some (.ref 58), some (.int v2), none]) (S' := [.int (Int32.ofInt 57), .ref 63]) (h' := h2) zp_144 rfl ?_
    refine zQ_ialk 57 (N := 62) (f := h2.1 63) zp_144 rfl rfl kc_57 ?_
    refine zQ_seq 1 (pc' := 26) (L' := [some (.ref 58), some (.int v2), none]) (S' := [.int (Int32.ofInt 4), .int (h2.1 63 57)]) (h' := h2) zp_144 rfl ?_
    refine zQ_ic zp_144 rfl (t := 35) rfl (i := (h2.1 63 57).toInt) (j := (4 : Int)) rfl kc_4 (fun c4 => ?_) (fun c4 => ?_)
    · refine zQ_seq 5 (pc' := 44) (L' := [some (.ref 58), some (.int v2), none]) (S' := [.int (Int32.ofInt 57), .ref 63, .int (Int32.ofInt 3), .int (Int32.ofInt 45)]) (h' := h2) zp_144 rfl ?_
      refine zQ_ialk 57 (N := 62) (f := h2.1 63) zp_144 rfl rfl kc_57 ?_
      refine zQ_seq 7 (pc' := 54) (L' := [some (.ref 58), some (.int v2), some (.int ((Int32.ofInt 45) + ((Int32.ofInt 3) * (h2.1 63 57))))]) (S' := [.int v2, .int ((Int32.ofInt 45) + ((Int32.ofInt 3) * (h2.1 63 57))), .ref 63]) (h' := h2) zp_144 rfl ?_
      refine zQ_ias (N := 62) zp_144 rfl rfl rfl (fun b5 b5' => ?_)
      refine zQ_seq 9 (pc' := 68) (L' := [some (.ref 58), some (.int v2), some (.int ((Int32.ofInt 45) + ((Int32.ofInt 3) * (h2.1 63 57))))]) (S' := [.int (Int32.ofInt 2), .int (Int32.ofInt 0), .ref 58]) (h' := (zSet (zSet h2 63 ((Int32.ofInt 45) + ((Int32.ofInt 3) * (h2.1 63 57))).toInt.toNat v2) 58 7 ((h2.1 58 7) + (Int32.ofInt 1)))) zp_144 rfl ?_
      refine zQ_cvI (M' := 140) (as := [.ref 58, .int (Int32.ofInt 0), .int (Int32.ofInt 2)]) (S' := []) zp_144 rfl rfl zp_140 (Or.inr rfl) rfl rfl (zqm_imp (((r2'.1 c3).1 c4) b5 b5') (fun rv h6 r6 => zri_imp r6 (fun v6 r6' => ?_)))
      refine zQ_if zp_144 rfl (t := 76) rfl (i := v6.toInt) rfl (fun c7 => ?_) (fun c7 => ?_)
      · refine zQ_seq 7 (pc' := 87) (L' := [some (.ref 58), some (.int v2), some (.int ((Int32.ofInt 45) + ((Int32.ofInt 3) * (h2.1 63 57))))]) (S' := [.int (h6.1 58 8), .int (((Int32.ofInt 45) + ((Int32.ofInt 3) * (h2.1 63 57))) + (Int32.ofInt 1)), .ref 63]) (h' := h6) zp_144 rfl ?_
        refine zQ_ias (N := 62) zp_144 rfl rfl rfl (fun b8 b8' => ?_)
        refine zQ_seq 2 (pc' := 91) (L' := [some (.ref 58), some (.int v2), some (.int ((Int32.ofInt 45) + ((Int32.ofInt 3) * (h2.1 63 57))))]) (S' := [.int (Int32.ofInt 44), .ref 58]) (h' := (zSet h6 63 (((Int32.ofInt 45) + ((Int32.ofInt 3) * (h2.1 63 57))) + (Int32.ofInt 1)).toInt.toNat (h6.1 58 8))) zp_144 rfl ?_
        refine zQ_cvI (M' := 139) (as := [.ref 58, .int (Int32.ofInt 44)]) (S' := []) zp_144 rfl rfl zp_139 (Or.inr rfl) rfl rfl (zqm_imp ((r6'.1 c7) b8 b8') (fun rv h9 r9 => zri_imp r9 (fun v9 r9' => ?_)))
        refine zQ_if zp_144 rfl (t := 106) rfl (i := v9.toInt) rfl (fun c10 => ?_) (fun c10 => ?_)
        · refine zQ_seq 1 (pc' := 107) (L' := [some (.ref 58), some (.int v2), some (.int ((Int32.ofInt 45) + ((Int32.ofInt 3) * (h2.1 63 57))))]) (S' := [.int (Int32.ofInt 0)]) (h' := h9) zp_144 rfl ?_
          exact zQ_retI zp_144 rfl (r9'.1 c10)
        · refine zQ_seq 3 (pc' := 100) (L' := [some (.ref 58), some (.int v2), some (.int ((Int32.ofInt 45) + ((Int32.ofInt 3) * (h2.1 63 57))))]) (S' := [.int (Int32.ofInt 5), .int (Int32.ofInt 1), .ref 58]) (h' := h9) zp_144 rfl ?_
          refine zQ_cvI (M' := 140) (as := [.ref 58, .int (Int32.ofInt 1), .int (Int32.ofInt 5)]) (S' := []) zp_144 rfl rfl zp_140 (Or.inr rfl) rfl rfl (zqm_imp (r9'.2 c10) (fun rv h11 r11 => zri_imp r11 (fun v11 r11' => ?_)))
          refine zQ_if zp_144 rfl (t := 108) rfl (i := v11.toInt) rfl (fun c12 => ?_) (fun c12 => ?_)
          · refine zQ_seq 7 (pc' := 119) (L' := [some (.ref 58), some (.int v2), some (.int ((Int32.ofInt 45) + ((Int32.ofInt 3) * (h2.1 63 57))))]) (S' := [.int (h11.1 58 8), .int (((Int32.ofInt 45) + ((Int32.ofInt 3) * (h2.1 63 57))) + (Int32.ofInt 2)), .ref 63]) (h' := h11) zp_144 rfl ?_
            refine zQ_ias (N := 62) zp_144 rfl rfl rfl (fun b13 b13' => ?_)
            refine zQ_seq 4 (pc' := 127) (L' := [some (.ref 58), some (.int v2), some (.int ((Int32.ofInt 45) + ((Int32.ofInt 3) * (h2.1 63 57))))]) (S' := [.int (Int32.ofInt 57), .ref 63, .int (Int32.ofInt 57), .ref 63]) (h' := (zSet h11 63 (((Int32.ofInt 45) + ((Int32.ofInt 3) * (h2.1 63 57))) + (Int32.ofInt 2)).toInt.toNat (h11.1 58 8))) zp_144 rfl ?_
            refine zQ_ialk 57 (N := 62) (f := (zSet h11 63 (((Int32.ofInt 45) + ((Int32.ofInt 3) * (h2.1 63 57))) + (Int32.ofInt 2)).toInt.toNat (h11.1 58 8)).1 63) zp_144 rfl rfl kc_57 ?_
            refine zQ_seq 2 (pc' := 130) (L' := [some (.ref 58), some (.int v2), some (.int ((Int32.ofInt 45) + ((Int32.ofInt 3) * (h2.1 63 57))))]) (S' := [.int (((zSet h11 63 (((Int32.ofInt 45) + ((Int32.ofInt 3) * (h2.1 63 57))) + (Int32.ofInt 2)).toInt.toNat (h11.1 58 8)).1 63 57) + (Int32.ofInt 1)), .int (Int32.ofInt 57), .ref 63]) (h' := (zSet h11 63 (((Int32.ofInt 45) + ((Int32.ofInt 3) * (h2.1 63 57))) + (Int32.ofInt 2)).toInt.toNat (h11.1 58 8))) zp_144 rfl ?_
            refine zQ_iask 57 (N := 62) zp_144 rfl rfl kc_57 ?_
            refine zQ_seq 2 (pc' := 134) (L' := [some (.ref 58), some (.int v2), some (.int ((Int32.ofInt 45) + ((Int32.ofInt 3) * (h2.1 63 57))))]) (S' := [.int (Int32.ofInt 59), .ref 58]) (h' := (zSet (zSet h11 63 (((Int32.ofInt 45) + ((Int32.ofInt 3) * (h2.1 63 57))) + (Int32.ofInt 2)).toInt.toNat (h11.1 58 8)) 63 57 (((zSet h11 63 (((Int32.ofInt 45) + ((Int32.ofInt 3) * (h2.1 63 57))) + (Int32.ofInt 2)).toInt.toNat (h11.1 58 8)).1 63 57) + (Int32.ofInt 1)))) zp_144 rfl ?_
            refine zQ_cvI (M' := 139) (as := [.ref 58, .int (Int32.ofInt 59)]) (S' := []) zp_144 rfl rfl zp_139 (Or.inr rfl) rfl rfl (zqm_imp ((r11'.1 c12) b13 b13') (fun rv h14 r14 => zri_imp r14 (fun v14 r14' => ?_)))
            exact zQ_retI zp_144 rfl r14'
          · refine zQ_seq 1 (pc' := 107) (L' := [some (.ref 58), some (.int v2), some (.int ((Int32.ofInt 45) + ((Int32.ofInt 3) * (h2.1 63 57))))]) (S' := [.int (Int32.ofInt 0)]) (h' := h11) zp_144 rfl ?_
            exact zQ_retI zp_144 rfl (r11'.2 c12)
      · refine zQ_seq 1 (pc' := 75) (L' := [some (.ref 58), some (.int v2), some (.int ((Int32.ofInt 45) + ((Int32.ofInt 3) * (h2.1 63 57))))]) (S' := [.int (Int32.ofInt 0)]) (h' := h6) zp_144 rfl ?_
        exact zQ_retI zp_144 rfl (r6'.2 c7)
    · refine zQ_seq 2 (pc' := 31) (L' := [some (.ref 58), some (.int v2), none]) (S' := [.int (Int32.ofInt 3), .ref 58]) (h' := h2) zp_144 rfl ?_
      refine zQ_cvI (M' := 138) (as := [.ref 58, .int (Int32.ofInt 3)]) (S' := []) zp_144 rfl rfl zp_138 (Or.inr rfl) rfl rfl (zqm_imp ((r2'.1 c3).2 c4) (fun rv h15 r15 => zri_imp r15 (fun v15 r15' => ?_)))
      exact zQ_retI zp_144 rfl r15'
  · refine zQ_seq 2 (pc' := 14) (L' := [some (.ref 58), some (.int v2), none]) (S' := [.int (Int32.ofInt 1), .ref 58]) (h' := h2) zp_144 rfl ?_
    refine zQ_cvI (M' := 138) (as := [.ref 58, .int (Int32.ofInt 1)]) (S' := []) zp_144 rfl rfl zp_138 (Or.inr rfl) rfl rfl (zqm_imp (r2'.2 c3) (fun rv h16 r16 => zri_imp r16 (fun v16 r16' => ?_)))
    exact zQ_retI zp_144 rfl r16'
theorem s_145 {h : zH} {Q : Option Value → zH → Prop} (H : (∀ n, zqm 141 [.ref 58] h (fun rv h1 => zri rv (fun v1 => ((v1.toInt = 0 → Q (some (.int (Int32.ofInt 0))) h1) ∧ (¬ (v1.toInt = 0) → zqm 142 [.ref 58, .int (Int32.ofInt 109), .int (Int32.ofInt 97), .int (Int32.ofInt 4), .int (Int32.ofInt 0)] h1 (fun rv h3 => zri rv (fun v3 => ((v3.toInt = 0 → Q (some (.int (Int32.ofInt 0))) h3) ∧ (¬ (v3.toInt = 0) → zqm 142 [.ref 58, .int (Int32.ofInt 110), .int (Int32.ofInt 97), .int (Int32.ofInt 4), .int (Int32.ofInt 15)] h3 (fun rv h5 => zri rv (fun v5 => ((v5.toInt = 0 → Q (some (.int (Int32.ofInt 0))) h5) ∧ (¬ (v5.toInt = 0) → zqm 142 [.ref 58, .int (Int32.ofInt 99), .int (Int32.ofInt 101), .int (Int32.ofInt 3), .int (Int32.ofInt 30)] h5 (fun rv h7 => zri rv (fun v7 => ((¬ v7.toInt = 0 → zQ n 145 50 [some (.ref 58)] [] h7 Q) ∧ (¬ (¬ v7.toInt = 0) → Q (some (.int (Int32.ofInt 0))) h7)))))))))))))))))) : zqm 145 [.ref 58] h Q := by
  refine zqm_of zp_145 (fun n => ?_)
  have H := H n
  show zQ n 145 0 [some (.ref 58)] [] h Q
  refine zQ_seq 1 (pc' := 1) (L' := [some (.ref 58)]) (S' := [.ref 58]) (h' := h) zp_145 rfl ?_
  refine zQ_cvI (M' := 141) (as := [.ref 58]) (S' := []) zp_145 rfl rfl zp_141 (Or.inr rfl) rfl rfl (zqm_imp H (fun rv h1 r1 => zri_imp r1 (fun v1 r1' => ?_)))
  refine zQ_if zp_145 rfl (t := 48) rfl (i := v1.toInt) rfl (fun c2 => ?_) (fun c2 => ?_)
  · refine zQ_seq 1 (pc' := 49) (L' := [some (.ref 58)]) (S' := [.int (Int32.ofInt 0)]) (h' := h1) zp_145 rfl ?_
    exact zQ_retI zp_145 rfl (r1'.1 c2)
  · refine zQ_seq 5 (pc' := 14) (L' := [some (.ref 58)]) (S' := [.int (Int32.ofInt 0), .int (Int32.ofInt 4), .int (Int32.ofInt 97), .int (Int32.ofInt 109), .ref 58]) (h' := h1) zp_145 rfl ?_
    refine zQ_cvI (M' := 142) (as := [.ref 58, .int (Int32.ofInt 109), .int (Int32.ofInt 97), .int (Int32.ofInt 4), .int (Int32.ofInt 0)]) (S' := []) zp_145 rfl rfl zp_142 (Or.inr rfl) rfl rfl (zqm_imp (r1'.2 c2) (fun rv h3 r3 => zri_imp r3 (fun v3 r3' => ?_)))
    refine zQ_if zp_145 rfl (t := 48) rfl (i := v3.toInt) rfl (fun c4 => ?_) (fun c4 => ?_)
    · refine zQ_seq 1 (pc' := 49) (L' := [some (.ref 58)]) (S' := [.int (Int32.ofInt 0)]) (h' := h3) zp_145 rfl ?_
      exact zQ_retI zp_145 rfl (r3'.1 c4)
    · refine zQ_seq 5 (pc' := 28) (L' := [some (.ref 58)]) (S' := [.int (Int32.ofInt 15), .int (Int32.ofInt 4), .int (Int32.ofInt 97), .int (Int32.ofInt 110), .ref 58]) (h' := h3) zp_145 rfl ?_
      refine zQ_cvI (M' := 142) (as := [.ref 58, .int (Int32.ofInt 110), .int (Int32.ofInt 97), .int (Int32.ofInt 4), .int (Int32.ofInt 15)]) (S' := []) zp_145 rfl rfl zp_142 (Or.inr rfl) rfl rfl (zqm_imp (r3'.2 c4) (fun rv h5 r5 => zri_imp r5 (fun v5 r5' => ?_)))
      refine zQ_if zp_145 rfl (t := 48) rfl (i := v5.toInt) rfl (fun c6 => ?_) (fun c6 => ?_)
      · refine zQ_seq 1 (pc' := 49) (L' := [some (.ref 58)]) (S' := [.int (Int32.ofInt 0)]) (h' := h5) zp_145 rfl ?_
        exact zQ_retI zp_145 rfl (r5'.1 c6)
      · refine zQ_seq 5 (pc' := 42) (L' := [some (.ref 58)]) (S' := [.int (Int32.ofInt 30), .int (Int32.ofInt 3), .int (Int32.ofInt 101), .int (Int32.ofInt 99), .ref 58]) (h' := h5) zp_145 rfl ?_
        refine zQ_cvI (M' := 142) (as := [.ref 58, .int (Int32.ofInt 99), .int (Int32.ofInt 101), .int (Int32.ofInt 3), .int (Int32.ofInt 30)]) (S' := []) zp_145 rfl rfl zp_142 (Or.inr rfl) rfl rfl (zqm_imp (r5'.2 c6) (fun rv h7 r7 => zri_imp r7 (fun v7 r7' => ?_)))
        refine zQ_if zp_145 rfl (t := 50) rfl (i := v7.toInt) rfl (fun c8 => ?_) (fun c8 => ?_)
        · exact (r7'.1 c8)
        · refine zQ_seq 1 (pc' := 49) (L' := [some (.ref 58)]) (S' := [.int (Int32.ofInt 0)]) (h' := h7) zp_145 rfl ?_
          exact zQ_retI zp_145 rfl (r7'.2 c8)
theorem s_145_50 {n : Nat} {h : zH} {Q : Option Value → zH → Prop} (H : (((h.1 58 5).toInt ≤ (h.1 58 7).toInt → Q (some (.int (Int32.ofInt 1))) h) ∧ (¬ ((h.1 58 5).toInt ≤ (h.1 58 7).toInt) → zqm 144 [.ref 58] h (fun rv h2 => zri rv (fun v2 => ((¬ v2.toInt = 0 → zQ n 145 50 [some (.ref 58)] [] h2 Q) ∧ (¬ (¬ v2.toInt = 0) → Q (some (.int (Int32.ofInt 0))) h2))))))) : zQ (n + 1) 145 50 [some (.ref 58)] [] h Q := by
  refine zQ_seqL 3 (pc' := 58) (L' := [some (.ref 58)]) (S' := [.int (h.1 58 5), .int (h.1 58 7)]) (h' := h) zp_145 rfl ?_
  refine zQ_ic zp_145 rfl (t := 70) rfl (i := (h.1 58 7).toInt) (j := (h.1 58 5).toInt) rfl rfl (fun c1 => ?_) (fun c1 => ?_)
  · refine zQ_seq 1 (pc' := 71) (L' := [some (.ref 58)]) (S' := [.int (Int32.ofInt 1)]) (h' := h) zp_145 rfl ?_
    exact zQ_retI zp_145 rfl (H.1 c1)
  · refine zQ_seq 1 (pc' := 62) (L' := [some (.ref 58)]) (S' := [.ref 58]) (h' := h) zp_145 rfl ?_
    refine zQ_cvI (M' := 144) (as := [.ref 58]) (S' := []) zp_145 rfl rfl zp_144 (Or.inr rfl) rfl rfl (zqm_imp (H.2 c1) (fun rv h2 r2 => zri_imp r2 (fun v2 r2' => ?_)))
    refine zQ_if zp_145 rfl (t := 50) rfl (i := v2.toInt) rfl (fun c3 => ?_) (fun c3 => ?_)
    · exact (r2'.1 c3)
    · refine zQ_seq 1 (pc' := 69) (L' := [some (.ref 58)]) (S' := [.int (Int32.ofInt 0)]) (h' := h2) zp_145 rfl ?_
      exact zQ_retI zp_145 rfl (r2'.2 c3)
theorem s_146 {h : zH} {Q : Option Value → zH → Prop} (H : (∀ n, zQ n 146 7 [some (.ref 58), some (.int (Int32.ofInt 0)), none] [] (zSet h 58 7 (Int32.ofInt 0)) Q)) : zqm 146 [.ref 58] h Q := by
  refine zqm_of zp_146 (fun n => ?_)
  have H := H n
  show zQ n 146 0 [some (.ref 58), none, none] [] h Q
  refine zQ_seq 5 (pc' := 7) (L' := [some (.ref 58), some (.int (Int32.ofInt 0)), none]) (S' := []) (h' := (zSet h 58 7 (Int32.ofInt 0))) zp_146 rfl ?_
  exact H
theorem s_146_7 {n : Nat} {h : zH} {Q : Option Value → zH → Prop} (x1 : Int32) (H : (((62 : Int) ≤ x1.toInt → zqm 145 [.ref 58] h (fun rv h2 => zri rv (fun v2 => ((¬ v2.toInt = 0 → zQ n 146 58 [some (.ref 58), some (.int v2), some (.int (Int32.ofInt 0))] [] (zSet (zSet h2 58 5 (Int32.ofInt 0)) 63 61 (Int32.ofInt 1)) Q) ∧ (¬ (¬ v2.toInt = 0) → Q (some (.int ((-1000100 : Int32) - (h2.1 58 7)))) (zSet h2 58 5 (Int32.ofInt 0))))))) ∧ (¬ ((62 : Int) ≤ x1.toInt) → (0 ≤ x1.toInt → x1.toInt < 62 → zQ n 146 7 [some (.ref 58), some (.int (x1 + Int32.ofInt 1)), none] [] (zSet h 63 x1.toInt.toNat (Int32.ofInt 0)) Q)))) : zQ (n + 1) 146 7 [some (.ref 58), some (.int x1), none] [] h Q := by
  refine zQ_seqL 1 (pc' := 10) (L' := [some (.ref 58), some (.int x1), none]) (S' := [.int (Int32.ofInt 62), .int x1]) (h' := h) zp_146 rfl ?_
  refine zQ_ic zp_146 rfl (t := 26) rfl (i := x1.toInt) (j := (62 : Int)) rfl kc_62 (fun c1 => ?_) (fun c1 => ?_)
  · refine zQ_seq 1 (pc' := 27) (L' := [some (.ref 58), some (.int x1), none]) (S' := [.ref 58]) (h' := h) zp_146 rfl ?_
    refine zQ_cvI (M' := 145) (as := [.ref 58]) (S' := []) zp_146 rfl rfl zp_145 (Or.inr rfl) rfl rfl (zqm_imp (H.1 c1) (fun rv h2 r2 => zri_imp r2 (fun v2 r2' => ?_)))
    refine zQ_seq 5 (pc' := 37) (L' := [some (.ref 58), some (.int v2), none]) (S' := [.int v2]) (h' := (zSet h2 58 5 (Int32.ofInt 0))) zp_146 rfl ?_
    refine zQ_if zp_146 rfl (t := 48) rfl (i := v2.toInt) rfl (fun c3 => ?_) (fun c3 => ?_)
    · refine zQ_seq 4 (pc' := 55) (L' := [some (.ref 58), some (.int v2), none]) (S' := [.int (Int32.ofInt 1), .int (Int32.ofInt 61), .ref 63]) (h' := (zSet h2 58 5 (Int32.ofInt 0))) zp_146 rfl ?_
      refine zQ_iask 61 (N := 62) zp_146 rfl rfl kc_61 ?_
      refine zQ_seq 2 (pc' := 58) (L' := [some (.ref 58), some (.int v2), some (.int (Int32.ofInt 0))]) (S' := []) (h' := (zSet (zSet h2 58 5 (Int32.ofInt 0)) 63 61 (Int32.ofInt 1))) zp_146 rfl ?_
      exact (r2'.1 c3)
    · refine zQ_seq 4 (pc' := 47) (L' := [some (.ref 58), some (.int v2), none]) (S' := [.int ((-1000100 : Int32) - (h2.1 58 7))]) (h' := (zSet h2 58 5 (Int32.ofInt 0))) zp_146 rfl ?_
      exact zQ_retI zp_146 rfl (r2'.2 c3)
  · refine zQ_seq 4 (pc' := 19) (L' := [some (.ref 58), some (.int x1), none]) (S' := [.int (Int32.ofInt 0), .int x1, .ref 63]) (h' := h) zp_146 rfl ?_
    refine zQ_ias (N := 62) zp_146 rfl rfl rfl (fun b4 b4' => ?_)
    refine zQ_seq 1 (pc' := 23) (L' := [some (.ref 58), some (.int (x1 + Int32.ofInt 1)), none]) (S' := []) (h' := (zSet h 63 x1.toInt.toNat (Int32.ofInt 0))) zp_146 rfl ?_
    refine zQ_goto zp_146 rfl (t := 7) rfl ?_
    exact ((H.2 c1) b4 b4')
theorem s_146_58 {n : Nat} {h : zH} {Q : Option Value → zH → Prop} (x1 : Int32) (x2 : Int32) (H : (((62 : Int) ≤ x2.toInt → zqm 155 [.ref 58] (zSet h 58 12 (Int32.ofInt 0)) (fun _ h2 => Q (some (.int (h2.1 64 57))) h2)) ∧ (¬ ((62 : Int) ≤ x2.toInt) → (0 ≤ x2.toInt → x2.toInt < 62 → (0 ≤ x2.toInt → x2.toInt < 62 → zQ n 146 58 [some (.ref 58), some (.int x1), some (.int (x2 + Int32.ofInt 1))] [] (zSet h 64 x2.toInt.toNat (h.1 63 x2.toInt.toNat)) Q))))) : zQ (n + 1) 146 58 [some (.ref 58), some (.int x1), some (.int x2)] [] h Q := by
  refine zQ_seqL 1 (pc' := 61) (L' := [some (.ref 58), some (.int x1), some (.int x2)]) (S' := [.int (Int32.ofInt 62), .int x2]) (h' := h) zp_146 rfl ?_
  refine zQ_ic zp_146 rfl (t := 82) rfl (i := x2.toInt) (j := (62 : Int)) rfl kc_62 (fun c1 => ?_) (fun c1 => ?_)
  · refine zQ_seq 4 (pc' := 88) (L' := [some (.ref 58), some (.int x1), some (.int x2)]) (S' := [.ref 58]) (h' := (zSet h 58 12 (Int32.ofInt 0))) zp_146 rfl ?_
    refine zQ_cvV (M' := 155) (as := [.ref 58]) (S' := []) zp_146 rfl rfl zp_155 rfl rfl rfl (zqm_imp (H.1 c1) (fun rv h2 r2 => ?_))
    refine zQ_seq 3 (pc' := 97) (L' := [some (.ref 58), some (.int x1), some (.int x2)]) (S' := [.int (Int32.ofInt 57), .ref 64]) (h' := h2) zp_146 rfl ?_
    refine zQ_ialk 57 (N := 62) (f := h2.1 64) zp_146 rfl rfl kc_57 ?_
    exact zQ_retI zp_146 rfl r2
  · refine zQ_seq 6 (pc' := 74) (L' := [some (.ref 58), some (.int x1), some (.int x2)]) (S' := [.int x2, .ref 63, .int x2, .ref 64]) (h' := h) zp_146 rfl ?_
    refine zQ_ial (N := 62) (f := h.1 63) zp_146 rfl rfl rfl (fun b3 b3' => ?_)
    refine zQ_ias (N := 62) zp_146 rfl rfl rfl (fun b4 b4' => ?_)
    refine zQ_seq 1 (pc' := 79) (L' := [some (.ref 58), some (.int x1), some (.int (x2 + Int32.ofInt 1))]) (S' := []) (h' := (zSet h 64 x2.toInt.toNat (h.1 63 x2.toInt.toNat))) zp_146 rfl ?_
    refine zQ_goto zp_146 rfl (t := 58) rfl ?_
    exact (((H.2 c1) b3 b3') b4 b4')
theorem s_147 {h : zH} {Q : Option Value → zH → Prop} (H : Q (some (.int (h.1 58 6))) h) : zqm 147 [.ref 58] h Q := by
  refine zqm_of zp_147 (fun n => ?_)
  show zQ n 147 0 [some (.ref 58)] [] h Q
  refine zQ_seq 2 (pc' := 4) (L' := [some (.ref 58)]) (S' := [.int (h.1 58 6)]) (h' := h) zp_147 rfl ?_
  exact zQ_retI zp_147 rfl H
theorem s_148 {h : zH} {Q : Option Value → zH → Prop} (H : (∀ n, ((¬ (h.1 58 12).toInt = (24 : Int) → zQ n 148 51 [some (.ref 58), some (.int (Int32.ofInt 0))] [] h Q) ∧ (¬ (¬ (h.1 58 12).toInt = (24 : Int)) → zQ n 148 11 [some (.ref 58), some (.int (Int32.ofInt 0))] [] h Q)))) : zqm 148 [.ref 58] h Q := by
  refine zqm_of zp_148 (fun n => ?_)
  have H := H n
  show zQ n 148 0 [some (.ref 58), none] [] h Q
  refine zQ_seq 3 (pc' := 6) (L' := [some (.ref 58), none]) (S' := [.int (Int32.ofInt 24), .int (h.1 58 12)]) (h' := h) zp_148 rfl ?_
  refine zQ_ic zp_148 rfl (t := 49) rfl (i := (h.1 58 12).toInt) (j := (24 : Int)) rfl kc_24 (fun c1 => ?_) (fun c1 => ?_)
  · refine zQ_seq 2 (pc' := 51) (L' := [some (.ref 58), some (.int (Int32.ofInt 0))]) (S' := []) (h' := h) zp_148 rfl ?_
    exact (H.1 c1)
  · refine zQ_seq 2 (pc' := 11) (L' := [some (.ref 58), some (.int (Int32.ofInt 0))]) (S' := []) (h' := h) zp_148 rfl ?_
    exact (H.2 c1)
theorem s_148_11 {n : Nat} {h : zH} {Q : Option Value → zH → Prop} (x1 : Int32) (H : (((1426 : Int) ≤ x1.toInt → zQ n 148 51 [some (.ref 58), some (.int (Int32.ofInt 0))] [] (zSet h 58 12 ((h.1 58 12) - (Int32.ofInt 1))) Q) ∧ (¬ ((1426 : Int) ≤ x1.toInt) → (0 ≤ ((Int32.ofInt 62) + x1).toInt → ((Int32.ofInt 62) + x1).toInt < 1488 → (0 ≤ x1.toInt → x1.toInt < 1488 → zQ n 148 11 [some (.ref 58), some (.int (x1 + Int32.ofInt 1))] [] (zSet h 65 x1.toInt.toNat (h.1 65 ((Int32.ofInt 62) + x1).toInt.toNat)) Q))))) : zQ (n + 1) 148 11 [some (.ref 58), some (.int x1)] [] h Q := by
  refine zQ_seqL 1 (pc' := 15) (L' := [some (.ref 58), some (.int x1)]) (S' := [.int (Int32.ofInt 1426), .int x1]) (h' := h) zp_148 rfl ?_
  refine zQ_ic zp_148 rfl (t := 39) rfl (i := x1.toInt) (j := (1426 : Int)) rfl kc_1426 (fun c1 => ?_) (fun c1 => ?_)
  · refine zQ_seq 8 (pc' := 51) (L' := [some (.ref 58), some (.int (Int32.ofInt 0))]) (S' := []) (h' := (zSet h 58 12 ((h.1 58 12) - (Int32.ofInt 1)))) zp_148 rfl ?_
    exact (H.1 c1)
  · refine zQ_seq 8 (pc' := 31) (L' := [some (.ref 58), some (.int x1)]) (S' := [.int ((Int32.ofInt 62) + x1), .ref 65, .int x1, .ref 65]) (h' := h) zp_148 rfl ?_
    refine zQ_ial (N := 1488) (f := h.1 65) zp_148 rfl rfl rfl (fun b2 b2' => ?_)
    refine zQ_ias (N := 1488) zp_148 rfl rfl rfl (fun b3 b3' => ?_)
    refine zQ_seq 1 (pc' := 36) (L' := [some (.ref 58), some (.int (x1 + Int32.ofInt 1))]) (S' := []) (h' := (zSet h 65 x1.toInt.toNat (h.1 65 ((Int32.ofInt 62) + x1).toInt.toNat))) zp_148 rfl ?_
    refine zQ_goto zp_148 rfl (t := 11) rfl ?_
    exact (((H.2 c1) b2 b2') b3 b3')
theorem s_148_51 {n : Nat} {h : zH} {Q : Option Value → zH → Prop} (x1 : Int32) (H : (((62 : Int) ≤ x1.toInt → Q none (zSet h 58 12 ((h.1 58 12) + (Int32.ofInt 1)))) ∧ (¬ ((62 : Int) ≤ x1.toInt) → (0 ≤ x1.toInt → x1.toInt < 62 → (0 ≤ (((Int32.ofInt 62) * (h.1 58 12)) + x1).toInt → (((Int32.ofInt 62) * (h.1 58 12)) + x1).toInt < 1488 → zQ n 148 51 [some (.ref 58), some (.int (x1 + Int32.ofInt 1))] [] (zSet h 65 (((Int32.ofInt 62) * (h.1 58 12)) + x1).toInt.toNat (h.1 64 x1.toInt.toNat)) Q))))) : zQ (n + 1) 148 51 [some (.ref 58), some (.int x1)] [] h Q := by
  refine zQ_seqL 1 (pc' := 54) (L' := [some (.ref 58), some (.int x1)]) (S' := [.int (Int32.ofInt 62), .int x1]) (h' := h) zp_148 rfl ?_
  refine zQ_ic zp_148 rfl (t := 83) rfl (i := x1.toInt) (j := (62 : Int)) rfl kc_62 (fun c1 => ?_) (fun c1 => ?_)
  · refine zQ_seq 6 (pc' := 93) (L' := [some (.ref 58), some (.int x1)]) (S' := []) (h' := (zSet h 58 12 ((h.1 58 12) + (Int32.ofInt 1)))) zp_148 rfl ?_
    exact zQ_retV zp_148 rfl (H.1 c1)
  · refine zQ_seq 11 (pc' := 75) (L' := [some (.ref 58), some (.int x1)]) (S' := [.int x1, .ref 64, .int (((Int32.ofInt 62) * (h.1 58 12)) + x1), .ref 65]) (h' := h) zp_148 rfl ?_
    refine zQ_ial (N := 62) (f := h.1 64) zp_148 rfl rfl rfl (fun b2 b2' => ?_)
    refine zQ_ias (N := 1488) zp_148 rfl rfl rfl (fun b3 b3' => ?_)
    refine zQ_seq 1 (pc' := 80) (L' := [some (.ref 58), some (.int (x1 + Int32.ofInt 1))]) (S' := []) (h' := (zSet h 65 (((Int32.ofInt 62) * (h.1 58 12)) + x1).toInt.toNat (h.1 64 x1.toInt.toNat))) zp_148 rfl ?_
    refine zQ_goto zp_148 rfl (t := 51) rfl ?_
    exact (((H.2 c1) b2 b2') b3 b3')
theorem s_149 {h : zH} {Q : Option Value → zH → Prop} (H : (∀ n, ((¬ (h.1 58 12).toInt = 0 → zQ n 149 22 [some (.ref 58), some (.int (Int32.ofInt 0))] [] (zSet h 58 12 ((h.1 58 12) - (Int32.ofInt 1))) Q) ∧ (¬ (¬ (h.1 58 12).toInt = 0) → Q (some (.int (-1000002 : Int32))) h)))) : zqm 149 [.ref 58] h Q := by
  refine zqm_of zp_149 (fun n => ?_)
  have H := H n
  show zQ n 149 0 [some (.ref 58), none] [] h Q
  refine zQ_seq 2 (pc' := 4) (L' := [some (.ref 58), none]) (S' := [.int (h.1 58 12)]) (h' := h) zp_149 rfl ?_
  refine zQ_if zp_149 rfl (t := 10) rfl (i := (h.1 58 12).toInt) rfl (fun c1 => ?_) (fun c1 => ?_)
  · refine zQ_seq 8 (pc' := 22) (L' := [some (.ref 58), some (.int (Int32.ofInt 0))]) (S' := []) (h' := (zSet h 58 12 ((h.1 58 12) - (Int32.ofInt 1)))) zp_149 rfl ?_
    exact (H.1 c1)
  · refine zQ_seq 1 (pc' := 9) (L' := [some (.ref 58), none]) (S' := [.int (-1000002 : Int32)]) (h' := h) zp_149 rfl ?_
    exact zQ_retI zp_149 rfl (H.2 c1)
theorem s_149_22 {n : Nat} {h : zH} {Q : Option Value → zH → Prop} (x1 : Int32) (H : (((62 : Int) ≤ x1.toInt → Q (some (.int (h.1 58 12))) h) ∧ (¬ ((62 : Int) ≤ x1.toInt) → (0 ≤ (((Int32.ofInt 62) * (h.1 58 12)) + x1).toInt → (((Int32.ofInt 62) * (h.1 58 12)) + x1).toInt < 1488 → (0 ≤ x1.toInt → x1.toInt < 62 → zQ n 149 22 [some (.ref 58), some (.int (x1 + Int32.ofInt 1))] [] (zSet h 64 x1.toInt.toNat (h.1 65 (((Int32.ofInt 62) * (h.1 58 12)) + x1).toInt.toNat)) Q))))) : zQ (n + 1) 149 22 [some (.ref 58), some (.int x1)] [] h Q := by
  refine zQ_seqL 1 (pc' := 25) (L' := [some (.ref 58), some (.int x1)]) (S' := [.int (Int32.ofInt 62), .int x1]) (h' := h) zp_149 rfl ?_
  refine zQ_ic zp_149 rfl (t := 54) rfl (i := x1.toInt) (j := (62 : Int)) rfl kc_62 (fun c1 => ?_) (fun c1 => ?_)
  · refine zQ_seq 2 (pc' := 58) (L' := [some (.ref 58), some (.int x1)]) (S' := [.int (h.1 58 12)]) (h' := h) zp_149 rfl ?_
    exact zQ_retI zp_149 rfl (H.1 c1)
  · refine zQ_seq 11 (pc' := 46) (L' := [some (.ref 58), some (.int x1)]) (S' := [.int (((Int32.ofInt 62) * (h.1 58 12)) + x1), .ref 65, .int x1, .ref 64]) (h' := h) zp_149 rfl ?_
    refine zQ_ial (N := 1488) (f := h.1 65) zp_149 rfl rfl rfl (fun b2 b2' => ?_)
    refine zQ_ias (N := 62) zp_149 rfl rfl rfl (fun b3 b3' => ?_)
    refine zQ_seq 1 (pc' := 51) (L' := [some (.ref 58), some (.int (x1 + Int32.ofInt 1))]) (S' := []) (h' := (zSet h 64 x1.toInt.toNat (h.1 65 (((Int32.ofInt 62) * (h.1 58 12)) + x1).toInt.toNat))) zp_149 rfl ?_
    refine zQ_goto zp_149 rfl (t := 22) rfl ?_
    exact (((H.2 c1) b2 b2') b3 b3')
theorem s_150 {h : zH} {Q : Option Value → zH → Prop} (H : ((¬ (h.1 64 61).toInt = (1 : Int) → Q (some (.int (Int32.ofInt 0))) h) ∧ (¬ (¬ (h.1 64 61).toInt = (1 : Int)) → Q (some (.int (Int32.ofInt 1))) h))) : zqm 150 [.ref 58] h Q := by
  refine zqm_of zp_150 (fun n => ?_)
  show zQ n 150 0 [some (.ref 58)] [] h Q
  refine zQ_seq 3 (pc' := 6) (L' := [some (.ref 58)]) (S' := [.int (Int32.ofInt 61), .ref 64]) (h' := h) zp_150 rfl ?_
  refine zQ_ialk 61 (N := 62) (f := h.1 64) zp_150 rfl rfl kc_61 ?_
  refine zQ_seq 1 (pc' := 8) (L' := [some (.ref 58)]) (S' := [.int (Int32.ofInt 1), .int (h.1 64 61)]) (h' := h) zp_150 rfl ?_
  refine zQ_ic zp_150 rfl (t := 15) rfl (i := (h.1 64 61).toInt) (j := (1 : Int)) rfl kc_1 (fun c1 => ?_) (fun c1 => ?_)
  · refine zQ_seq 1 (pc' := 16) (L' := [some (.ref 58)]) (S' := [.int (Int32.ofInt 0)]) (h' := h) zp_150 rfl ?_
    exact zQ_retI zp_150 rfl (H.1 c1)
  · refine zQ_seq 1 (pc' := 12) (L' := [some (.ref 58)]) (S' := [.int (Int32.ofInt 1)]) (h' := h) zp_150 rfl ?_
    refine zQ_goto zp_150 rfl (t := 16) rfl ?_
    exact zQ_retI zp_150 rfl (H.2 c1)
theorem s_151 {h : zH} {Q : Option Value → zH → Prop} (a0 : Int32) (H : zqm 121 [.int a0, .int (Int32.ofInt 0), .int (Int32.ofInt 14)] h (fun rv h1 => zri rv (fun v1 => Q (some (.int v1)) h1))) : zqm 151 [.int a0] h Q := by
  refine zqm_of zp_151 (fun n => ?_)
  show zQ n 151 0 [some (.int a0)] [] h Q
  refine zQ_seq 3 (pc' := 4) (L' := [some (.int a0)]) (S' := [.int (Int32.ofInt 14), .int (Int32.ofInt 0), .int a0]) (h' := h) zp_151 rfl ?_
  refine zQ_csI (M' := 121) (as := [.int a0, .int (Int32.ofInt 0), .int (Int32.ofInt 14)]) (S' := []) zp_151 rfl rfl rfl zp_121 (Or.inr rfl) rfl rfl (zqm_imp H (fun rv h1 r1 => zri_imp r1 (fun v1 r1' => ?_)))
  exact zQ_retI zp_151 rfl r1'
theorem s_152 {h : zH} {Q : Option Value → zH → Prop} (a1 : Int32) (H : zqm 121 [.int a1, .int (Int32.ofInt 0), .int ((h.1 64 57) - (Int32.ofInt 1))] h (fun rv h1 => zri rv (fun v1 => Q (some (.int v1)) h1))) : zqm 152 [.ref 58, .int a1] h Q := by
  refine zqm_of zp_152 (fun n => ?_)
  show zQ n 152 0 [some (.ref 58), some (.int a1)] [] h Q
  refine zQ_seq 5 (pc' := 8) (L' := [some (.ref 58), some (.int a1)]) (S' := [.int (Int32.ofInt 57), .ref 64, .int (Int32.ofInt 0), .int a1]) (h' := h) zp_152 rfl ?_
  refine zQ_ialk 57 (N := 62) (f := h.1 64) zp_152 rfl rfl kc_57 ?_
  refine zQ_seq 2 (pc' := 11) (L' := [some (.ref 58), some (.int a1)]) (S' := [.int ((h.1 64 57) - (Int32.ofInt 1)), .int (Int32.ofInt 0), .int a1]) (h' := h) zp_152 rfl ?_
  refine zQ_csI (M' := 121) (as := [.int a1, .int (Int32.ofInt 0), .int ((h.1 64 57) - (Int32.ofInt 1))]) (S' := []) zp_152 rfl rfl rfl zp_121 (Or.inr rfl) rfl rfl (zqm_imp H (fun rv h1 r1 => zri_imp r1 (fun v1 r1' => ?_)))
  exact zQ_retI zp_152 rfl r1'
theorem s_153 {h : zH} {Q : Option Value → zH → Prop} (a0 : Int32) (a1 : Int32) (H : zqm 124 [.int ((a0 - a0 / (Int32.ofInt 5) * (Int32.ofInt 5)) - (a1 - a1 / (Int32.ofInt 5) * (Int32.ofInt 5)))] h (fun rv h1 => zri rv (fun v1 => zqm 124 [.int ((a0 / (Int32.ofInt 5)) - (a1 / (Int32.ofInt 5)))] h1 (fun rv h2 => zri rv (fun v2 => ((¬ (v1 + v2).toInt = (1 : Int) → Q (some (.int (Int32.ofInt 0))) h2) ∧ (¬ (¬ (v1 + v2).toInt = (1 : Int)) → Q (some (.int (Int32.ofInt 1))) h2))))))) : zqm 153 [.int a0, .int a1] h Q := by
  refine zqm_of zp_153 (fun n => ?_)
  show zQ n 153 0 [some (.int a0), some (.int a1)] [] h Q
  refine zQ_seq 2 (pc' := 2) (L' := [some (.int a0), some (.int a1)]) (S' := [.int (Int32.ofInt 5), .int a0]) (h' := h) zp_153 rfl ?_
  refine zQ_rem zp_153 rfl (fun _ => ?_)
  refine zQ_seq 2 (pc' := 5) (L' := [some (.int a0), some (.int a1)]) (S' := [.int (Int32.ofInt 5), .int a1, .int (a0 - a0 / (Int32.ofInt 5) * (Int32.ofInt 5))]) (h' := h) zp_153 rfl ?_
  refine zQ_rem zp_153 rfl (fun _ => ?_)
  refine zQ_seq 1 (pc' := 7) (L' := [some (.int a0), some (.int a1)]) (S' := [.int ((a0 - a0 / (Int32.ofInt 5) * (Int32.ofInt 5)) - (a1 - a1 / (Int32.ofInt 5) * (Int32.ofInt 5)))]) (h' := h) zp_153 rfl ?_
  refine zQ_csI (M' := 124) (as := [.int ((a0 - a0 / (Int32.ofInt 5) * (Int32.ofInt 5)) - (a1 - a1 / (Int32.ofInt 5) * (Int32.ofInt 5)))]) (S' := []) zp_153 rfl rfl rfl zp_124 (Or.inl rfl) rfl rfl (zqm_imp H (fun rv h1 r1 => zri_imp r1 (fun v1 r1' => ?_)))
  refine zQ_seq 2 (pc' := 12) (L' := [some (.int a0), some (.int a1)]) (S' := [.int (Int32.ofInt 5), .int a0, .int v1]) (h' := h1) zp_153 rfl ?_
  refine zQ_div zp_153 rfl (fun _ => ?_)
  refine zQ_seq 2 (pc' := 15) (L' := [some (.int a0), some (.int a1)]) (S' := [.int (Int32.ofInt 5), .int a1, .int (a0 / (Int32.ofInt 5)), .int v1]) (h' := h1) zp_153 rfl ?_
  refine zQ_div zp_153 rfl (fun _ => ?_)
  refine zQ_seq 1 (pc' := 17) (L' := [some (.int a0), some (.int a1)]) (S' := [.int ((a0 / (Int32.ofInt 5)) - (a1 / (Int32.ofInt 5))), .int v1]) (h' := h1) zp_153 rfl ?_
  refine zQ_csI (M' := 124) (as := [.int ((a0 / (Int32.ofInt 5)) - (a1 / (Int32.ofInt 5)))]) (S' := [.int v1]) zp_153 rfl rfl rfl zp_124 (Or.inl rfl) rfl rfl (zqm_imp r1' (fun rv h2 r2 => zri_imp r2 (fun v2 r2' => ?_)))
  refine zQ_seq 2 (pc' := 22) (L' := [some (.int a0), some (.int a1)]) (S' := [.int (Int32.ofInt 1), .int (v1 + v2)]) (h' := h2) zp_153 rfl ?_
  refine zQ_ic zp_153 rfl (t := 29) rfl (i := (v1 + v2).toInt) (j := (1 : Int)) rfl kc_1 (fun c3 => ?_) (fun c3 => ?_)
  · refine zQ_seq 1 (pc' := 30) (L' := [some (.int a0), some (.int a1)]) (S' := [.int (Int32.ofInt 0)]) (h' := h2) zp_153 rfl ?_
    exact zQ_retI zp_153 rfl (r2'.1 c3)
  · refine zQ_seq 1 (pc' := 26) (L' := [some (.int a0), some (.int a1)]) (S' := [.int (Int32.ofInt 1)]) (h' := h2) zp_153 rfl ?_
    refine zQ_goto zp_153 rfl (t := 30) rfl ?_
    exact zQ_retI zp_153 rfl (r2'.2 c3)
theorem s_154 {h : zH} {Q : Option Value → zH → Prop} (a1 : Int32) (H : zqm 122 [.int (h.1 58 13), .int a1] h (fun rv h1 => zri rv (fun v1 => Q (some (.int v1)) h1))) : zqm 154 [.ref 58, .int a1] h Q := by
  refine zqm_of zp_154 (fun n => ?_)
  show zQ n 154 0 [some (.ref 58), some (.int a1)] [] h Q
  refine zQ_seq 3 (pc' := 5) (L' := [some (.ref 58), some (.int a1)]) (S' := [.int a1, .int (h.1 58 13)]) (h' := h) zp_154 rfl ?_
  refine zQ_csI (M' := 122) (as := [.int (h.1 58 13), .int a1]) (S' := []) zp_154 rfl rfl rfl zp_122 (Or.inr rfl) rfl rfl (zqm_imp H (fun rv h1 r1 => zri_imp r1 (fun v1 r1' => ?_)))
  exact zQ_retI zp_154 rfl r1'
theorem s_155 {h : zH} {Q : Option Value → zH → Prop} (H : (∀ n, zQ n 155 7 [some (.ref 58), some (.int (Int32.ofInt 0)), none, none] [] (zSet h 58 13 (Int32.ofInt 0)) Q)) : zqm 155 [.ref 58] h Q := by
  refine zqm_of zp_155 (fun n => ?_)
  have H := H n
  show zQ n 155 0 [some (.ref 58), none, none, none] [] h Q
  refine zQ_seq 5 (pc' := 7) (L' := [some (.ref 58), some (.int (Int32.ofInt 0)), none, none]) (S' := []) (h' := (zSet h 58 13 (Int32.ofInt 0))) zp_155 rfl ?_
  exact H
theorem s_155_7 {n : Nat} {h : zH} {Q : Option Value → zH → Prop} (x1 : Int32) (o2 : Option Value) (H : (((15 : Int) ≤ x1.toInt → zQ n 155 80 [some (.ref 58), some (.int (Int32.ofInt 0)), o2, none] [] h Q) ∧ (¬ ((15 : Int) ≤ x1.toInt) → zQ n 155 15 [some (.ref 58), some (.int x1), some (.int (Int32.ofInt 0)), none] [] h Q))) : zQ (n + 1) 155 7 [some (.ref 58), some (.int x1), o2, none] [] h Q := by
  refine zQ_seqL 1 (pc' := 10) (L' := [some (.ref 58), some (.int x1), o2, none]) (S' := [.int (Int32.ofInt 15), .int x1]) (h' := h) zp_155 rfl ?_
  refine zQ_ic zp_155 rfl (t := 78) rfl (i := x1.toInt) (j := (15 : Int)) rfl kc_15 (fun c1 => ?_) (fun c1 => ?_)
  · refine zQ_seq 2 (pc' := 80) (L' := [some (.ref 58), some (.int (Int32.ofInt 0)), o2, none]) (S' := []) (h' := h) zp_155 rfl ?_
    exact (H.1 c1)
  · refine zQ_seq 2 (pc' := 15) (L' := [some (.ref 58), some (.int x1), some (.int (Int32.ofInt 0)), none]) (S' := []) (h' := h) zp_155 rfl ?_
    exact (H.2 c1)
theorem s_155_15 {n : Nat} {h : zH} {Q : Option Value → zH → Prop} (x1 : Int32) (x2 : Int32) (H : (((15 : Int) ≤ x2.toInt → zQ n 155 7 [some (.ref 58), some (.int (x1 + Int32.ofInt 1)), some (.int x2), none] [] h Q) ∧ (¬ ((15 : Int) ≤ x2.toInt) → zqm 153 [.int x1, .int x2] h (fun rv h2 => zri rv (fun v2 => ((v2.toInt = 0 → zQ n 155 15 [some (.ref 58), some (.int x1), some (.int (x2 + Int32.ofInt 1)), none] [] (zSet h2 58 13 ((h.1 58 13) ||| (Int32.ofInt 0))) Q) ∧ (¬ (v2.toInt = 0) → (0 ≤ ((Int32.ofInt 30) + x2).toInt → ((Int32.ofInt 30) + x2).toInt < 62 → (0 ≤ ((Int32.ofInt 30) + x1).toInt → ((Int32.ofInt 30) + x1).toInt < 62 → (((h2.1 64 ((Int32.ofInt 30) + x2).toInt.toNat).toInt = (h2.1 64 ((Int32.ofInt 30) + x1).toInt.toNat).toInt → zQ n 155 15 [some (.ref 58), some (.int x1), some (.int (x2 + Int32.ofInt 1)), none] [] (zSet h2 58 13 ((h.1 58 13) ||| (Int32.ofInt 0))) Q) ∧ (¬ ((h2.1 64 ((Int32.ofInt 30) + x2).toInt.toNat).toInt = (h2.1 64 ((Int32.ofInt 30) + x1).toInt.toNat).toInt) → zQ n 155 15 [some (.ref 58), some (.int x1), some (.int (x2 + Int32.ofInt 1)), none] [] (zSet h2 58 13 ((h.1 58 13) ||| ((Int32.ofInt 1) <<< (x1 &&& 31)))) Q))))))))))) : zQ (n + 1) 155 15 [some (.ref 58), some (.int x1), some (.int x2), none] [] h Q := by
  refine zQ_seqL 1 (pc' := 18) (L' := [some (.ref 58), some (.int x1), some (.int x2), none]) (S' := [.int (Int32.ofInt 15), .int x2]) (h' := h) zp_155 rfl ?_
  refine zQ_ic zp_155 rfl (t := 72) rfl (i := x2.toInt) (j := (15 : Int)) rfl kc_15 (fun c1 => ?_) (fun c1 => ?_)
  · refine zQ_seq 1 (pc' := 75) (L' := [some (.ref 58), some (.int (x1 + Int32.ofInt 1)), some (.int x2), none]) (S' := []) (h' := h) zp_155 rfl ?_
    refine zQ_goto zp_155 rfl (t := 7) rfl ?_
    exact (H.1 c1)
  · refine zQ_seq 5 (pc' := 28) (L' := [some (.ref 58), some (.int x1), some (.int x2), none]) (S' := [.int x2, .int x1, .int (h.1 58 13), .ref 58]) (h' := h) zp_155 rfl ?_
    refine zQ_csI (M' := 153) (as := [.int x1, .int x2]) (S' := [.int (h.1 58 13), .ref 58]) zp_155 rfl rfl rfl zp_153 (Or.inr rfl) rfl rfl (zqm_imp (H.2 c1) (fun rv h2 r2 => zri_imp r2 (fun v2 r2' => ?_)))
    refine zQ_if zp_155 rfl (t := 61) rfl (i := v2.toInt) rfl (fun c3 => ?_) (fun c3 => ?_)
    · refine zQ_seq 4 (pc' := 69) (L' := [some (.ref 58), some (.int x1), some (.int (x2 + Int32.ofInt 1)), none]) (S' := []) (h' := (zSet h2 58 13 ((h.1 58 13) ||| (Int32.ofInt 0)))) zp_155 rfl ?_
      refine zQ_goto zp_155 rfl (t := 15) rfl ?_
      exact (r2'.1 c3)
    · refine zQ_seq 5 (pc' := 42) (L' := [some (.ref 58), some (.int x1), some (.int x2), none]) (S' := [.int ((Int32.ofInt 30) + x2), .ref 64, .int (h.1 58 13), .ref 58]) (h' := h2) zp_155 rfl ?_
      refine zQ_ial (N := 62) (f := h2.1 64) zp_155 rfl rfl rfl (fun b4 b4' => ?_)
      refine zQ_seq 5 (pc' := 51) (L' := [some (.ref 58), some (.int x1), some (.int x2), none]) (S' := [.int ((Int32.ofInt 30) + x1), .ref 64, .int (h2.1 64 ((Int32.ofInt 30) + x2).toInt.toNat), .int (h.1 58 13), .ref 58]) (h' := h2) zp_155 rfl ?_
      refine zQ_ial (N := 62) (f := h2.1 64) zp_155 rfl rfl rfl (fun b5 b5' => ?_)
      refine zQ_ic zp_155 rfl (t := 61) rfl (i := (h2.1 64 ((Int32.ofInt 30) + x2).toInt.toNat).toInt) (j := (h2.1 64 ((Int32.ofInt 30) + x1).toInt.toNat).toInt) rfl rfl (fun c6 => ?_) (fun c6 => ?_)
      · refine zQ_seq 4 (pc' := 69) (L' := [some (.ref 58), some (.int x1), some (.int (x2 + Int32.ofInt 1)), none]) (S' := []) (h' := (zSet h2 58 13 ((h.1 58 13) ||| (Int32.ofInt 0)))) zp_155 rfl ?_
        refine zQ_goto zp_155 rfl (t := 15) rfl ?_
        exact ((((r2'.2 c3) b4 b4') b5 b5').1 c6)
      · refine zQ_seq 3 (pc' := 58) (L' := [some (.ref 58), some (.int x1), some (.int x2), none]) (S' := [.int ((Int32.ofInt 1) <<< (x1 &&& 31)), .int (h.1 58 13), .ref 58]) (h' := h2) zp_155 rfl ?_
        refine zQ_goto zp_155 rfl (t := 62) rfl ?_
        refine zQ_seq 3 (pc' := 69) (L' := [some (.ref 58), some (.int x1), some (.int (x2 + Int32.ofInt 1)), none]) (S' := []) (h' := (zSet h2 58 13 ((h.1 58 13) ||| ((Int32.ofInt 1) <<< (x1 &&& 31))))) zp_155 rfl ?_
        refine zQ_goto zp_155 rfl (t := 15) rfl ?_
        exact ((((r2'.2 c3) b4 b4') b5 b5').2 c6)
theorem s_155_80 {n : Nat} {h : zH} {Q : Option Value → zH → Prop} (x1 : Int32) (o2 : Option Value) (o3 : Option Value) (H : (((h.1 64 57).toInt ≤ x1.toInt → Q none h) ∧ (¬ ((h.1 64 57).toInt ≤ x1.toInt) → (0 ≤ x1.toInt → x1.toInt < 4 → zQ n 155 100 [some (.ref 58), some (.int x1), some (.int (Int32.ofInt 0)), o3] [] (zSet h 66 x1.toInt.toNat (Int32.ofInt 0)) Q)))) : zQ (n + 1) 155 80 [some (.ref 58), some (.int x1), o2, o3] [] h Q := by
  refine zQ_seqL 3 (pc' := 87) (L' := [some (.ref 58), some (.int x1), o2, o3]) (S' := [.int (Int32.ofInt 57), .ref 64, .int x1]) (h' := h) zp_155 rfl ?_
  refine zQ_ialk 57 (N := 62) (f := h.1 64) zp_155 rfl rfl kc_57 ?_
  refine zQ_ic zp_155 rfl (t := 214) rfl (i := x1.toInt) (j := (h.1 64 57).toInt) rfl rfl (fun c1 => ?_) (fun c1 => ?_)
  · exact zQ_retV zp_155 rfl (H.1 c1)
  · refine zQ_seq 4 (pc' := 97) (L' := [some (.ref 58), some (.int x1), o2, o3]) (S' := [.int (Int32.ofInt 0), .int x1, .ref 66]) (h' := h) zp_155 rfl ?_
    refine zQ_ias (N := 4) zp_155 rfl rfl rfl (fun b2 b2' => ?_)
    refine zQ_seq 2 (pc' := 100) (L' := [some (.ref 58), some (.int x1), some (.int (Int32.ofInt 0)), o3]) (S' := []) (h' := (zSet h 66 x1.toInt.toNat (Int32.ofInt 0))) zp_155 rfl ?_
    exact ((H.2 c1) b2 b2')
theorem s_155_100 {n : Nat} {h : zH} {Q : Option Value → zH → Prop} (x1 : Int32) (x2 : Int32) (o3 : Option Value) (H : (((15 : Int) ≤ x2.toInt → zQ n 155 80 [some (.ref 58), some (.int (x1 + Int32.ofInt 1)), some (.int x2), o3] [] h Q) ∧ (¬ ((15 : Int) ≤ x2.toInt) → (0 ≤ x1.toInt → x1.toInt < 4 → (0 ≤ ((Int32.ofInt 30) + x2).toInt → ((Int32.ofInt 30) + x2).toInt < 62 → zqm 159 [.ref 58, .int x1] h (fun rv h4 => zri rv (fun v4 => ((¬ (h.1 64 ((Int32.ofInt 30) + x2).toInt.toNat).toInt = v4.toInt → (0 ≤ x1.toInt → x1.toInt < 4 → zQ n 155 141 [some (.ref 58), some (.int x1), some (.int x2), some (.int (Int32.ofInt 0))] [] (zSet h4 66 x1.toInt.toNat ((h.1 66 x1.toInt.toNat) ||| (Int32.ofInt 0))) Q)) ∧ (¬ (¬ (h.1 64 ((Int32.ofInt 30) + x2).toInt.toNat).toInt = v4.toInt) → (0 ≤ x1.toInt → x1.toInt < 4 → zQ n 155 141 [some (.ref 58), some (.int x1), some (.int x2), some (.int (Int32.ofInt 0))] [] (zSet h4 66 x1.toInt.toNat ((h.1 66 x1.toInt.toNat) ||| ((Int32.ofInt 1) <<< (x2 &&& 31)))) Q)))))))))) : zQ (n + 1) 155 100 [some (.ref 58), some (.int x1), some (.int x2), o3] [] h Q := by
  refine zQ_seqL 1 (pc' := 103) (L' := [some (.ref 58), some (.int x1), some (.int x2), o3]) (S' := [.int (Int32.ofInt 15), .int x2]) (h' := h) zp_155 rfl ?_
  refine zQ_ic zp_155 rfl (t := 208) rfl (i := x2.toInt) (j := (15 : Int)) rfl kc_15 (fun c1 => ?_) (fun c1 => ?_)
  · refine zQ_seq 1 (pc' := 211) (L' := [some (.ref 58), some (.int (x1 + Int32.ofInt 1)), some (.int x2), o3]) (S' := []) (h' := h) zp_155 rfl ?_
    refine zQ_goto zp_155 rfl (t := 80) rfl ?_
    exact (H.1 c1)
  · refine zQ_seq 4 (pc' := 112) (L' := [some (.ref 58), some (.int x1), some (.int x2), o3]) (S' := [.int x1, .ref 66, .int x1, .ref 66]) (h' := h) zp_155 rfl ?_
    refine zQ_ial (N := 4) (f := h.1 66) zp_155 rfl rfl rfl (fun b2 b2' => ?_)
    refine zQ_seq 5 (pc' := 121) (L' := [some (.ref 58), some (.int x1), some (.int x2), o3]) (S' := [.int ((Int32.ofInt 30) + x2), .ref 64, .int (h.1 66 x1.toInt.toNat), .int x1, .ref 66]) (h' := h) zp_155 rfl ?_
    refine zQ_ial (N := 62) (f := h.1 64) zp_155 rfl rfl rfl (fun b3 b3' => ?_)
    refine zQ_seq 2 (pc' := 124) (L' := [some (.ref 58), some (.int x1), some (.int x2), o3]) (S' := [.int x1, .ref 58, .int (h.1 64 ((Int32.ofInt 30) + x2).toInt.toNat), .int (h.1 66 x1.toInt.toNat), .int x1, .ref 66]) (h' := h) zp_155 rfl ?_
    refine zQ_cvI (M' := 159) (as := [.ref 58, .int x1]) (S' := [.int (h.1 64 ((Int32.ofInt 30) + x2).toInt.toNat), .int (h.1 66 x1.toInt.toNat), .int x1, .ref 66]) zp_155 rfl rfl zp_159 (Or.inl rfl) rfl rfl (zqm_imp (((H.2 c1) b2 b2') b3 b3') (fun rv h4 r4 => zri_imp r4 (fun v4 r4' => ?_)))
    refine zQ_ic zp_155 rfl (t := 136) rfl (i := (h.1 64 ((Int32.ofInt 30) + x2).toInt.toNat).toInt) (j := v4.toInt) rfl rfl (fun c5 => ?_) (fun c5 => ?_)
    · refine zQ_seq 2 (pc' := 138) (L' := [some (.ref 58), some (.int x1), some (.int x2), o3]) (S' := [.int ((h.1 66 x1.toInt.toNat) ||| (Int32.ofInt 0)), .int x1, .ref 66]) (h' := h4) zp_155 rfl ?_
      refine zQ_ias (N := 4) zp_155 rfl rfl rfl (fun b6 b6' => ?_)
      refine zQ_seq 2 (pc' := 141) (L' := [some (.ref 58), some (.int x1), some (.int x2), some (.int (Int32.ofInt 0))]) (S' := []) (h' := (zSet h4 66 x1.toInt.toNat ((h.1 66 x1.toInt.toNat) ||| (Int32.ofInt 0)))) zp_155 rfl ?_
      exact ((r4'.1 c5) b6 b6')
    · refine zQ_seq 3 (pc' := 133) (L' := [some (.ref 58), some (.int x1), some (.int x2), o3]) (S' := [.int ((Int32.ofInt 1) <<< (x2 &&& 31)), .int (h.1 66 x1.toInt.toNat), .int x1, .ref 66]) (h' := h4) zp_155 rfl ?_
      refine zQ_goto zp_155 rfl (t := 137) rfl ?_
      refine zQ_seq 1 (pc' := 138) (L' := [some (.ref 58), some (.int x1), some (.int x2), o3]) (S' := [.int ((h.1 66 x1.toInt.toNat) ||| ((Int32.ofInt 1) <<< (x2 &&& 31))), .int x1, .ref 66]) (h' := h4) zp_155 rfl ?_
      refine zQ_ias (N := 4) zp_155 rfl rfl rfl (fun b7 b7' => ?_)
      refine zQ_seq 2 (pc' := 141) (L' := [some (.ref 58), some (.int x1), some (.int x2), some (.int (Int32.ofInt 0))]) (S' := []) (h' := (zSet h4 66 x1.toInt.toNat ((h.1 66 x1.toInt.toNat) ||| ((Int32.ofInt 1) <<< (x2 &&& 31))))) zp_155 rfl ?_
      exact ((r4'.2 c5) b7 b7')
theorem s_155_141 {n : Nat} {h : zH} {Q : Option Value → zH → Prop} (x1 : Int32) (x2 : Int32) (x3 : Int32) (H : (((15 : Int) ≤ x3.toInt → zQ n 155 100 [some (.ref 58), some (.int x1), some (.int (x2 + Int32.ofInt 1)), some (.int x3)] [] h Q) ∧ (¬ ((15 : Int) ≤ x3.toInt) → (0 ≤ x1.toInt → x1.toInt < 4 → zqm 154 [.ref 58, .int x2] h (fun rv h3 => zri rv (fun v3 => ((v3.toInt = 0 → (0 ≤ x1.toInt → x1.toInt < 4 → zQ n 155 141 [some (.ref 58), some (.int x1), some (.int x2), some (.int (x3 + Int32.ofInt 1))] [] (zSet h3 66 x1.toInt.toNat ((h.1 66 x1.toInt.toNat) ||| (Int32.ofInt 0))) Q)) ∧ (¬ (v3.toInt = 0) → zqm 153 [.int x2, .int x3] h3 (fun rv h6 => zri rv (fun v6 => ((v6.toInt = 0 → (0 ≤ x1.toInt → x1.toInt < 4 → zQ n 155 141 [some (.ref 58), some (.int x1), some (.int x2), some (.int (x3 + Int32.ofInt 1))] [] (zSet h6 66 x1.toInt.toNat ((h.1 66 x1.toInt.toNat) ||| (Int32.ofInt 0))) Q)) ∧ (¬ (v6.toInt = 0) → (0 ≤ ((Int32.ofInt 30) + x3).toInt → ((Int32.ofInt 30) + x3).toInt < 62 → zqm 159 [.ref 58, .int x1] h6 (fun rv h10 => zri rv (fun v10 => ((¬ (h6.1 64 ((Int32.ofInt 30) + x3).toInt.toNat).toInt = v10.toInt → (0 ≤ x1.toInt → x1.toInt < 4 → zQ n 155 141 [some (.ref 58), some (.int x1), some (.int x2), some (.int (x3 + Int32.ofInt 1))] [] (zSet h10 66 x1.toInt.toNat ((h.1 66 x1.toInt.toNat) ||| (Int32.ofInt 0))) Q)) ∧ (¬ (¬ (h6.1 64 ((Int32.ofInt 30) + x3).toInt.toNat).toInt = v10.toInt) → (0 ≤ x1.toInt → x1.toInt < 4 → zQ n 155 141 [some (.ref 58), some (.int x1), some (.int x2), some (.int (x3 + Int32.ofInt 1))] [] (zSet h10 66 x1.toInt.toNat ((h.1 66 x1.toInt.toNat) ||| ((Int32.ofInt 1) <<< (x2 &&& 31)))) Q)))))))))))))))))) : zQ (n + 1) 155 141 [some (.ref 58), some (.int x1), some (.int x2), some (.int x3)] [] h Q := by
  refine zQ_seqL 1 (pc' := 144) (L' := [some (.ref 58), some (.int x1), some (.int x2), some (.int x3)]) (S' := [.int (Int32.ofInt 15), .int x3]) (h' := h) zp_155 rfl ?_
  refine zQ_ic zp_155 rfl (t := 202) rfl (i := x3.toInt) (j := (15 : Int)) rfl kc_15 (fun c1 => ?_) (fun c1 => ?_)
  · refine zQ_seq 1 (pc' := 205) (L' := [some (.ref 58), some (.int x1), some (.int (x2 + Int32.ofInt 1)), some (.int x3)]) (S' := []) (h' := h) zp_155 rfl ?_
    refine zQ_goto zp_155 rfl (t := 100) rfl ?_
    exact (H.1 c1)
  · refine zQ_seq 4 (pc' := 153) (L' := [some (.ref 58), some (.int x1), some (.int x2), some (.int x3)]) (S' := [.int x1, .ref 66, .int x1, .ref 66]) (h' := h) zp_155 rfl ?_
    refine zQ_ial (N := 4) (f := h.1 66) zp_155 rfl rfl rfl (fun b2 b2' => ?_)
    refine zQ_seq 2 (pc' := 156) (L' := [some (.ref 58), some (.int x1), some (.int x2), some (.int x3)]) (S' := [.int x2, .ref 58, .int (h.1 66 x1.toInt.toNat), .int x1, .ref 66]) (h' := h) zp_155 rfl ?_
    refine zQ_cvI (M' := 154) (as := [.ref 58, .int x2]) (S' := [.int (h.1 66 x1.toInt.toNat), .int x1, .ref 66]) zp_155 rfl rfl zp_154 (Or.inr rfl) rfl rfl (zqm_imp ((H.2 c1) b2 b2') (fun rv h3 r3 => zri_imp r3 (fun v3 r3' => ?_)))
    refine zQ_if zp_155 rfl (t := 193) rfl (i := v3.toInt) rfl (fun c4 => ?_) (fun c4 => ?_)
    · refine zQ_seq 2 (pc' := 195) (L' := [some (.ref 58), some (.int x1), some (.int x2), some (.int x3)]) (S' := [.int ((h.1 66 x1.toInt.toNat) ||| (Int32.ofInt 0)), .int x1, .ref 66]) (h' := h3) zp_155 rfl ?_
      refine zQ_ias (N := 4) zp_155 rfl rfl rfl (fun b5 b5' => ?_)
      refine zQ_seq 1 (pc' := 199) (L' := [some (.ref 58), some (.int x1), some (.int x2), some (.int (x3 + Int32.ofInt 1))]) (S' := []) (h' := (zSet h3 66 x1.toInt.toNat ((h.1 66 x1.toInt.toNat) ||| (Int32.ofInt 0)))) zp_155 rfl ?_
      refine zQ_goto zp_155 rfl (t := 141) rfl ?_
      exact ((r3'.1 c4) b5 b5')
    · refine zQ_seq 2 (pc' := 164) (L' := [some (.ref 58), some (.int x1), some (.int x2), some (.int x3)]) (S' := [.int x3, .int x2, .int (h.1 66 x1.toInt.toNat), .int x1, .ref 66]) (h' := h3) zp_155 rfl ?_
      refine zQ_csI (M' := 153) (as := [.int x2, .int x3]) (S' := [.int (h.1 66 x1.toInt.toNat), .int x1, .ref 66]) zp_155 rfl rfl rfl zp_153 (Or.inr rfl) rfl rfl (zqm_imp (r3'.2 c4) (fun rv h6 r6 => zri_imp r6 (fun v6 r6' => ?_)))
      refine zQ_if zp_155 rfl (t := 193) rfl (i := v6.toInt) rfl (fun c7 => ?_) (fun c7 => ?_)
      · refine zQ_seq 2 (pc' := 195) (L' := [some (.ref 58), some (.int x1), some (.int x2), some (.int x3)]) (S' := [.int ((h.1 66 x1.toInt.toNat) ||| (Int32.ofInt 0)), .int x1, .ref 66]) (h' := h6) zp_155 rfl ?_
        refine zQ_ias (N := 4) zp_155 rfl rfl rfl (fun b8 b8' => ?_)
        refine zQ_seq 1 (pc' := 199) (L' := [some (.ref 58), some (.int x1), some (.int x2), some (.int (x3 + Int32.ofInt 1))]) (S' := []) (h' := (zSet h6 66 x1.toInt.toNat ((h.1 66 x1.toInt.toNat) ||| (Int32.ofInt 0)))) zp_155 rfl ?_
        refine zQ_goto zp_155 rfl (t := 141) rfl ?_
        exact ((r6'.1 c7) b8 b8')
      · refine zQ_seq 5 (pc' := 178) (L' := [some (.ref 58), some (.int x1), some (.int x2), some (.int x3)]) (S' := [.int ((Int32.ofInt 30) + x3), .ref 64, .int (h.1 66 x1.toInt.toNat), .int x1, .ref 66]) (h' := h6) zp_155 rfl ?_
        refine zQ_ial (N := 62) (f := h6.1 64) zp_155 rfl rfl rfl (fun b9 b9' => ?_)
        refine zQ_seq 2 (pc' := 181) (L' := [some (.ref 58), some (.int x1), some (.int x2), some (.int x3)]) (S' := [.int x1, .ref 58, .int (h6.1 64 ((Int32.ofInt 30) + x3).toInt.toNat), .int (h.1 66 x1.toInt.toNat), .int x1, .ref 66]) (h' := h6) zp_155 rfl ?_
        refine zQ_cvI (M' := 159) (as := [.ref 58, .int x1]) (S' := [.int (h6.1 64 ((Int32.ofInt 30) + x3).toInt.toNat), .int (h.1 66 x1.toInt.toNat), .int x1, .ref 66]) zp_155 rfl rfl zp_159 (Or.inl rfl) rfl rfl (zqm_imp ((r6'.2 c7) b9 b9') (fun rv h10 r10 => zri_imp r10 (fun v10 r10' => ?_)))
        refine zQ_ic zp_155 rfl (t := 193) rfl (i := (h6.1 64 ((Int32.ofInt 30) + x3).toInt.toNat).toInt) (j := v10.toInt) rfl rfl (fun c11 => ?_) (fun c11 => ?_)
        · refine zQ_seq 2 (pc' := 195) (L' := [some (.ref 58), some (.int x1), some (.int x2), some (.int x3)]) (S' := [.int ((h.1 66 x1.toInt.toNat) ||| (Int32.ofInt 0)), .int x1, .ref 66]) (h' := h10) zp_155 rfl ?_
          refine zQ_ias (N := 4) zp_155 rfl rfl rfl (fun b12 b12' => ?_)
          refine zQ_seq 1 (pc' := 199) (L' := [some (.ref 58), some (.int x1), some (.int x2), some (.int (x3 + Int32.ofInt 1))]) (S' := []) (h' := (zSet h10 66 x1.toInt.toNat ((h.1 66 x1.toInt.toNat) ||| (Int32.ofInt 0)))) zp_155 rfl ?_
          refine zQ_goto zp_155 rfl (t := 141) rfl ?_
          exact ((r10'.1 c11) b12 b12')
        · refine zQ_seq 3 (pc' := 190) (L' := [some (.ref 58), some (.int x1), some (.int x2), some (.int x3)]) (S' := [.int ((Int32.ofInt 1) <<< (x2 &&& 31)), .int (h.1 66 x1.toInt.toNat), .int x1, .ref 66]) (h' := h10) zp_155 rfl ?_
          refine zQ_goto zp_155 rfl (t := 194) rfl ?_
          refine zQ_seq 1 (pc' := 195) (L' := [some (.ref 58), some (.int x1), some (.int x2), some (.int x3)]) (S' := [.int ((h.1 66 x1.toInt.toNat) ||| ((Int32.ofInt 1) <<< (x2 &&& 31))), .int x1, .ref 66]) (h' := h10) zp_155 rfl ?_
          refine zQ_ias (N := 4) zp_155 rfl rfl rfl (fun b13 b13' => ?_)
          refine zQ_seq 1 (pc' := 199) (L' := [some (.ref 58), some (.int x1), some (.int x2), some (.int (x3 + Int32.ofInt 1))]) (S' := []) (h' := (zSet h10 66 x1.toInt.toNat ((h.1 66 x1.toInt.toNat) ||| ((Int32.ofInt 1) <<< (x2 &&& 31))))) zp_155 rfl ?_
          refine zQ_goto zp_155 rfl (t := 141) rfl ?_
          exact ((r10'.2 c11) b13 b13')
theorem s_156_58_64 {h : zH} {Q : Option Value → zH → Prop} (H : (∀ n, zQ n 156 4 [some (.ref 58), some (.ref 64), some (.int (Int32.ofInt 0)), some (.int (Int32.ofInt 0))] [] h Q)) : zqm 156 [.ref 58, .ref 64] h Q := by
  refine zqm_of zp_156 (fun n => ?_)
  have H := H n
  show zQ n 156 0 [some (.ref 58), some (.ref 64), none, none] [] h Q
  refine zQ_seq 4 (pc' := 4) (L' := [some (.ref 58), some (.ref 64), some (.int (Int32.ofInt 0)), some (.int (Int32.ofInt 0))]) (S' := []) (h' := h) zp_156 rfl ?_
  exact H
theorem s_156_58_64_4 {n : Nat} {h : zH} {Q : Option Value → zH → Prop} (x2 : Int32) (x3 : Int32) (H : (((15 : Int) ≤ x3.toInt → Q (some (.int x2)) h) ∧ (¬ ((15 : Int) ≤ x3.toInt) → (0 ≤ ((Int32.ofInt 0) + x3).toInt → ((Int32.ofInt 0) + x3).toInt < 62 → (0 ≤ ((Int32.ofInt 15) + x3).toInt → ((Int32.ofInt 15) + x3).toInt < 62 → (((h.1 64 ((Int32.ofInt 0) + x3).toInt.toNat).toInt = (h.1 64 ((Int32.ofInt 15) + x3).toInt.toNat).toInt → zQ n 156 4 [some (.ref 58), some (.ref 64), some (.int (x2 ||| (Int32.ofInt 0))), some (.int (x3 + Int32.ofInt 1))] [] h Q) ∧ (¬ ((h.1 64 ((Int32.ofInt 0) + x3).toInt.toNat).toInt = (h.1 64 ((Int32.ofInt 15) + x3).toInt.toNat).toInt) → zQ n 156 4 [some (.ref 58), some (.ref 64), some (.int (x2 ||| ((Int32.ofInt 1) <<< (x3 &&& 31)))), some (.int (x3 + Int32.ofInt 1))] [] h Q))))))) : zQ (n + 1) 156 4 [some (.ref 58), some (.ref 64), some (.int x2), some (.int x3)] [] h Q := by
  refine zQ_seqL 1 (pc' := 7) (L' := [some (.ref 58), some (.ref 64), some (.int x2), some (.int x3)]) (S' := [.int (Int32.ofInt 15), .int x3]) (h' := h) zp_156 rfl ?_
  refine zQ_ic zp_156 rfl (t := 40) rfl (i := x3.toInt) (j := (15 : Int)) rfl kc_15 (fun c1 => ?_) (fun c1 => ?_)
  · refine zQ_seq 1 (pc' := 41) (L' := [some (.ref 58), some (.ref 64), some (.int x2), some (.int x3)]) (S' := [.int x2]) (h' := h) zp_156 rfl ?_
    exact zQ_retI zp_156 rfl (H.1 c1)
  · refine zQ_seq 5 (pc' := 15) (L' := [some (.ref 58), some (.ref 64), some (.int x2), some (.int x3)]) (S' := [.int ((Int32.ofInt 0) + x3), .ref 64, .int x2]) (h' := h) zp_156 rfl ?_
    refine zQ_ial (N := 62) (f := h.1 64) zp_156 rfl rfl rfl (fun b2 b2' => ?_)
    refine zQ_seq 4 (pc' := 21) (L' := [some (.ref 58), some (.ref 64), some (.int x2), some (.int x3)]) (S' := [.int ((Int32.ofInt 15) + x3), .ref 64, .int (h.1 64 ((Int32.ofInt 0) + x3).toInt.toNat), .int x2]) (h' := h) zp_156 rfl ?_
    refine zQ_ial (N := 62) (f := h.1 64) zp_156 rfl rfl rfl (fun b3 b3' => ?_)
    refine zQ_ic zp_156 rfl (t := 31) rfl (i := (h.1 64 ((Int32.ofInt 0) + x3).toInt.toNat).toInt) (j := (h.1 64 ((Int32.ofInt 15) + x3).toInt.toNat).toInt) rfl rfl (fun c4 => ?_) (fun c4 => ?_)
    · refine zQ_seq 4 (pc' := 37) (L' := [some (.ref 58), some (.ref 64), some (.int (x2 ||| (Int32.ofInt 0))), some (.int (x3 + Int32.ofInt 1))]) (S' := []) (h' := h) zp_156 rfl ?_
      refine zQ_goto zp_156 rfl (t := 4) rfl ?_
      exact ((((H.2 c1) b2 b2') b3 b3').1 c4)
    · refine zQ_seq 3 (pc' := 28) (L' := [some (.ref 58), some (.ref 64), some (.int x2), some (.int x3)]) (S' := [.int ((Int32.ofInt 1) <<< (x3 &&& 31)), .int x2]) (h' := h) zp_156 rfl ?_
      refine zQ_goto zp_156 rfl (t := 32) rfl ?_
      refine zQ_seq 3 (pc' := 37) (L' := [some (.ref 58), some (.ref 64), some (.int (x2 ||| ((Int32.ofInt 1) <<< (x3 &&& 31)))), some (.int (x3 + Int32.ofInt 1))]) (S' := []) (h' := h) zp_156 rfl ?_
      refine zQ_goto zp_156 rfl (t := 4) rfl ?_
      exact ((((H.2 c1) b2 b2') b3 b3').2 c4)
theorem s_156_58_67 {h : zH} {Q : Option Value → zH → Prop} (H : (∀ n, zQ n 156 4 [some (.ref 58), some (.ref 67), some (.int (Int32.ofInt 0)), some (.int (Int32.ofInt 0))] [] h Q)) : zqm 156 [.ref 58, .ref 67] h Q := by
  refine zqm_of zp_156 (fun n => ?_)
  have H := H n
  show zQ n 156 0 [some (.ref 58), some (.ref 67), none, none] [] h Q
  refine zQ_seq 4 (pc' := 4) (L' := [some (.ref 58), some (.ref 67), some (.int (Int32.ofInt 0)), some (.int (Int32.ofInt 0))]) (S' := []) (h' := h) zp_156 rfl ?_
  exact H
theorem s_156_58_67_4 {n : Nat} {h : zH} {Q : Option Value → zH → Prop} (x2 : Int32) (x3 : Int32) (H : (((15 : Int) ≤ x3.toInt → Q (some (.int x2)) h) ∧ (¬ ((15 : Int) ≤ x3.toInt) → (0 ≤ ((Int32.ofInt 0) + x3).toInt → ((Int32.ofInt 0) + x3).toInt < 62 → (0 ≤ ((Int32.ofInt 15) + x3).toInt → ((Int32.ofInt 15) + x3).toInt < 62 → (((h.1 67 ((Int32.ofInt 0) + x3).toInt.toNat).toInt = (h.1 67 ((Int32.ofInt 15) + x3).toInt.toNat).toInt → zQ n 156 4 [some (.ref 58), some (.ref 67), some (.int (x2 ||| (Int32.ofInt 0))), some (.int (x3 + Int32.ofInt 1))] [] h Q) ∧ (¬ ((h.1 67 ((Int32.ofInt 0) + x3).toInt.toNat).toInt = (h.1 67 ((Int32.ofInt 15) + x3).toInt.toNat).toInt) → zQ n 156 4 [some (.ref 58), some (.ref 67), some (.int (x2 ||| ((Int32.ofInt 1) <<< (x3 &&& 31)))), some (.int (x3 + Int32.ofInt 1))] [] h Q))))))) : zQ (n + 1) 156 4 [some (.ref 58), some (.ref 67), some (.int x2), some (.int x3)] [] h Q := by
  refine zQ_seqL 1 (pc' := 7) (L' := [some (.ref 58), some (.ref 67), some (.int x2), some (.int x3)]) (S' := [.int (Int32.ofInt 15), .int x3]) (h' := h) zp_156 rfl ?_
  refine zQ_ic zp_156 rfl (t := 40) rfl (i := x3.toInt) (j := (15 : Int)) rfl kc_15 (fun c1 => ?_) (fun c1 => ?_)
  · refine zQ_seq 1 (pc' := 41) (L' := [some (.ref 58), some (.ref 67), some (.int x2), some (.int x3)]) (S' := [.int x2]) (h' := h) zp_156 rfl ?_
    exact zQ_retI zp_156 rfl (H.1 c1)
  · refine zQ_seq 5 (pc' := 15) (L' := [some (.ref 58), some (.ref 67), some (.int x2), some (.int x3)]) (S' := [.int ((Int32.ofInt 0) + x3), .ref 67, .int x2]) (h' := h) zp_156 rfl ?_
    refine zQ_ial (N := 62) (f := h.1 67) zp_156 rfl rfl rfl (fun b2 b2' => ?_)
    refine zQ_seq 4 (pc' := 21) (L' := [some (.ref 58), some (.ref 67), some (.int x2), some (.int x3)]) (S' := [.int ((Int32.ofInt 15) + x3), .ref 67, .int (h.1 67 ((Int32.ofInt 0) + x3).toInt.toNat), .int x2]) (h' := h) zp_156 rfl ?_
    refine zQ_ial (N := 62) (f := h.1 67) zp_156 rfl rfl rfl (fun b3 b3' => ?_)
    refine zQ_ic zp_156 rfl (t := 31) rfl (i := (h.1 67 ((Int32.ofInt 0) + x3).toInt.toNat).toInt) (j := (h.1 67 ((Int32.ofInt 15) + x3).toInt.toNat).toInt) rfl rfl (fun c4 => ?_) (fun c4 => ?_)
    · refine zQ_seq 4 (pc' := 37) (L' := [some (.ref 58), some (.ref 67), some (.int (x2 ||| (Int32.ofInt 0))), some (.int (x3 + Int32.ofInt 1))]) (S' := []) (h' := h) zp_156 rfl ?_
      refine zQ_goto zp_156 rfl (t := 4) rfl ?_
      exact ((((H.2 c1) b2 b2') b3 b3').1 c4)
    · refine zQ_seq 3 (pc' := 28) (L' := [some (.ref 58), some (.ref 67), some (.int x2), some (.int x3)]) (S' := [.int ((Int32.ofInt 1) <<< (x3 &&& 31)), .int x2]) (h' := h) zp_156 rfl ?_
      refine zQ_goto zp_156 rfl (t := 32) rfl ?_
      refine zQ_seq 3 (pc' := 37) (L' := [some (.ref 58), some (.ref 67), some (.int (x2 ||| ((Int32.ofInt 1) <<< (x3 &&& 31)))), some (.int (x3 + Int32.ofInt 1))]) (S' := []) (h' := h) zp_156 rfl ?_
      refine zQ_goto zp_156 rfl (t := 4) rfl ?_
      exact ((((H.2 c1) b2 b2') b3 b3').2 c4)
theorem s_157 {h : zH} {Q : Option Value → zH → Prop} (H : Q (some (.int (h.1 58 13))) h) : zqm 157 [.ref 58] h Q := by
  refine zqm_of zp_157 (fun n => ?_)
  show zQ n 157 0 [some (.ref 58)] [] h Q
  refine zQ_seq 2 (pc' := 4) (L' := [some (.ref 58)]) (S' := [.int (h.1 58 13)]) (h' := h) zp_157 rfl ?_
  exact zQ_retI zp_157 rfl H
theorem s_158 {h : zH} {Q : Option Value → zH → Prop} (a1 : Int32) (H : (0 ≤ ((Int32.ofInt 45) + ((Int32.ofInt 3) * a1)).toInt → ((Int32.ofInt 45) + ((Int32.ofInt 3) * a1)).toInt < 62 → Q (some (.int (h.1 64 ((Int32.ofInt 45) + ((Int32.ofInt 3) * a1)).toInt.toNat))) h)) : zqm 158 [.ref 58, .int a1] h Q := by
  refine zqm_of zp_158 (fun n => ?_)
  show zQ n 158 0 [some (.ref 58), some (.int a1)] [] h Q
  refine zQ_seq 7 (pc' := 10) (L' := [some (.ref 58), some (.int a1)]) (S' := [.int ((Int32.ofInt 45) + ((Int32.ofInt 3) * a1)), .ref 64]) (h' := h) zp_158 rfl ?_
  refine zQ_ial (N := 62) (f := h.1 64) zp_158 rfl rfl rfl (fun b1 b1' => ?_)
  exact zQ_retI zp_158 rfl (H b1 b1')
theorem s_159 {h : zH} {Q : Option Value → zH → Prop} (a1 : Int32) (H : (0 ≤ (((Int32.ofInt 45) + ((Int32.ofInt 3) * a1)) + (Int32.ofInt 1)).toInt → (((Int32.ofInt 45) + ((Int32.ofInt 3) * a1)) + (Int32.ofInt 1)).toInt < 62 → Q (some (.int (h.1 64 (((Int32.ofInt 45) + ((Int32.ofInt 3) * a1)) + (Int32.ofInt 1)).toInt.toNat))) h)) : zqm 159 [.ref 58, .int a1] h Q := by
  refine zqm_of zp_159 (fun n => ?_)
  show zQ n 159 0 [some (.ref 58), some (.int a1)] [] h Q
  refine zQ_seq 9 (pc' := 12) (L' := [some (.ref 58), some (.int a1)]) (S' := [.int (((Int32.ofInt 45) + ((Int32.ofInt 3) * a1)) + (Int32.ofInt 1)), .ref 64]) (h' := h) zp_159 rfl ?_
  refine zQ_ial (N := 62) (f := h.1 64) zp_159 rfl rfl rfl (fun b1 b1' => ?_)
  exact zQ_retI zp_159 rfl (H b1 b1')
theorem s_160 {h : zH} {Q : Option Value → zH → Prop} (a1 : Int32) (H : (0 ≤ (((Int32.ofInt 45) + ((Int32.ofInt 3) * a1)) + (Int32.ofInt 2)).toInt → (((Int32.ofInt 45) + ((Int32.ofInt 3) * a1)) + (Int32.ofInt 2)).toInt < 62 → Q (some (.int (h.1 64 (((Int32.ofInt 45) + ((Int32.ofInt 3) * a1)) + (Int32.ofInt 2)).toInt.toNat))) h)) : zqm 160 [.ref 58, .int a1] h Q := by
  refine zqm_of zp_160 (fun n => ?_)
  show zQ n 160 0 [some (.ref 58), some (.int a1)] [] h Q
  refine zQ_seq 9 (pc' := 12) (L' := [some (.ref 58), some (.int a1)]) (S' := [.int (((Int32.ofInt 45) + ((Int32.ofInt 3) * a1)) + (Int32.ofInt 2)), .ref 64]) (h' := h) zp_160 rfl ?_
  refine zQ_ial (N := 62) (f := h.1 64) zp_160 rfl rfl rfl (fun b1 b1' => ?_)
  exact zQ_retI zp_160 rfl (H b1 b1')
theorem s_161 {h : zH} {Q : Option Value → zH → Prop} (a1 : Int32) (a2 : Int32) (H : (0 ≤ a1.toInt → a1.toInt < 4 → zqm 122 [.int (h.1 66 a1.toInt.toNat), .int a2] h (fun rv h2 => zri rv (fun v2 => Q (some (.int v2)) h2)))) : zqm 161 [.ref 58, .int a1, .int a2] h Q := by
  refine zqm_of zp_161 (fun n => ?_)
  show zQ n 161 0 [some (.ref 58), some (.int a1), some (.int a2)] [] h Q
  refine zQ_seq 3 (pc' := 5) (L' := [some (.ref 58), some (.int a1), some (.int a2)]) (S' := [.int a1, .ref 66]) (h' := h) zp_161 rfl ?_
  refine zQ_ial (N := 4) (f := h.1 66) zp_161 rfl rfl rfl (fun b1 b1' => ?_)
  refine zQ_seq 1 (pc' := 7) (L' := [some (.ref 58), some (.int a1), some (.int a2)]) (S' := [.int a2, .int (h.1 66 a1.toInt.toNat)]) (h' := h) zp_161 rfl ?_
  refine zQ_csI (M' := 122) (as := [.int (h.1 66 a1.toInt.toNat), .int a2]) (S' := []) zp_161 rfl rfl rfl zp_122 (Or.inr rfl) rfl rfl (zqm_imp (H b1 b1') (fun rv h2 r2 => zri_imp r2 (fun v2 r2' => ?_)))
  exact zQ_retI zp_161 rfl r2'
theorem s_162 {h : zH} {Q : Option Value → zH → Prop} (a1 : Int32) (H : (0 ≤ a1.toInt → a1.toInt < 4 → Q (some (.int (h.1 66 a1.toInt.toNat))) h)) : zqm 162 [.ref 58, .int a1] h Q := by
  refine zqm_of zp_162 (fun n => ?_)
  show zQ n 162 0 [some (.ref 58), some (.int a1)] [] h Q
  refine zQ_seq 3 (pc' := 5) (L' := [some (.ref 58), some (.int a1)]) (S' := [.int a1, .ref 66]) (h' := h) zp_162 rfl ?_
  refine zQ_ial (N := 4) (f := h.1 66) zp_162 rfl rfl rfl (fun b1 b1' => ?_)
  exact zQ_retI zp_162 rfl (H b1 b1')
theorem s_163 {h : zH} {Q : Option Value → zH → Prop} (a1 : Int32) (a2 : Int32) (H : zqm 161 [.ref 58, .int a1, .int a2] h (fun rv h1 => zri rv (fun v1 => ((¬ v1.toInt = 0 → zqm 158 [.ref 58, .int a1] h1 (fun rv h3 => zri rv (fun v3 => ((v3.toInt = 1 → zqm 160 [.ref 58, .int a1] h3 (fun rv h5 => zri rv (fun v5 => Q (some (.int v5)) h5))) ∧ ((v3.toInt = 2 → zqm 160 [.ref 58, .int a1] h3 (fun rv h6 => zri rv (fun v6 => Q (some (.int (v6 / (Int32.ofInt 2)))) h6))) ∧ ((v3.toInt = 3 → zqm 154 [.ref 58, .int a2] h3 (fun rv h7 => zri rv (fun v7 => ((v7.toInt = 0 → zqm 160 [.ref 58, .int a1] h7 (fun rv h9 => zri rv (fun v9 => Q (some (.int v9)) h9))) ∧ (¬ (v7.toInt = 0) → zqm 160 [.ref 58, .int a1] h7 (fun rv h10 => zri rv (fun v10 => Q (some (.int ((Int32.ofInt 2) * v10))) h10))))))) ∧ ((v3.toInt = 4 → Q (some (.int (Int32.ofInt 1))) h3) ∧ ((v3.toInt < 1 ∨ 4 < v3.toInt) → zqm 154 [.ref 58, .int a2] h3 (fun rv h11 => zri rv (fun v11 => ((v11.toInt = 0 → Q (some (.int (Int32.ofInt 0))) h11) ∧ (¬ (v11.toInt = 0) → Q (some (.int (Int32.ofInt 1))) h11)))))))))))) ∧ (¬ (¬ v1.toInt = 0) → Q (some (.int (Int32.ofInt 0))) h1))))) : zqm 163 [.ref 58, .int a1, .int a2] h Q := by
  refine zqm_of zp_163 (fun n => ?_)
  show zQ n 163 0 [some (.ref 58), some (.int a1), some (.int a2)] [] h Q
  refine zQ_seq 3 (pc' := 3) (L' := [some (.ref 58), some (.int a1), some (.int a2)]) (S' := [.int a2, .int a1, .ref 58]) (h' := h) zp_163 rfl ?_
  refine zQ_cvI (M' := 161) (as := [.ref 58, .int a1, .int a2]) (S' := []) zp_163 rfl rfl zp_161 (Or.inr rfl) rfl rfl (zqm_imp H (fun rv h1 r1 => zri_imp r1 (fun v1 r1' => ?_)))
  refine zQ_if zp_163 rfl (t := 11) rfl (i := v1.toInt) rfl (fun c2 => ?_) (fun c2 => ?_)
  · refine zQ_seq 2 (pc' := 13) (L' := [some (.ref 58), some (.int a1), some (.int a2)]) (S' := [.int a1, .ref 58]) (h' := h1) zp_163 rfl ?_
    refine zQ_cvI (M' := 158) (as := [.ref 58, .int a1]) (S' := []) zp_163 rfl rfl zp_158 (Or.inl rfl) rfl rfl (zqm_imp (r1'.1 c2) (fun rv h3 r3 => zri_imp r3 (fun v3 r3' => ?_)))
    refine zQ_tsw zp_163 rfl (fun t ht => ?_)
    rcases (by omega : v3.toInt = 1 ∨ v3.toInt = 2 ∨ v3.toInt = 3 ∨ v3.toInt = 4 ∨ (v3.toInt < 1 ∨ 4 < v3.toInt)) with c4 | c4 | c4 | c4 | c4
    · have e : (some 48 : Option Nat) = some t := by rw [c4] at ht; exact ht
      cases e
      refine zQ_seq 2 (pc' := 50) (L' := [some (.ref 58), some (.int a1), some (.int a2)]) (S' := [.int a1, .ref 58]) (h' := h3) zp_163 rfl ?_
      refine zQ_cvI (M' := 160) (as := [.ref 58, .int a1]) (S' := []) zp_163 rfl rfl zp_160 (Or.inl rfl) rfl rfl (zqm_imp (r3'.1 c4) (fun rv h5 r5 => zri_imp r5 (fun v5 r5' => ?_)))
      exact zQ_retI zp_163 rfl r5'
    · have e : (some 54 : Option Nat) = some t := by rw [c4] at ht; exact ht
      cases e
      refine zQ_seq 2 (pc' := 56) (L' := [some (.ref 58), some (.int a1), some (.int a2)]) (S' := [.int a1, .ref 58]) (h' := h3) zp_163 rfl ?_
      refine zQ_cvI (M' := 160) (as := [.ref 58, .int a1]) (S' := []) zp_163 rfl rfl zp_160 (Or.inl rfl) rfl rfl (zqm_imp (r3'.2.1 c4) (fun rv h6 r6 => zri_imp r6 (fun v6 r6' => ?_)))
      refine zQ_seq 1 (pc' := 60) (L' := [some (.ref 58), some (.int a1), some (.int a2)]) (S' := [.int (Int32.ofInt 2), .int v6]) (h' := h6) zp_163 rfl ?_
      refine zQ_div zp_163 rfl (fun _ => ?_)
      exact zQ_retI zp_163 rfl r6'
    · have e : (some 62 : Option Nat) = some t := by rw [c4] at ht; exact ht
      cases e
      refine zQ_seq 2 (pc' := 64) (L' := [some (.ref 58), some (.int a1), some (.int a2)]) (S' := [.int a2, .ref 58]) (h' := h3) zp_163 rfl ?_
      refine zQ_cvI (M' := 154) (as := [.ref 58, .int a2]) (S' := []) zp_163 rfl rfl zp_154 (Or.inr rfl) rfl rfl (zqm_imp (r3'.2.2.1 c4) (fun rv h7 r7 => zri_imp r7 (fun v7 r7' => ?_)))
      refine zQ_if zp_163 rfl (t := 80) rfl (i := v7.toInt) rfl (fun c8 => ?_) (fun c8 => ?_)
      · refine zQ_seq 2 (pc' := 82) (L' := [some (.ref 58), some (.int a1), some (.int a2)]) (S' := [.int a1, .ref 58]) (h' := h7) zp_163 rfl ?_
        refine zQ_cvI (M' := 160) (as := [.ref 58, .int a1]) (S' := []) zp_163 rfl rfl zp_160 (Or.inl rfl) rfl rfl (zqm_imp (r7'.1 c8) (fun rv h9 r9 => zri_imp r9 (fun v9 r9' => ?_)))
        exact zQ_retI zp_163 rfl r9'
      · refine zQ_seq 3 (pc' := 73) (L' := [some (.ref 58), some (.int a1), some (.int a2)]) (S' := [.int a1, .ref 58, .int (Int32.ofInt 2)]) (h' := h7) zp_163 rfl ?_
        refine zQ_cvI (M' := 160) (as := [.ref 58, .int a1]) (S' := [.int (Int32.ofInt 2)]) zp_163 rfl rfl zp_160 (Or.inl rfl) rfl rfl (zqm_imp (r7'.2 c8) (fun rv h10 r10 => zri_imp r10 (fun v10 r10' => ?_)))
        refine zQ_seq 1 (pc' := 77) (L' := [some (.ref 58), some (.int a1), some (.int a2)]) (S' := [.int ((Int32.ofInt 2) * v10)]) (h' := h10) zp_163 rfl ?_
        refine zQ_goto zp_163 rfl (t := 85) rfl ?_
        exact zQ_retI zp_163 rfl r10'
    · have e : (some 86 : Option Nat) = some t := by rw [c4] at ht; exact ht
      cases e
      refine zQ_seq 1 (pc' := 87) (L' := [some (.ref 58), some (.int a1), some (.int a2)]) (S' := [.int (Int32.ofInt 1)]) (h' := h3) zp_163 rfl ?_
      exact zQ_retI zp_163 rfl (r3'.2.2.2.1 c4)
    · have e : (some 88 : Option Nat) = some t := by rw [zTsw_d (t' := 88) rfl c4 ht]
      cases e
      refine zQ_seq 2 (pc' := 90) (L' := [some (.ref 58), some (.int a1), some (.int a2)]) (S' := [.int a2, .ref 58]) (h' := h3) zp_163 rfl ?_
      refine zQ_cvI (M' := 154) (as := [.ref 58, .int a2]) (S' := []) zp_163 rfl rfl zp_154 (Or.inr rfl) rfl rfl (zqm_imp (r3'.2.2.2.2 c4) (fun rv h11 r11 => zri_imp r11 (fun v11 r11' => ?_)))
      refine zQ_if zp_163 rfl (t := 100) rfl (i := v11.toInt) rfl (fun c12 => ?_) (fun c12 => ?_)
      · refine zQ_seq 1 (pc' := 101) (L' := [some (.ref 58), some (.int a1), some (.int a2)]) (S' := [.int (Int32.ofInt 0)]) (h' := h11) zp_163 rfl ?_
        exact zQ_retI zp_163 rfl (r11'.1 c12)
      · refine zQ_seq 1 (pc' := 97) (L' := [some (.ref 58), some (.int a1), some (.int a2)]) (S' := [.int (Int32.ofInt 1)]) (h' := h11) zp_163 rfl ?_
        refine zQ_goto zp_163 rfl (t := 101) rfl ?_
        exact zQ_retI zp_163 rfl (r11'.2 c12)
  · refine zQ_seq 1 (pc' := 10) (L' := [some (.ref 58), some (.int a1), some (.int a2)]) (S' := [.int (Int32.ofInt 0)]) (h' := h1) zp_163 rfl ?_
    exact zQ_retI zp_163 rfl (r1'.2 c2)
theorem s_164 {h : zH} {Q : Option Value → zH → Prop} (a1 : Int32) (a2 : Int32) (H : (∀ n, zQ n 164 5 [some (.ref 58), some (.int a1), some (.int a2), some (.int (Int32.ofInt 0)), some (.int (Int32.ofInt 0))] [] h Q)) : zqm 164 [.ref 58, .int a1, .int a2] h Q := by
  refine zqm_of zp_164 (fun n => ?_)
  have H := H n
  show zQ n 164 0 [some (.ref 58), some (.int a1), some (.int a2), none, none] [] h Q
  refine zQ_seq 4 (pc' := 5) (L' := [some (.ref 58), some (.int a1), some (.int a2), some (.int (Int32.ofInt 0)), some (.int (Int32.ofInt 0))]) (S' := []) (h' := h) zp_164 rfl ?_
  exact H
theorem s_164_5 {n : Nat} {h : zH} {Q : Option Value → zH → Prop} (x1 : Int32) (x2 : Int32) (x3 : Int32) (x4 : Int32) (H : (((15 : Int) ≤ x4.toInt → Q (some (.int x3)) h) ∧ (¬ ((15 : Int) ≤ x4.toInt) → zqm 122 [.int x2, .int x4] h (fun rv h2 => zri rv (fun v2 => ((v2.toInt = 0 → zQ n 164 5 [some (.ref 58), some (.int x1), some (.int x2), some (.int (x3 + (Int32.ofInt 0))), some (.int (x4 + Int32.ofInt 1))] [] h2 Q) ∧ (¬ (v2.toInt = 0) → zqm 163 [.ref 58, .int x1, .int x4] h2 (fun rv h4 => zri rv (fun v4 => zQ n 164 5 [some (.ref 58), some (.int x1), some (.int x2), some (.int (x3 + v4)), some (.int (x4 + Int32.ofInt 1))] [] h4 Q))))))))) : zQ (n + 1) 164 5 [some (.ref 58), some (.int x1), some (.int x2), some (.int x3), some (.int x4)] [] h Q := by
  refine zQ_seqL 1 (pc' := 9) (L' := [some (.ref 58), some (.int x1), some (.int x2), some (.int x3), some (.int x4)]) (S' := [.int (Int32.ofInt 15), .int x4]) (h' := h) zp_164 rfl ?_
  refine zQ_ic zp_164 rfl (t := 41) rfl (i := x4.toInt) (j := (15 : Int)) rfl kc_15 (fun c1 => ?_) (fun c1 => ?_)
  · refine zQ_seq 1 (pc' := 42) (L' := [some (.ref 58), some (.int x1), some (.int x2), some (.int x3), some (.int x4)]) (S' := [.int x3]) (h' := h) zp_164 rfl ?_
    exact zQ_retI zp_164 rfl (H.1 c1)
  · refine zQ_seq 3 (pc' := 16) (L' := [some (.ref 58), some (.int x1), some (.int x2), some (.int x3), some (.int x4)]) (S' := [.int x4, .int x2, .int x3]) (h' := h) zp_164 rfl ?_
    refine zQ_csI (M' := 122) (as := [.int x2, .int x4]) (S' := [.int x3]) zp_164 rfl rfl rfl zp_122 (Or.inr rfl) rfl rfl (zqm_imp (H.2 c1) (fun rv h2 r2 => zri_imp r2 (fun v2 r2' => ?_)))
    refine zQ_if zp_164 rfl (t := 32) rfl (i := v2.toInt) rfl (fun c3 => ?_) (fun c3 => ?_)
    · refine zQ_seq 4 (pc' := 38) (L' := [some (.ref 58), some (.int x1), some (.int x2), some (.int (x3 + (Int32.ofInt 0))), some (.int (x4 + Int32.ofInt 1))]) (S' := []) (h' := h2) zp_164 rfl ?_
      refine zQ_goto zp_164 rfl (t := 5) rfl ?_
      exact (r2'.1 c3)
    · refine zQ_seq 3 (pc' := 26) (L' := [some (.ref 58), some (.int x1), some (.int x2), some (.int x3), some (.int x4)]) (S' := [.int x4, .int x1, .ref 58, .int x3]) (h' := h2) zp_164 rfl ?_
      refine zQ_cvI (M' := 163) (as := [.ref 58, .int x1, .int x4]) (S' := [.int x3]) zp_164 rfl rfl zp_163 (Or.inl rfl) rfl rfl (zqm_imp (r2'.2 c3) (fun rv h4 r4 => zri_imp r4 (fun v4 r4' => ?_)))
      refine zQ_goto zp_164 rfl (t := 33) rfl ?_
      refine zQ_seq 3 (pc' := 38) (L' := [some (.ref 58), some (.int x1), some (.int x2), some (.int (x3 + v4)), some (.int (x4 + Int32.ofInt 1))]) (S' := []) (h' := h4) zp_164 rfl ?_
      refine zQ_goto zp_164 rfl (t := 5) rfl ?_
      exact r4'
theorem s_165 {h : zH} {Q : Option Value → zH → Prop} (a1 : Int32) (H : zqm 156 [.ref 58, .ref 64] h (fun rv h1 => zri rv (fun v1 => zqm 164 [.ref 58, .int a1, .int v1] h1 (fun rv h2 => zri rv (fun v2 => Q (some (.int v2)) h2))))) : zqm 165 [.ref 58, .int a1] h Q := by
  refine zqm_of zp_165 (fun n => ?_)
  show zQ n 165 0 [some (.ref 58), some (.int a1)] [] h Q
  refine zQ_seq 5 (pc' := 7) (L' := [some (.ref 58), some (.int a1)]) (S' := [.ref 64, .ref 58, .int a1, .ref 58]) (h' := h) zp_165 rfl ?_
  refine zQ_cvI (M' := 156) (as := [.ref 58, .ref 64]) (S' := [.int a1, .ref 58]) zp_165 rfl rfl zp_156 (Or.inl rfl) rfl rfl (zqm_imp H (fun rv h1 r1 => zri_imp r1 (fun v1 r1' => ?_)))
  refine zQ_cvI (M' := 164) (as := [.ref 58, .int a1, .int v1]) (S' := []) zp_165 rfl rfl zp_164 (Or.inl rfl) rfl rfl (zqm_imp r1' (fun rv h2 r2 => zri_imp r2 (fun v2 r2' => ?_)))
  exact zQ_retI zp_165 rfl r2'

/-! segments: the reference -/
theorem s_121 {h : zH} {Q : Option Value → zH → Prop} (a0 : Int32) (a1 : Int32) (a2 : Int32) (H : ((a0.toInt < a1.toInt → Q (some (.int (Int32.ofInt 0))) h) ∧ (¬ (a0.toInt < a1.toInt) → ((a2.toInt < a0.toInt → Q (some (.int (Int32.ofInt 0))) h) ∧ (¬ (a2.toInt < a0.toInt) → Q (some (.int (Int32.ofInt 1))) h))))) : zqm 121 [.int a0, .int a1, .int a2] h Q := by
  refine zqm_of zp_121 (fun n => ?_)
  show zQ n 121 0 [some (.int a0), some (.int a1), some (.int a2)] [] h Q
  refine zQ_seq 2 (pc' := 2) (L' := [some (.int a0), some (.int a1), some (.int a2)]) (S' := [.int a1, .int a0]) (h' := h) zp_121 rfl ?_
  refine zQ_ic zp_121 rfl (t := 14) rfl (i := a0.toInt) (j := a1.toInt) rfl rfl (fun c1 => ?_) (fun c1 => ?_)
  · refine zQ_seq 1 (pc' := 15) (L' := [some (.int a0), some (.int a1), some (.int a2)]) (S' := [.int (Int32.ofInt 0)]) (h' := h) zp_121 rfl ?_
    exact zQ_retI zp_121 rfl (H.1 c1)
  · refine zQ_seq 2 (pc' := 7) (L' := [some (.int a0), some (.int a1), some (.int a2)]) (S' := [.int a2, .int a0]) (h' := h) zp_121 rfl ?_
    refine zQ_ic zp_121 rfl (t := 14) rfl (i := a0.toInt) (j := a2.toInt) rfl rfl (fun c2 => ?_) (fun c2 => ?_)
    · refine zQ_seq 1 (pc' := 15) (L' := [some (.int a0), some (.int a1), some (.int a2)]) (S' := [.int (Int32.ofInt 0)]) (h' := h) zp_121 rfl ?_
      exact zQ_retI zp_121 rfl ((H.2 c1).1 c2)
    · refine zQ_seq 1 (pc' := 11) (L' := [some (.int a0), some (.int a1), some (.int a2)]) (S' := [.int (Int32.ofInt 1)]) (h' := h) zp_121 rfl ?_
      refine zQ_goto zp_121 rfl (t := 15) rfl ?_
      exact zQ_retI zp_121 rfl ((H.2 c1).2 c2)
theorem s_125 {h : zH} {Q : Option Value → zH → Prop} (a1 : Int32) (H : Q (some (.int ((-1000010 : Int32) - a1))) (zSet h 58 3 a1)) : zqm 125 [.ref 58, .int a1] h Q := by
  refine zqm_of zp_125 (fun n => ?_)
  show zQ n 125 0 [some (.ref 58), some (.int a1)] [] h Q
  refine zQ_seq 6 (pc' := 9) (L' := [some (.ref 58), some (.int a1)]) (S' := [.int ((-1000010 : Int32) - a1)]) (h' := (zSet h 58 3 a1)) zp_125 rfl ?_
  exact zQ_retI zp_125 rfl H
theorem s_126 {h : zH} {Q : Option Value → zH → Prop} (a1 : Int32) (H : Q (some (.int a1)) (zSet h 58 3 (Int32.ofInt 0))) : zqm 126 [.ref 58, .int a1] h Q := by
  refine zqm_of zp_126 (fun n => ?_)
  show zQ n 126 0 [some (.ref 58), some (.int a1)] [] h Q
  refine zQ_seq 4 (pc' := 6) (L' := [some (.ref 58), some (.int a1)]) (S' := [.int a1]) (h' := (zSet h 58 3 (Int32.ofInt 0))) zp_126 rfl ?_
  exact zQ_retI zp_126 rfl H
theorem s_128 {h : zH} {Q : Option Value → zH → Prop} (a0 : Int32) (H : zqm 121 [.int a0, .int (Int32.ofInt 0), .int (Int32.ofInt 7)] h (fun rv h1 => zri rv (fun v1 => Q (some (.int v1)) h1))) : zqm 128 [.int a0] h Q := by
  refine zqm_of zp_128 (fun n => ?_)
  show zQ n 128 0 [some (.int a0)] [] h Q
  refine zQ_seq 3 (pc' := 4) (L' := [some (.int a0)]) (S' := [.int (Int32.ofInt 7), .int (Int32.ofInt 0), .int a0]) (h' := h) zp_128 rfl ?_
  refine zQ_csI (M' := 121) (as := [.int a0, .int (Int32.ofInt 0), .int (Int32.ofInt 7)]) (S' := []) zp_128 rfl rfl rfl zp_121 (Or.inr rfl) rfl rfl (zqm_imp H (fun rv h1 r1 => zri_imp r1 (fun v1 r1' => ?_)))
  exact zQ_retI zp_128 rfl r1'
theorem s_129 {h : zH} {Q : Option Value → zH → Prop} (a1 : Int32) (H : (0 ≤ a1.toInt → a1.toInt < 8 → ((0 ≤ (h.1 59 a1.toInt.toNat).toInt → Q (some (.int (Int32.ofInt 0))) h) ∧ (¬ (0 ≤ (h.1 59 a1.toInt.toNat).toInt) → Q (some (.int (Int32.ofInt 1))) h)))) : zqm 129 [.ref 58, .int a1] h Q := by
  refine zqm_of zp_129 (fun n => ?_)
  show zQ n 129 0 [some (.ref 58), some (.int a1)] [] h Q
  refine zQ_seq 3 (pc' := 5) (L' := [some (.ref 58), some (.int a1)]) (S' := [.int a1, .ref 59]) (h' := h) zp_129 rfl ?_
  refine zQ_ial (N := 8) (f := h.1 59) zp_129 rfl rfl rfl (fun b1 b1' => ?_)
  refine zQ_if zp_129 rfl (t := 13) rfl (i := (h.1 59 a1.toInt.toNat).toInt) rfl (fun c2 => ?_) (fun c2 => ?_)
  · refine zQ_seq 1 (pc' := 14) (L' := [some (.ref 58), some (.int a1)]) (S' := [.int (Int32.ofInt 0)]) (h' := h) zp_129 rfl ?_
    exact zQ_retI zp_129 rfl ((H b1 b1').1 c2)
  · refine zQ_seq 1 (pc' := 10) (L' := [some (.ref 58), some (.int a1)]) (S' := [.int (Int32.ofInt 1)]) (h' := h) zp_129 rfl ?_
    refine zQ_goto zp_129 rfl (t := 14) rfl ?_
    exact zQ_retI zp_129 rfl ((H b1 b1').2 c2)
theorem s_130 {h : zH} {Q : Option Value → zH → Prop} (a1 : Int32) (a2 : Int32) (a3 : Int32) (H : (∀ n, zqm 128 [.int a1] h (fun rv h1 => zri rv (fun v1 => ((v1.toInt = 0 → Q (some (.int (-1000001 : Int32))) h1) ∧ (¬ (v1.toInt = 0) → zqm 121 [.int a2, .int (Int32.ofInt 0), .int (Int32.ofInt 2)] h1 (fun rv h3 => zri rv (fun v3 => ((v3.toInt = 0 → Q (some (.int (-1000001 : Int32))) h3) ∧ (¬ (v3.toInt = 0) → ((a3.toInt ≤ (40 : Int) → ((0 ≤ a3.toInt → (0 ≤ a1.toInt → a1.toInt < 8 → (0 ≤ a1.toInt → a1.toInt < 8 → zQ n 130 52 [some (.ref 58), some (.int a1), some (.int a2), some (.int a3), some (.int (Int32.ofInt 0))] [] (zSet (zSet h3 59 a1.toInt.toNat a2) 60 a1.toInt.toNat a3) Q))) ∧ (¬ (0 ≤ a3.toInt) → zqm 125 [.ref 58, .int (Int32.ofInt 4)] h3 (fun rv h9 => zri rv (fun v9 => Q (some (.int v9)) h9))))) ∧ (¬ (a3.toInt ≤ (40 : Int)) → Q (some (.int (-1000001 : Int32))) h3)))))))))))) : zqm 130 [.ref 58, .int a1, .int a2, .int a3] h Q := by
  refine zqm_of zp_130 (fun n => ?_)
  have H := H n
  show zQ n 130 0 [some (.ref 58), some (.int a1), some (.int a2), some (.int a3), none] [] h Q
  refine zQ_seq 1 (pc' := 1) (L' := [some (.ref 58), some (.int a1), some (.int a2), some (.int a3), none]) (S' := [.int a1]) (h' := h) zp_130 rfl ?_
  refine zQ_csI (M' := 128) (as := [.int a1]) (S' := []) zp_130 rfl rfl rfl zp_128 (Or.inr rfl) rfl rfl (zqm_imp H (fun rv h1 r1 => zri_imp r1 (fun v1 r1' => ?_)))
  refine zQ_if zp_130 rfl (t := 22) rfl (i := v1.toInt) rfl (fun c2 => ?_) (fun c2 => ?_)
  · refine zQ_seq 1 (pc' := 24) (L' := [some (.ref 58), some (.int a1), some (.int a2), some (.int a3), none]) (S' := [.int (-1000001 : Int32)]) (h' := h1) zp_130 rfl ?_
    exact zQ_retI zp_130 rfl (r1'.1 c2)
  · refine zQ_seq 3 (pc' := 10) (L' := [some (.ref 58), some (.int a1), some (.int a2), some (.int a3), none]) (S' := [.int (Int32.ofInt 2), .int (Int32.ofInt 0), .int a2]) (h' := h1) zp_130 rfl ?_
    refine zQ_csI (M' := 121) (as := [.int a2, .int (Int32.ofInt 0), .int (Int32.ofInt 2)]) (S' := []) zp_130 rfl rfl rfl zp_121 (Or.inr rfl) rfl rfl (zqm_imp (r1'.2 c2) (fun rv h3 r3 => zri_imp r3 (fun v3 r3' => ?_)))
    refine zQ_if zp_130 rfl (t := 22) rfl (i := v3.toInt) rfl (fun c4 => ?_) (fun c4 => ?_)
    · refine zQ_seq 1 (pc' := 24) (L' := [some (.ref 58), some (.int a1), some (.int a2), some (.int a3), none]) (S' := [.int (-1000001 : Int32)]) (h' := h3) zp_130 rfl ?_
      exact zQ_retI zp_130 rfl (r3'.1 c4)
    · refine zQ_seq 2 (pc' := 19) (L' := [some (.ref 58), some (.int a1), some (.int a2), some (.int a3), none]) (S' := [.int (Int32.ofInt 40), .int a3]) (h' := h3) zp_130 rfl ?_
      refine zQ_ic zp_130 rfl (t := 25) rfl (i := a3.toInt) (j := (40 : Int)) rfl kc_40 (fun c5 => ?_) (fun c5 => ?_)
      · refine zQ_seq 1 (pc' := 26) (L' := [some (.ref 58), some (.int a1), some (.int a2), some (.int a3), none]) (S' := [.int a3]) (h' := h3) zp_130 rfl ?_
        refine zQ_if zp_130 rfl (t := 35) rfl (i := a3.toInt) rfl (fun c6 => ?_) (fun c6 => ?_)
        · refine zQ_seq 4 (pc' := 41) (L' := [some (.ref 58), some (.int a1), some (.int a2), some (.int a3), none]) (S' := [.int a2, .int a1, .ref 59]) (h' := h3) zp_130 rfl ?_
          refine zQ_ias (N := 8) zp_130 rfl rfl rfl (fun b7 b7' => ?_)
          refine zQ_seq 4 (pc' := 48) (L' := [some (.ref 58), some (.int a1), some (.int a2), some (.int a3), none]) (S' := [.int a3, .int a1, .ref 60]) (h' := (zSet h3 59 a1.toInt.toNat a2)) zp_130 rfl ?_
          refine zQ_ias (N := 8) zp_130 rfl rfl rfl (fun b8 b8' => ?_)
          refine zQ_seq 2 (pc' := 52) (L' := [some (.ref 58), some (.int a1), some (.int a2), some (.int a3), some (.int (Int32.ofInt 0))]) (S' := []) (h' := (zSet (zSet h3 59 a1.toInt.toNat a2) 60 a1.toInt.toNat a3)) zp_130 rfl ?_
          exact (((((r3'.2 c4).1 c5).1 c6) b7 b7') b8 b8')
        · refine zQ_seq 2 (pc' := 31) (L' := [some (.ref 58), some (.int a1), some (.int a2), some (.int a3), none]) (S' := [.int (Int32.ofInt 4), .ref 58]) (h' := h3) zp_130 rfl ?_
          refine zQ_cvI (M' := 125) (as := [.ref 58, .int (Int32.ofInt 4)]) (S' := []) zp_130 rfl rfl zp_125 (Or.inl rfl) rfl rfl (zqm_imp (((r3'.2 c4).1 c5).2 c6) (fun rv h9 r9 => zri_imp r9 (fun v9 r9' => ?_)))
          exact zQ_retI zp_130 rfl r9'
      · refine zQ_seq 1 (pc' := 24) (L' := [some (.ref 58), some (.int a1), some (.int a2), some (.int a3), none]) (S' := [.int (-1000001 : Int32)]) (h' := h3) zp_130 rfl ?_
        exact zQ_retI zp_130 rfl ((r3'.2 c4).2 c5)
theorem s_130_52 {n : Nat} {h : zH} {Q : Option Value → zH → Prop} (x1 : Int32) (x2 : Int32) (x3 : Int32) (x4 : Int32) (H : (((40 : Int) ≤ x4.toInt → zqm 126 [.ref 58, .int x3] h (fun rv h2 => zri rv (fun v2 => Q (some (.int v2)) h2))) ∧ (¬ ((40 : Int) ≤ x4.toInt) → (0 ≤ (((Int32.ofInt 40) * x1) + x4).toInt → (((Int32.ofInt 40) * x1) + x4).toInt < 320 → zQ n 130 52 [some (.ref 58), some (.int x1), some (.int x2), some (.int x3), some (.int (x4 + Int32.ofInt 1))] [] (zSet h 61 (((Int32.ofInt 40) * x1) + x4).toInt.toNat (Int32.ofInt 0)) Q)))) : zQ (n + 1) 130 52 [some (.ref 58), some (.int x1), some (.int x2), some (.int x3), some (.int x4)] [] h Q := by
  refine zQ_seqL 1 (pc' := 56) (L' := [some (.ref 58), some (.int x1), some (.int x2), some (.int x3), some (.int x4)]) (S' := [.int (Int32.ofInt 40), .int x4]) (h' := h) zp_130 rfl ?_
  refine zQ_ic zp_130 rfl (t := 78) rfl (i := x4.toInt) (j := (40 : Int)) rfl kc_40 (fun c1 => ?_) (fun c1 => ?_)
  · refine zQ_seq 2 (pc' := 80) (L' := [some (.ref 58), some (.int x1), some (.int x2), some (.int x3), some (.int x4)]) (S' := [.int x3, .ref 58]) (h' := h) zp_130 rfl ?_
    refine zQ_cvI (M' := 126) (as := [.ref 58, .int x3]) (S' := []) zp_130 rfl rfl zp_126 (Or.inl rfl) rfl rfl (zqm_imp (H.1 c1) (fun rv h2 r2 => zri_imp r2 (fun v2 r2' => ?_)))
    exact zQ_retI zp_130 rfl r2'
  · refine zQ_seq 8 (pc' := 71) (L' := [some (.ref 58), some (.int x1), some (.int x2), some (.int x3), some (.int x4)]) (S' := [.int (Int32.ofInt 0), .int (((Int32.ofInt 40) * x1) + x4), .ref 61]) (h' := h) zp_130 rfl ?_
    refine zQ_ias (N := 320) zp_130 rfl rfl rfl (fun b3 b3' => ?_)
    refine zQ_seq 1 (pc' := 75) (L' := [some (.ref 58), some (.int x1), some (.int x2), some (.int x3), some (.int (x4 + Int32.ofInt 1))]) (S' := []) (h' := (zSet h 61 (((Int32.ofInt 40) * x1) + x4).toInt.toNat (Int32.ofInt 0))) zp_130 rfl ?_
    refine zQ_goto zp_130 rfl (t := 52) rfl ?_
    exact ((H.2 c1) b3 b3')
theorem s_131 {h : zH} {Q : Option Value → zH → Prop} (a1 : Int32) (a2 : Int32) (a3 : Int32) (H : zqm 128 [.int a1] h (fun rv h1 => zri rv (fun v1 => ((¬ v1.toInt = 0 → zqm 129 [.ref 58, .int a1] h1 (fun rv h3 => zri rv (fun v3 => ((v3.toInt = 0 → (0 ≤ a1.toInt → a1.toInt < 8 → zqm 121 [.int a2, .int (Int32.ofInt 0), .int ((h3.1 60 a1.toInt.toNat) - (Int32.ofInt 1))] h3 (fun rv h6 => zri rv (fun v6 => ((¬ v6.toInt = 0 → (0 ≤ a1.toInt → a1.toInt < 8 → ((¬ (h6.1 59 a1.toInt.toNat).toInt = 0 → (0 ≤ a1.toInt → a1.toInt < 8 → ((¬ (h6.1 59 a1.toInt.toNat).toInt = (1 : Int) → (0 ≤ (((Int32.ofInt 40) * a1) + a2).toInt → (((Int32.ofInt 40) * a1) + a2).toInt < 320 → zqm 126 [.ref 58, .int a3] (zSet h6 61 (((Int32.ofInt 40) * a1) + a2).toInt.toNat a3) (fun rv h13 => zri rv (fun v13 => Q (some (.int v13)) h13)))) ∧ (¬ (¬ (h6.1 59 a1.toInt.toNat).toInt = (1 : Int)) → (0 ≤ (((Int32.ofInt 40) * a1) + a2).toInt → (((Int32.ofInt 40) * a1) + a2).toInt < 320 → zqm 126 [.ref 58, .int (a3.toInt16.toInt32)] (zSet h6 61 (((Int32.ofInt 40) * a1) + a2).toInt.toNat (a3.toInt16.toInt32)) (fun rv h15 => zri rv (fun v15 => Q (some (.int v15)) h15))))))) ∧ (¬ (¬ (h6.1 59 a1.toInt.toNat).toInt = 0) → (0 ≤ (((Int32.ofInt 40) * a1) + a2).toInt → (((Int32.ofInt 40) * a1) + a2).toInt < 320 → zqm 126 [.ref 58, .int (a3.toInt8.toInt32)] (zSet h6 61 (((Int32.ofInt 40) * a1) + a2).toInt.toNat (a3.toInt8.toInt32)) (fun rv h17 => zri rv (fun v17 => Q (some (.int v17)) h17))))))) ∧ (¬ (¬ v6.toInt = 0) → zqm 125 [.ref 58, .int (Int32.ofInt 2)] h6 (fun rv h18 => zri rv (fun v18 => Q (some (.int v18)) h18)))))))) ∧ (¬ (v3.toInt = 0) → zqm 125 [.ref 58, .int (Int32.ofInt 1)] h3 (fun rv h19 => zri rv (fun v19 => Q (some (.int v19)) h19))))))) ∧ (¬ (¬ v1.toInt = 0) → Q (some (.int (-1000001 : Int32))) h1))))) : zqm 131 [.ref 58, .int a1, .int a2, .int a3] h Q := by
  refine zqm_of zp_131 (fun n => ?_)
  show zQ n 131 0 [some (.ref 58), some (.int a1), some (.int a2), some (.int a3), none] [] h Q
  refine zQ_seq 1 (pc' := 1) (L' := [some (.ref 58), some (.int a1), some (.int a2), some (.int a3), none]) (S' := [.int a1]) (h' := h) zp_131 rfl ?_
  refine zQ_csI (M' := 128) (as := [.int a1]) (S' := []) zp_131 rfl rfl rfl zp_128 (Or.inr rfl) rfl rfl (zqm_imp H (fun rv h1 r1 => zri_imp r1 (fun v1 r1' => ?_)))
  refine zQ_if zp_131 rfl (t := 10) rfl (i := v1.toInt) rfl (fun c2 => ?_) (fun c2 => ?_)
  · refine zQ_seq 2 (pc' := 12) (L' := [some (.ref 58), some (.int a1), some (.int a2), some (.int a3), none]) (S' := [.int a1, .ref 58]) (h' := h1) zp_131 rfl ?_
    refine zQ_cvI (M' := 129) (as := [.ref 58, .int a1]) (S' := []) zp_131 rfl rfl zp_129 (Or.inr rfl) rfl rfl (zqm_imp (r1'.1 c2) (fun rv h3 r3 => zri_imp r3 (fun v3 r3' => ?_)))
    refine zQ_if zp_131 rfl (t := 24) rfl (i := v3.toInt) rfl (fun c4 => ?_) (fun c4 => ?_)
    · refine zQ_seq 5 (pc' := 31) (L' := [some (.ref 58), some (.int a1), some (.int a2), some (.int a3), none]) (S' := [.int a1, .ref 60, .int (Int32.ofInt 0), .int a2]) (h' := h3) zp_131 rfl ?_
      refine zQ_ial (N := 8) (f := h3.1 60) zp_131 rfl rfl rfl (fun b5 b5' => ?_)
      refine zQ_seq 2 (pc' := 34) (L' := [some (.ref 58), some (.int a1), some (.int a2), some (.int a3), none]) (S' := [.int ((h3.1 60 a1.toInt.toNat) - (Int32.ofInt 1)), .int (Int32.ofInt 0), .int a2]) (h' := h3) zp_131 rfl ?_
      refine zQ_csI (M' := 121) (as := [.int a2, .int (Int32.ofInt 0), .int ((h3.1 60 a1.toInt.toNat) - (Int32.ofInt 1))]) (S' := []) zp_131 rfl rfl rfl zp_121 (Or.inr rfl) rfl rfl (zqm_imp ((r3'.1 c4) b5 b5') (fun rv h6 r6 => zri_imp r6 (fun v6 r6' => ?_)))
      refine zQ_if zp_131 rfl (t := 46) rfl (i := v6.toInt) rfl (fun c7 => ?_) (fun c7 => ?_)
      · refine zQ_seq 3 (pc' := 51) (L' := [some (.ref 58), some (.int a1), some (.int a2), some (.int a3), none]) (S' := [.int a1, .ref 59]) (h' := h6) zp_131 rfl ?_
        refine zQ_ial (N := 8) (f := h6.1 59) zp_131 rfl rfl rfl (fun b8 b8' => ?_)
        refine zQ_if zp_131 rfl (t := 60) rfl (i := (h6.1 59 a1.toInt.toNat).toInt) rfl (fun c9 => ?_) (fun c9 => ?_)
        · refine zQ_seq 3 (pc' := 65) (L' := [some (.ref 58), some (.int a1), some (.int a2), some (.int a3), none]) (S' := [.int a1, .ref 59]) (h' := h6) zp_131 rfl ?_
          refine zQ_ial (N := 8) (f := h6.1 59) zp_131 rfl rfl rfl (fun b10 b10' => ?_)
          refine zQ_seq 1 (pc' := 67) (L' := [some (.ref 58), some (.int a1), some (.int a2), some (.int a3), none]) (S' := [.int (Int32.ofInt 1), .int (h6.1 59 a1.toInt.toNat)]) (h' := h6) zp_131 rfl ?_
          refine zQ_ic zp_131 rfl (t := 75) rfl (i := (h6.1 59 a1.toInt.toNat).toInt) (j := (1 : Int)) rfl kc_1 (fun c11 => ?_) (fun c11 => ?_)
          · refine zQ_seq 10 (pc' := 90) (L' := [some (.ref 58), some (.int a1), some (.int a2), some (.int a3), some (.int a3)]) (S' := [.int a3, .int (((Int32.ofInt 40) * a1) + a2), .ref 61]) (h' := h6) zp_131 rfl ?_
            refine zQ_ias (N := 320) zp_131 rfl rfl rfl (fun b12 b12' => ?_)
            refine zQ_seq 2 (pc' := 94) (L' := [some (.ref 58), some (.int a1), some (.int a2), some (.int a3), some (.int a3)]) (S' := [.int a3, .ref 58]) (h' := (zSet h6 61 (((Int32.ofInt 40) * a1) + a2).toInt.toNat a3)) zp_131 rfl ?_
            refine zQ_cvI (M' := 126) (as := [.ref 58, .int a3]) (S' := []) zp_131 rfl rfl zp_126 (Or.inl rfl) rfl rfl (zqm_imp ((((((r6'.1 c7) b8 b8').1 c9) b10 b10').1 c11) b12 b12') (fun rv h13 r13 => zri_imp r13 (fun v13 r13' => ?_)))
            exact zQ_retI zp_131 rfl r13'
          · refine zQ_seq 2 (pc' := 72) (L' := [some (.ref 58), some (.int a1), some (.int a2), some (.int a3), none]) (S' := [.int (a3.toInt16.toInt32)]) (h' := h6) zp_131 rfl ?_
            refine zQ_goto zp_131 rfl (t := 76) rfl ?_
            refine zQ_seq 9 (pc' := 90) (L' := [some (.ref 58), some (.int a1), some (.int a2), some (.int a3), some (.int (a3.toInt16.toInt32))]) (S' := [.int (a3.toInt16.toInt32), .int (((Int32.ofInt 40) * a1) + a2), .ref 61]) (h' := h6) zp_131 rfl ?_
            refine zQ_ias (N := 320) zp_131 rfl rfl rfl (fun b14 b14' => ?_)
            refine zQ_seq 2 (pc' := 94) (L' := [some (.ref 58), some (.int a1), some (.int a2), some (.int a3), some (.int (a3.toInt16.toInt32))]) (S' := [.int (a3.toInt16.toInt32), .ref 58]) (h' := (zSet h6 61 (((Int32.ofInt 40) * a1) + a2).toInt.toNat (a3.toInt16.toInt32))) zp_131 rfl ?_
            refine zQ_cvI (M' := 126) (as := [.ref 58, .int (a3.toInt16.toInt32)]) (S' := []) zp_131 rfl rfl zp_126 (Or.inl rfl) rfl rfl (zqm_imp ((((((r6'.1 c7) b8 b8').1 c9) b10 b10').2 c11) b14 b14') (fun rv h15 r15 => zri_imp r15 (fun v15 r15' => ?_)))
            exact zQ_retI zp_131 rfl r15'
        · refine zQ_seq 2 (pc' := 57) (L' := [some (.ref 58), some (.int a1), some (.int a2), some (.int a3), none]) (S' := [.int (a3.toInt8.toInt32)]) (h' := h6) zp_131 rfl ?_
          refine zQ_goto zp_131 rfl (t := 76) rfl ?_
          refine zQ_seq 9 (pc' := 90) (L' := [some (.ref 58), some (.int a1), some (.int a2), some (.int a3), some (.int (a3.toInt8.toInt32))]) (S' := [.int (a3.toInt8.toInt32), .int (((Int32.ofInt 40) * a1) + a2), .ref 61]) (h' := h6) zp_131 rfl ?_
          refine zQ_ias (N := 320) zp_131 rfl rfl rfl (fun b16 b16' => ?_)
          refine zQ_seq 2 (pc' := 94) (L' := [some (.ref 58), some (.int a1), some (.int a2), some (.int a3), some (.int (a3.toInt8.toInt32))]) (S' := [.int (a3.toInt8.toInt32), .ref 58]) (h' := (zSet h6 61 (((Int32.ofInt 40) * a1) + a2).toInt.toNat (a3.toInt8.toInt32))) zp_131 rfl ?_
          refine zQ_cvI (M' := 126) (as := [.ref 58, .int (a3.toInt8.toInt32)]) (S' := []) zp_131 rfl rfl zp_126 (Or.inl rfl) rfl rfl (zqm_imp ((((r6'.1 c7) b8 b8').2 c9) b16 b16') (fun rv h17 r17 => zri_imp r17 (fun v17 r17' => ?_)))
          exact zQ_retI zp_131 rfl r17'
      · refine zQ_seq 2 (pc' := 42) (L' := [some (.ref 58), some (.int a1), some (.int a2), some (.int a3), none]) (S' := [.int (Int32.ofInt 2), .ref 58]) (h' := h6) zp_131 rfl ?_
        refine zQ_cvI (M' := 125) (as := [.ref 58, .int (Int32.ofInt 2)]) (S' := []) zp_131 rfl rfl zp_125 (Or.inl rfl) rfl rfl (zqm_imp (r6'.2 c7) (fun rv h18 r18 => zri_imp r18 (fun v18 r18' => ?_)))
        exact zQ_retI zp_131 rfl r18'
    · refine zQ_seq 2 (pc' := 20) (L' := [some (.ref 58), some (.int a1), some (.int a2), some (.int a3), none]) (S' := [.int (Int32.ofInt 1), .ref 58]) (h' := h3) zp_131 rfl ?_
      refine zQ_cvI (M' := 125) (as := [.ref 58, .int (Int32.ofInt 1)]) (S' := []) zp_131 rfl rfl zp_125 (Or.inl rfl) rfl rfl (zqm_imp (r3'.2 c4) (fun rv h19 r19 => zri_imp r19 (fun v19 r19' => ?_)))
      exact zQ_retI zp_131 rfl r19'
  · refine zQ_seq 1 (pc' := 9) (L' := [some (.ref 58), some (.int a1), some (.int a2), some (.int a3), none]) (S' := [.int (-1000001 : Int32)]) (h' := h1) zp_131 rfl ?_
    exact zQ_retI zp_131 rfl (r1'.2 c2)
theorem s_132 {h : zH} {Q : Option Value → zH → Prop} (a1 : Int32) (a2 : Int32) (a3 : Int32) (H : ((a2.toInt < 0 → Q (some (.int (Int32.ofInt 0))) h) ∧ (¬ (a2.toInt < 0) → ((a3.toInt < 0 → Q (some (.int (Int32.ofInt 0))) h) ∧ (¬ (a3.toInt < 0) → (0 ≤ a1.toInt → a1.toInt < 8 → (((h.1 60 a1.toInt.toNat).toInt < a2.toInt → Q (some (.int (Int32.ofInt 0))) h) ∧ (¬ ((h.1 60 a1.toInt.toNat).toInt < a2.toInt) → (0 ≤ a1.toInt → a1.toInt < 8 → ((((h.1 60 a1.toInt.toNat) - a2).toInt < a3.toInt → Q (some (.int (Int32.ofInt 0))) h) ∧ (¬ (((h.1 60 a1.toInt.toNat) - a2).toInt < a3.toInt) → Q (some (.int (Int32.ofInt 1))) h))))))))))) : zqm 132 [.ref 58, .int a1, .int a2, .int a3] h Q := by
  refine zqm_of zp_132 (fun n => ?_)
  show zQ n 132 0 [some (.ref 58), some (.int a1), some (.int a2), some (.int a3)] [] h Q
  refine zQ_seq 1 (pc' := 1) (L' := [some (.ref 58), some (.int a1), some (.int a2), some (.int a3)]) (S' := [.int a2]) (h' := h) zp_132 rfl ?_
  refine zQ_if zp_132 rfl (t := 34) rfl (i := a2.toInt) rfl (fun c1 => ?_) (fun c1 => ?_)
  · refine zQ_seq 1 (pc' := 35) (L' := [some (.ref 58), some (.int a1), some (.int a2), some (.int a3)]) (S' := [.int (Int32.ofInt 0)]) (h' := h) zp_132 rfl ?_
    exact zQ_retI zp_132 rfl (H.1 c1)
  · refine zQ_seq 1 (pc' := 5) (L' := [some (.ref 58), some (.int a1), some (.int a2), some (.int a3)]) (S' := [.int a3]) (h' := h) zp_132 rfl ?_
    refine zQ_if zp_132 rfl (t := 34) rfl (i := a3.toInt) rfl (fun c2 => ?_) (fun c2 => ?_)
    · refine zQ_seq 1 (pc' := 35) (L' := [some (.ref 58), some (.int a1), some (.int a2), some (.int a3)]) (S' := [.int (Int32.ofInt 0)]) (h' := h) zp_132 rfl ?_
      exact zQ_retI zp_132 rfl ((H.2 c1).1 c2)
    · refine zQ_seq 4 (pc' := 14) (L' := [some (.ref 58), some (.int a1), some (.int a2), some (.int a3)]) (S' := [.int a1, .ref 60, .int a2]) (h' := h) zp_132 rfl ?_
      refine zQ_ial (N := 8) (f := h.1 60) zp_132 rfl rfl rfl (fun b3 b3' => ?_)
      refine zQ_ic zp_132 rfl (t := 34) rfl (i := a2.toInt) (j := (h.1 60 a1.toInt.toNat).toInt) rfl rfl (fun c4 => ?_) (fun c4 => ?_)
      · refine zQ_seq 1 (pc' := 35) (L' := [some (.ref 58), some (.int a1), some (.int a2), some (.int a3)]) (S' := [.int (Int32.ofInt 0)]) (h' := h) zp_132 rfl ?_
        exact zQ_retI zp_132 rfl ((((H.2 c1).2 c2) b3 b3').1 c4)
      · refine zQ_seq 4 (pc' := 24) (L' := [some (.ref 58), some (.int a1), some (.int a2), some (.int a3)]) (S' := [.int a1, .ref 60, .int a3]) (h' := h) zp_132 rfl ?_
        refine zQ_ial (N := 8) (f := h.1 60) zp_132 rfl rfl rfl (fun b5 b5' => ?_)
        refine zQ_seq 2 (pc' := 27) (L' := [some (.ref 58), some (.int a1), some (.int a2), some (.int a3)]) (S' := [.int ((h.1 60 a1.toInt.toNat) - a2), .int a3]) (h' := h) zp_132 rfl ?_
        refine zQ_ic zp_132 rfl (t := 34) rfl (i := a3.toInt) (j := ((h.1 60 a1.toInt.toNat) - a2).toInt) rfl rfl (fun c6 => ?_) (fun c6 => ?_)
        · refine zQ_seq 1 (pc' := 35) (L' := [some (.ref 58), some (.int a1), some (.int a2), some (.int a3)]) (S' := [.int (Int32.ofInt 0)]) (h' := h) zp_132 rfl ?_
          exact zQ_retI zp_132 rfl ((((((H.2 c1).2 c2) b3 b3').2 c4) b5 b5').1 c6)
        · refine zQ_seq 1 (pc' := 31) (L' := [some (.ref 58), some (.int a1), some (.int a2), some (.int a3)]) (S' := [.int (Int32.ofInt 1)]) (h' := h) zp_132 rfl ?_
          refine zQ_goto zp_132 rfl (t := 35) rfl ?_
          exact zQ_retI zp_132 rfl ((((((H.2 c1).2 c2) b3 b3').2 c4) b5 b5').2 c6)
theorem s_133 {h : zH} {Q : Option Value → zH → Prop} (a1 : Int32) (a2 : Int32) (a3 : Int32) (a4 : Int32) (a5 : Int32) (H : (∀ n, zqm 128 [.int a1] h (fun rv h1 => zri rv (fun v1 => ((v1.toInt = 0 → Q (some (.int (-1000001 : Int32))) h1) ∧ (¬ (v1.toInt = 0) → zqm 128 [.int a3] h1 (fun rv h3 => zri rv (fun v3 => ((¬ v3.toInt = 0 → zqm 129 [.ref 58, .int a1] h3 (fun rv h5 => zri rv (fun v5 => ((¬ v5.toInt = 0 → zqm 125 [.ref 58, .int (Int32.ofInt 1)] h5 (fun rv h7 => zri rv (fun v7 => Q (some (.int v7)) h7))) ∧ (¬ (¬ v5.toInt = 0) → zqm 129 [.ref 58, .int a3] h5 (fun rv h8 => zri rv (fun v8 => ((v8.toInt = 0 → (0 ≤ a1.toInt → a1.toInt < 8 → (0 ≤ a3.toInt → a3.toInt < 8 → (((h8.1 59 a1.toInt.toNat).toInt = (h8.1 59 a3.toInt.toNat).toInt → zqm 132 [.ref 58, .int a1, .int a2, .int a5] h8 (fun rv h13 => zri rv (fun v13 => ((v13.toInt = 0 → zqm 125 [.ref 58, .int (Int32.ofInt 2)] h13 (fun rv h15 => zri rv (fun v15 => Q (some (.int v15)) h15))) ∧ (¬ (v13.toInt = 0) → zqm 132 [.ref 58, .int a3, .int a4, .int a5] h13 (fun rv h16 => zri rv (fun v16 => ((¬ v16.toInt = 0 → zQ n 133 109 [some (.ref 58), some (.int a1), some (.int a2), some (.int a3), some (.int a4), some (.int a5), some (.int (((Int32.ofInt 40) * a1) + a2)), some (.int (((Int32.ofInt 40) * a3) + a4)), some (.int (Int32.ofInt 0)), none] [] h16 Q) ∧ (¬ (¬ v16.toInt = 0) → zqm 125 [.ref 58, .int (Int32.ofInt 2)] h16 (fun rv h18 => zri rv (fun v18 => Q (some (.int v18)) h18))))))))))) ∧ (¬ ((h8.1 59 a1.toInt.toNat).toInt = (h8.1 59 a3.toInt.toNat).toInt) → zqm 125 [.ref 58, .int (Int32.ofInt 5)] h8 (fun rv h19 => zri rv (fun v19 => Q (some (.int v19)) h19))))))) ∧ (¬ (v8.toInt = 0) → zqm 125 [.ref 58, .int (Int32.ofInt 1)] h8 (fun rv h20 => zri rv (fun v20 => Q (some (.int v20)) h20))))))))))) ∧ (¬ (¬ v3.toInt = 0) → Q (some (.int (-1000001 : Int32))) h3)))))))))) : zqm 133 [.ref 58, .int a1, .int a2, .int a3, .int a4, .int a5] h Q := by
  refine zqm_of zp_133 (fun n => ?_)
  have H := H n
  show zQ n 133 0 [some (.ref 58), some (.int a1), some (.int a2), some (.int a3), some (.int a4), some (.int a5), none, none, none, none] [] h Q
  refine zQ_seq 1 (pc' := 1) (L' := [some (.ref 58), some (.int a1), some (.int a2), some (.int a3), some (.int a4), some (.int a5), none, none, none, none]) (S' := [.int a1]) (h' := h) zp_133 rfl ?_
  refine zQ_csI (M' := 128) (as := [.int a1]) (S' := []) zp_133 rfl rfl rfl zp_128 (Or.inr rfl) rfl rfl (zqm_imp H (fun rv h1 r1 => zri_imp r1 (fun v1 r1' => ?_)))
  refine zQ_if zp_133 rfl (t := 14) rfl (i := v1.toInt) rfl (fun c2 => ?_) (fun c2 => ?_)
  · refine zQ_seq 1 (pc' := 16) (L' := [some (.ref 58), some (.int a1), some (.int a2), some (.int a3), some (.int a4), some (.int a5), none, none, none, none]) (S' := [.int (-1000001 : Int32)]) (h' := h1) zp_133 rfl ?_
    exact zQ_retI zp_133 rfl (r1'.1 c2)
  · refine zQ_seq 1 (pc' := 8) (L' := [some (.ref 58), some (.int a1), some (.int a2), some (.int a3), some (.int a4), some (.int a5), none, none, none, none]) (S' := [.int a3]) (h' := h1) zp_133 rfl ?_
    refine zQ_csI (M' := 128) (as := [.int a3]) (S' := []) zp_133 rfl rfl rfl zp_128 (Or.inr rfl) rfl rfl (zqm_imp (r1'.2 c2) (fun rv h3 r3 => zri_imp r3 (fun v3 r3' => ?_)))
    refine zQ_if zp_133 rfl (t := 17) rfl (i := v3.toInt) rfl (fun c4 => ?_) (fun c4 => ?_)
    · refine zQ_seq 2 (pc' := 19) (L' := [some (.ref 58), some (.int a1), some (.int a2), some (.int a3), some (.int a4), some (.int a5), none, none, none, none]) (S' := [.int a1, .ref 58]) (h' := h3) zp_133 rfl ?_
      refine zQ_cvI (M' := 129) (as := [.ref 58, .int a1]) (S' := []) zp_133 rfl rfl zp_129 (Or.inr rfl) rfl rfl (zqm_imp (r3'.1 c4) (fun rv h5 r5 => zri_imp r5 (fun v5 r5' => ?_)))
      refine zQ_if zp_133 rfl (t := 33) rfl (i := v5.toInt) rfl (fun c6 => ?_) (fun c6 => ?_)
      · refine zQ_seq 2 (pc' := 35) (L' := [some (.ref 58), some (.int a1), some (.int a2), some (.int a3), some (.int a4), some (.int a5), none, none, none, none]) (S' := [.int (Int32.ofInt 1), .ref 58]) (h' := h5) zp_133 rfl ?_
        refine zQ_cvI (M' := 125) (as := [.ref 58, .int (Int32.ofInt 1)]) (S' := []) zp_133 rfl rfl zp_125 (Or.inl rfl) rfl rfl (zqm_imp (r5'.1 c6) (fun rv h7 r7 => zri_imp r7 (fun v7 r7' => ?_)))
        exact zQ_retI zp_133 rfl r7'
      · refine zQ_seq 2 (pc' := 27) (L' := [some (.ref 58), some (.int a1), some (.int a2), some (.int a3), some (.int a4), some (.int a5), none, none, none, none]) (S' := [.int a3, .ref 58]) (h' := h5) zp_133 rfl ?_
        refine zQ_cvI (M' := 129) (as := [.ref 58, .int a3]) (S' := []) zp_133 rfl rfl zp_129 (Or.inr rfl) rfl rfl (zqm_imp (r5'.2 c6) (fun rv h8 r8 => zri_imp r8 (fun v8 r8' => ?_)))
        refine zQ_if zp_133 rfl (t := 39) rfl (i := v8.toInt) rfl (fun c9 => ?_) (fun c9 => ?_)
        · refine zQ_seq 3 (pc' := 44) (L' := [some (.ref 58), some (.int a1), some (.int a2), some (.int a3), some (.int a4), some (.int a5), none, none, none, none]) (S' := [.int a1, .ref 59]) (h' := h8) zp_133 rfl ?_
          refine zQ_ial (N := 8) (f := h8.1 59) zp_133 rfl rfl rfl (fun b10 b10' => ?_)
          refine zQ_seq 3 (pc' := 50) (L' := [some (.ref 58), some (.int a1), some (.int a2), some (.int a3), some (.int a4), some (.int a5), none, none, none, none]) (S' := [.int a3, .ref 59, .int (h8.1 59 a1.toInt.toNat)]) (h' := h8) zp_133 rfl ?_
          refine zQ_ial (N := 8) (f := h8.1 59) zp_133 rfl rfl rfl (fun b11 b11' => ?_)
          refine zQ_ic zp_133 rfl (t := 60) rfl (i := (h8.1 59 a1.toInt.toNat).toInt) (j := (h8.1 59 a3.toInt.toNat).toInt) rfl rfl (fun c12 => ?_) (fun c12 => ?_)
          · refine zQ_seq 4 (pc' := 65) (L' := [some (.ref 58), some (.int a1), some (.int a2), some (.int a3), some (.int a4), some (.int a5), none, none, none, none]) (S' := [.int a5, .int a2, .int a1, .ref 58]) (h' := h8) zp_133 rfl ?_
            refine zQ_cvI (M' := 132) (as := [.ref 58, .int a1, .int a2, .int a5]) (S' := []) zp_133 rfl rfl zp_132 (Or.inr rfl) rfl rfl (zqm_imp ((((r8'.1 c9) b10 b10') b11 b11').1 c12) (fun rv h13 r13 => zri_imp r13 (fun v13 r13' => ?_)))
            refine zQ_if zp_133 rfl (t := 83) rfl (i := v13.toInt) rfl (fun c14 => ?_) (fun c14 => ?_)
            · refine zQ_seq 2 (pc' := 85) (L' := [some (.ref 58), some (.int a1), some (.int a2), some (.int a3), some (.int a4), some (.int a5), none, none, none, none]) (S' := [.int (Int32.ofInt 2), .ref 58]) (h' := h13) zp_133 rfl ?_
              refine zQ_cvI (M' := 125) (as := [.ref 58, .int (Int32.ofInt 2)]) (S' := []) zp_133 rfl rfl zp_125 (Or.inl rfl) rfl rfl (zqm_imp (r13'.1 c14) (fun rv h15 r15 => zri_imp r15 (fun v15 r15' => ?_)))
              exact zQ_retI zp_133 rfl r15'
            · refine zQ_seq 4 (pc' := 77) (L' := [some (.ref 58), some (.int a1), some (.int a2), some (.int a3), some (.int a4), some (.int a5), none, none, none, none]) (S' := [.int a5, .int a4, .int a3, .ref 58]) (h' := h13) zp_133 rfl ?_
              refine zQ_cvI (M' := 132) (as := [.ref 58, .int a3, .int a4, .int a5]) (S' := []) zp_133 rfl rfl zp_132 (Or.inr rfl) rfl rfl (zqm_imp (r13'.2 c14) (fun rv h16 r16 => zri_imp r16 (fun v16 r16' => ?_)))
              refine zQ_if zp_133 rfl (t := 89) rfl (i := v16.toInt) rfl (fun c17 => ?_) (fun c17 => ?_)
              · refine zQ_seq 14 (pc' := 109) (L' := [some (.ref 58), some (.int a1), some (.int a2), some (.int a3), some (.int a4), some (.int a5), some (.int (((Int32.ofInt 40) * a1) + a2)), some (.int (((Int32.ofInt 40) * a3) + a4)), some (.int (Int32.ofInt 0)), none]) (S' := []) (h' := h16) zp_133 rfl ?_
                exact (r16'.1 c17)
              · refine zQ_seq 2 (pc' := 85) (L' := [some (.ref 58), some (.int a1), some (.int a2), some (.int a3), some (.int a4), some (.int a5), none, none, none, none]) (S' := [.int (Int32.ofInt 2), .ref 58]) (h' := h16) zp_133 rfl ?_
                refine zQ_cvI (M' := 125) (as := [.ref 58, .int (Int32.ofInt 2)]) (S' := []) zp_133 rfl rfl zp_125 (Or.inl rfl) rfl rfl (zqm_imp (r16'.2 c17) (fun rv h18 r18 => zri_imp r18 (fun v18 r18' => ?_)))
                exact zQ_retI zp_133 rfl r18'
          · refine zQ_seq 2 (pc' := 56) (L' := [some (.ref 58), some (.int a1), some (.int a2), some (.int a3), some (.int a4), some (.int a5), none, none, none, none]) (S' := [.int (Int32.ofInt 5), .ref 58]) (h' := h8) zp_133 rfl ?_
            refine zQ_cvI (M' := 125) (as := [.ref 58, .int (Int32.ofInt 5)]) (S' := []) zp_133 rfl rfl zp_125 (Or.inl rfl) rfl rfl (zqm_imp ((((r8'.1 c9) b10 b10') b11 b11').2 c12) (fun rv h19 r19 => zri_imp r19 (fun v19 r19' => ?_)))
            exact zQ_retI zp_133 rfl r19'
        · refine zQ_seq 2 (pc' := 35) (L' := [some (.ref 58), some (.int a1), some (.int a2), some (.int a3), some (.int a4), some (.int a5), none, none, none, none]) (S' := [.int (Int32.ofInt 1), .ref 58]) (h' := h8) zp_133 rfl ?_
          refine zQ_cvI (M' := 125) (as := [.ref 58, .int (Int32.ofInt 1)]) (S' := []) zp_133 rfl rfl zp_125 (Or.inl rfl) rfl rfl (zqm_imp (r8'.2 c9) (fun rv h20 r20 => zri_imp r20 (fun v20 r20' => ?_)))
          exact zQ_retI zp_133 rfl r20'
    · refine zQ_seq 1 (pc' := 16) (L' := [some (.ref 58), some (.int a1), some (.int a2), some (.int a3), some (.int a4), some (.int a5), none, none, none, none]) (S' := [.int (-1000001 : Int32)]) (h' := h3) zp_133 rfl ?_
      exact zQ_retI zp_133 rfl (r3'.2 c4)
theorem s_133_109 {n : Nat} {h : zH} {Q : Option Value → zH → Prop} (x1 : Int32) (x2 : Int32) (x3 : Int32) (x4 : Int32) (x5 : Int32) (x6 : Int32) (x7 : Int32) (x8 : Int32) (o9 : Option Value) (H : ((x5.toInt ≤ x8.toInt → zqm 126 [.ref 58, .int x5] h (fun rv h2 => zri rv (fun v2 => Q (some (.int v2)) h2))) ∧ (¬ (x5.toInt ≤ x8.toInt) → ((x7.toInt ≤ x6.toInt → (0 ≤ (x6 + x8).toInt → (x6 + x8).toInt < 320 → (0 ≤ (x7 + x8).toInt → (x7 + x8).toInt < 320 → zQ n 133 109 [some (.ref 58), some (.int x1), some (.int x2), some (.int x3), some (.int x4), some (.int x5), some (.int x6), some (.int x7), some (.int (x8 + Int32.ofInt 1)), some (.int x8)] [] (zSet h 61 (x7 + x8).toInt.toNat (h.1 61 (x6 + x8).toInt.toNat)) Q))) ∧ (¬ (x7.toInt ≤ x6.toInt) → (0 ≤ (x6 + ((x5 - (Int32.ofInt 1)) - x8)).toInt → (x6 + ((x5 - (Int32.ofInt 1)) - x8)).toInt < 320 → (0 ≤ (x7 + ((x5 - (Int32.ofInt 1)) - x8)).toInt → (x7 + ((x5 - (Int32.ofInt 1)) - x8)).toInt < 320 → zQ n 133 109 [some (.ref 58), some (.int x1), some (.int x2), some (.int x3), some (.int x4), some (.int x5), some (.int x6), some (.int x7), some (.int (x8 + Int32.ofInt 1)), some (.int ((x5 - (Int32.ofInt 1)) - x8))] [] (zSet h 61 (x7 + ((x5 - (Int32.ofInt 1)) - x8)).toInt.toNat (h.1 61 (x6 + ((x5 - (Int32.ofInt 1)) - x8)).toInt.toNat)) Q))))))) : zQ (n + 1) 133 109 [some (.ref 58), some (.int x1), some (.int x2), some (.int x3), some (.int x4), some (.int x5), some (.int x6), some (.int x7), some (.int x8), o9] [] h Q := by
  refine zQ_seqL 1 (pc' := 113) (L' := [some (.ref 58), some (.int x1), some (.int x2), some (.int x3), some (.int x4), some (.int x5), some (.int x6), some (.int x7), some (.int x8), o9]) (S' := [.int x5, .int x8]) (h' := h) zp_133 rfl ?_
  refine zQ_ic zp_133 rfl (t := 163) rfl (i := x8.toInt) (j := x5.toInt) rfl rfl (fun c1 => ?_) (fun c1 => ?_)
  · refine zQ_seq 2 (pc' := 166) (L' := [some (.ref 58), some (.int x1), some (.int x2), some (.int x3), some (.int x4), some (.int x5), some (.int x6), some (.int x7), some (.int x8), o9]) (S' := [.int x5, .ref 58]) (h' := h) zp_133 rfl ?_
    refine zQ_cvI (M' := 126) (as := [.ref 58, .int x5]) (S' := []) zp_133 rfl rfl zp_126 (Or.inl rfl) rfl rfl (zqm_imp (H.1 c1) (fun rv h2 r2 => zri_imp r2 (fun v2 r2' => ?_)))
    exact zQ_retI zp_133 rfl r2'
  · refine zQ_seq 2 (pc' := 120) (L' := [some (.ref 58), some (.int x1), some (.int x2), some (.int x3), some (.int x4), some (.int x5), some (.int x6), some (.int x7), some (.int x8), o9]) (S' := [.int x6, .int x7]) (h' := h) zp_133 rfl ?_
    refine zQ_ic zp_133 rfl (t := 133) rfl (i := x7.toInt) (j := x6.toInt) rfl rfl (fun c3 => ?_) (fun c3 => ?_)
    · refine zQ_seq 12 (pc' := 155) (L' := [some (.ref 58), some (.int x1), some (.int x2), some (.int x3), some (.int x4), some (.int x5), some (.int x6), some (.int x7), some (.int x8), some (.int x8)]) (S' := [.int (x6 + x8), .ref 61, .int (x7 + x8), .ref 61]) (h' := h) zp_133 rfl ?_
      refine zQ_ial (N := 320) (f := h.1 61) zp_133 rfl rfl rfl (fun b4 b4' => ?_)
      refine zQ_ias (N := 320) zp_133 rfl rfl rfl (fun b5 b5' => ?_)
      refine zQ_seq 1 (pc' := 160) (L' := [some (.ref 58), some (.int x1), some (.int x2), some (.int x3), some (.int x4), some (.int x5), some (.int x6), some (.int x7), some (.int (x8 + Int32.ofInt 1)), some (.int x8)]) (S' := []) (h' := (zSet h 61 (x7 + x8).toInt.toNat (h.1 61 (x6 + x8).toInt.toNat))) zp_133 rfl ?_
      refine zQ_goto zp_133 rfl (t := 109) rfl ?_
      exact ((((H.2 c1).1 c3) b4 b4') b5 b5')
    · refine zQ_seq 5 (pc' := 130) (L' := [some (.ref 58), some (.int x1), some (.int x2), some (.int x3), some (.int x4), some (.int x5), some (.int x6), some (.int x7), some (.int x8), o9]) (S' := [.int ((x5 - (Int32.ofInt 1)) - x8)]) (h' := h) zp_133 rfl ?_
      refine zQ_goto zp_133 rfl (t := 135) rfl ?_
      refine zQ_seq 11 (pc' := 155) (L' := [some (.ref 58), some (.int x1), some (.int x2), some (.int x3), some (.int x4), some (.int x5), some (.int x6), some (.int x7), some (.int x8), some (.int ((x5 - (Int32.ofInt 1)) - x8))]) (S' := [.int (x6 + ((x5 - (Int32.ofInt 1)) - x8)), .ref 61, .int (x7 + ((x5 - (Int32.ofInt 1)) - x8)), .ref 61]) (h' := h) zp_133 rfl ?_
      refine zQ_ial (N := 320) (f := h.1 61) zp_133 rfl rfl rfl (fun b6 b6' => ?_)
      refine zQ_ias (N := 320) zp_133 rfl rfl rfl (fun b7 b7' => ?_)
      refine zQ_seq 1 (pc' := 160) (L' := [some (.ref 58), some (.int x1), some (.int x2), some (.int x3), some (.int x4), some (.int x5), some (.int x6), some (.int x7), some (.int (x8 + Int32.ofInt 1)), some (.int ((x5 - (Int32.ofInt 1)) - x8))]) (S' := []) (h' := (zSet h 61 (x7 + ((x5 - (Int32.ofInt 1)) - x8)).toInt.toNat (h.1 61 (x6 + ((x5 - (Int32.ofInt 1)) - x8)).toInt.toNat))) zp_133 rfl ?_
      refine zQ_goto zp_133 rfl (t := 109) rfl ?_
      exact ((((H.2 c1).2 c3) b6 b6') b7 b7')
theorem s_134 {h : zH} {Q : Option Value → zH → Prop} (a1 : Int32) (H : zqm 128 [.int a1] h (fun rv h1 => zri rv (fun v1 => ((¬ v1.toInt = 0 → zqm 129 [.ref 58, .int a1] h1 (fun rv h3 => zri rv (fun v3 => ((v3.toInt = 0 → (0 ≤ a1.toInt → a1.toInt < 8 → (0 ≤ a1.toInt → a1.toInt < 8 → zqm 126 [.ref 58, .int (h3.1 60 a1.toInt.toNat)] (zSet h3 59 a1.toInt.toNat (Int32.ofInt (-1))) (fun rv h7 => zri rv (fun v7 => Q (some (.int v7)) h7))))) ∧ (¬ (v3.toInt = 0) → zqm 125 [.ref 58, .int (Int32.ofInt 1)] h3 (fun rv h8 => zri rv (fun v8 => Q (some (.int v8)) h8))))))) ∧ (¬ (¬ v1.toInt = 0) → Q (some (.int (-1000001 : Int32))) h1))))) : zqm 134 [.ref 58, .int a1] h Q := by
  refine zqm_of zp_134 (fun n => ?_)
  show zQ n 134 0 [some (.ref 58), some (.int a1)] [] h Q
  refine zQ_seq 1 (pc' := 1) (L' := [some (.ref 58), some (.int a1)]) (S' := [.int a1]) (h' := h) zp_134 rfl ?_
  refine zQ_csI (M' := 128) (as := [.int a1]) (S' := []) zp_134 rfl rfl rfl zp_128 (Or.inr rfl) rfl rfl (zqm_imp H (fun rv h1 r1 => zri_imp r1 (fun v1 r1' => ?_)))
  refine zQ_if zp_134 rfl (t := 10) rfl (i := v1.toInt) rfl (fun c2 => ?_) (fun c2 => ?_)
  · refine zQ_seq 2 (pc' := 12) (L' := [some (.ref 58), some (.int a1)]) (S' := [.int a1, .ref 58]) (h' := h1) zp_134 rfl ?_
    refine zQ_cvI (M' := 129) (as := [.ref 58, .int a1]) (S' := []) zp_134 rfl rfl zp_129 (Or.inr rfl) rfl rfl (zqm_imp (r1'.1 c2) (fun rv h3 r3 => zri_imp r3 (fun v3 r3' => ?_)))
    refine zQ_if zp_134 rfl (t := 24) rfl (i := v3.toInt) rfl (fun c4 => ?_) (fun c4 => ?_)
    · refine zQ_seq 4 (pc' := 30) (L' := [some (.ref 58), some (.int a1)]) (S' := [.int (Int32.ofInt (-1)), .int a1, .ref 59]) (h' := h3) zp_134 rfl ?_
      refine zQ_ias (N := 8) zp_134 rfl rfl rfl (fun b5 b5' => ?_)
      refine zQ_seq 4 (pc' := 37) (L' := [some (.ref 58), some (.int a1)]) (S' := [.int a1, .ref 60, .ref 58]) (h' := (zSet h3 59 a1.toInt.toNat (Int32.ofInt (-1)))) zp_134 rfl ?_
      refine zQ_ial (N := 8) (f := (zSet h3 59 a1.toInt.toNat (Int32.ofInt (-1))).1 60) zp_134 rfl rfl rfl (fun b6 b6' => ?_)
      refine zQ_cvI (M' := 126) (as := [.ref 58, .int (h3.1 60 a1.toInt.toNat)]) (S' := []) zp_134 rfl rfl zp_126 (Or.inl rfl) rfl rfl (zqm_imp (((r3'.1 c4) b5 b5') b6 b6') (fun rv h7 r7 => zri_imp r7 (fun v7 r7' => ?_)))
      exact zQ_retI zp_134 rfl r7'
    · refine zQ_seq 2 (pc' := 20) (L' := [some (.ref 58), some (.int a1)]) (S' := [.int (Int32.ofInt 1), .ref 58]) (h' := h3) zp_134 rfl ?_
      refine zQ_cvI (M' := 125) (as := [.ref 58, .int (Int32.ofInt 1)]) (S' := []) zp_134 rfl rfl zp_125 (Or.inl rfl) rfl rfl (zqm_imp (r3'.2 c4) (fun rv h8 r8 => zri_imp r8 (fun v8 r8' => ?_)))
      exact zQ_retI zp_134 rfl r8'
  · refine zQ_seq 1 (pc' := 9) (L' := [some (.ref 58), some (.int a1)]) (S' := [.int (-1000001 : Int32)]) (h' := h1) zp_134 rfl ?_
    exact zQ_retI zp_134 rfl (r1'.2 c2)

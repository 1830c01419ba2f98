/-! segments: the class -/
theorem s_80 {h : zH} {Q : Option Value → zH → Prop} (a1 : Int32) (a2 : Int32) (a3 : Int32) (H : zqm 68 [.int a1] h (fun rv h1 => zri rv (fun v1 => ((v1.toInt = 0 → Q (some (.int (-1000001 : Int32))) h1) ∧ (¬ (v1.toInt = 0) → zqm 69 [.int a2] h1 (fun rv h3 => zri rv (fun v3 => ((v3.toInt = 0 → Q (some (.int (-1000001 : Int32))) h3) ∧ (¬ (v3.toInt = 0) → ((a3.toInt ≤ (40 : Int) → ((0 ≤ a3.toInt → zqm 74 [.ref 1, .int a1, .int a2, .int a3] h3 (fun _ h7 => zqm 115 [.ref 0, .int a3] h7 (fun rv h8 => zri rv (fun v8 => Q (some (.int v8)) h8)))) ∧ (¬ (0 ≤ a3.toInt) → zqm 114 [.ref 0, .int (Int32.ofInt 4)] h3 (fun rv h9 => zri rv (fun v9 => Q (some (.int v9)) h9))))) ∧ (¬ (a3.toInt ≤ (40 : Int)) → Q (some (.int (-1000001 : Int32))) h3))))))))))) : zqm 80 [.ref 0, .int a1, .int a2, .int a3] h Q := by
  refine zqm_of zp_80 (fun n => ?_)
  show zQ n 80 0 [some (.ref 0), some (.int a1), some (.int a2), some (.int a3)] [] h Q
  refine zQ_seq 1 (pc' := 1) (L' := [some (.ref 0), some (.int a1), some (.int a2), some (.int a3)]) (S' := [.int a1]) (h' := h) zp_80 rfl ?_
  refine zQ_csI (M' := 68) (as := [.int a1]) (S' := []) zp_80 rfl rfl rfl zp_68 (Or.inr rfl) rfl rfl (zqm_imp H (fun rv h1 r1 => zri_imp r1 (fun v1 r1' => ?_)))
  refine zQ_if zp_80 rfl (t := 20) rfl (i := v1.toInt) rfl (fun c2 => ?_) (fun c2 => ?_)
  · refine zQ_seq 1 (pc' := 22) (L' := [some (.ref 0), some (.int a1), some (.int a2), some (.int a3)]) (S' := [.int (-1000001 : Int32)]) (h' := h1) zp_80 rfl ?_
    exact zQ_retI zp_80 rfl (r1'.1 c2)
  · refine zQ_seq 1 (pc' := 8) (L' := [some (.ref 0), some (.int a1), some (.int a2), some (.int a3)]) (S' := [.int a2]) (h' := h1) zp_80 rfl ?_
    refine zQ_csI (M' := 69) (as := [.int a2]) (S' := []) zp_80 rfl rfl rfl zp_69 (Or.inr rfl) rfl rfl (zqm_imp (r1'.2 c2) (fun rv h3 r3 => zri_imp r3 (fun v3 r3' => ?_)))
    refine zQ_if zp_80 rfl (t := 20) rfl (i := v3.toInt) rfl (fun c4 => ?_) (fun c4 => ?_)
    · refine zQ_seq 1 (pc' := 22) (L' := [some (.ref 0), some (.int a1), some (.int a2), some (.int a3)]) (S' := [.int (-1000001 : Int32)]) (h' := h3) zp_80 rfl ?_
      exact zQ_retI zp_80 rfl (r3'.1 c4)
    · refine zQ_seq 2 (pc' := 17) (L' := [some (.ref 0), some (.int a1), some (.int a2), some (.int a3)]) (S' := [.int (Int32.ofInt 40), .int a3]) (h' := h3) zp_80 rfl ?_
      refine zQ_ic zp_80 rfl (t := 23) rfl (i := a3.toInt) (j := (40 : Int)) rfl kc_40 (fun c5 => ?_) (fun c5 => ?_)
      · refine zQ_seq 1 (pc' := 24) (L' := [some (.ref 0), some (.int a1), some (.int a2), some (.int a3)]) (S' := [.int a3]) (h' := h3) zp_80 rfl ?_
        refine zQ_if zp_80 rfl (t := 33) rfl (i := a3.toInt) rfl (fun c6 => ?_) (fun c6 => ?_)
        · refine zQ_seq 5 (pc' := 40) (L' := [some (.ref 0), some (.int a1), some (.int a2), some (.int a3)]) (S' := [.int a3, .int a2, .int a1, .ref 1]) (h' := h3) zp_80 rfl ?_
          refine zQ_cvV (M' := 74) (as := [.ref 1, .int a1, .int a2, .int a3]) (S' := []) zp_80 rfl rfl zp_74 rfl rfl rfl (zqm_imp (((r3'.2 c4).1 c5).1 c6) (fun rv h7 r7 => ?_))
          refine zQ_seq 2 (pc' := 45) (L' := [some (.ref 0), some (.int a1), some (.int a2), some (.int a3)]) (S' := [.int a3, .ref 0]) (h' := h7) zp_80 rfl ?_
          refine zQ_cvI (M' := 115) (as := [.ref 0, .int a3]) (S' := []) zp_80 rfl rfl zp_115 (Or.inl rfl) rfl rfl (zqm_imp r7 (fun rv h8 r8 => zri_imp r8 (fun v8 r8' => ?_)))
          exact zQ_retI zp_80 rfl r8'
        · refine zQ_seq 2 (pc' := 29) (L' := [some (.ref 0), some (.int a1), some (.int a2), some (.int a3)]) (S' := [.int (Int32.ofInt 4), .ref 0]) (h' := h3) zp_80 rfl ?_
          refine zQ_cvI (M' := 114) (as := [.ref 0, .int (Int32.ofInt 4)]) (S' := []) zp_80 rfl rfl zp_114 (Or.inl rfl) rfl rfl (zqm_imp (((r3'.2 c4).1 c5).2 c6) (fun rv h9 r9 => zri_imp r9 (fun v9 r9' => ?_)))
          exact zQ_retI zp_80 rfl r9'
      · refine zQ_seq 1 (pc' := 22) (L' := [some (.ref 0), some (.int a1), some (.int a2), some (.int a3)]) (S' := [.int (-1000001 : Int32)]) (h' := h3) zp_80 rfl ?_
        exact zQ_retI zp_80 rfl ((r3'.2 c4).2 c5)
theorem s_81 {h : zH} {Q : Option Value → zH → Prop} (a1 : Int32) (a2 : Int32) (a3 : Int32) (H : zqm 68 [.int a1] h (fun rv h1 => zri rv (fun v1 => ((¬ v1.toInt = 0 → zqm 116 [.ref 0, .int a1, .int a2, .int (Int32.ofInt 1)] h1 (fun rv h3 => zri rv (fun v3 => ((v3.toInt = 0 → zqm 77 [.ref 1, .int a1, .int a2, .int a3] h3 (fun rv h5 => zri rv (fun v5 => zqm 115 [.ref 0, .int v5] h5 (fun rv h6 => zri rv (fun v6 => Q (some (.int v6)) h6))))) ∧ (¬ (v3.toInt = 0) → Q (some (.int v3)) h3))))) ∧ (¬ (¬ v1.toInt = 0) → Q (some (.int (-1000001 : Int32))) h1))))) : zqm 81 [.ref 0, .int a1, .int a2, .int a3] h Q := by
  refine zqm_of zp_81 (fun n => ?_)
  show zQ n 81 0 [some (.ref 0), some (.int a1), some (.int a2), some (.int a3), none] [] h Q
  refine zQ_seq 1 (pc' := 1) (L' := [some (.ref 0), some (.int a1), some (.int a2), some (.int a3), none]) (S' := [.int a1]) (h' := h) zp_81 rfl ?_
  refine zQ_csI (M' := 68) (as := [.int a1]) (S' := []) zp_81 rfl rfl rfl zp_68 (Or.inr rfl) rfl rfl (zqm_imp H (fun rv h1 r1 => zri_imp r1 (fun v1 r1' => ?_)))
  refine zQ_if zp_81 rfl (t := 10) rfl (i := v1.toInt) rfl (fun c2 => ?_) (fun c2 => ?_)
  · refine zQ_seq 4 (pc' := 14) (L' := [some (.ref 0), some (.int a1), some (.int a2), some (.int a3), none]) (S' := [.int (Int32.ofInt 1), .int a2, .int a1, .ref 0]) (h' := h1) zp_81 rfl ?_
    refine zQ_cvI (M' := 116) (as := [.ref 0, .int a1, .int a2, .int (Int32.ofInt 1)]) (S' := []) zp_81 rfl rfl zp_116 (Or.inl rfl) rfl rfl (zqm_imp (r1'.1 c2) (fun rv h3 r3 => zri_imp r3 (fun v3 r3' => ?_)))
    refine zQ_seq 2 (pc' := 21) (L' := [some (.ref 0), some (.int a1), some (.int a2), some (.int a3), some (.int v3)]) (S' := [.int v3]) (h' := h3) zp_81 rfl ?_
    refine zQ_if zp_81 rfl (t := 29) rfl (i := v3.toInt) rfl (fun c4 => ?_) (fun c4 => ?_)
    · refine zQ_seq 6 (pc' := 37) (L' := [some (.ref 0), some (.int a1), some (.int a2), some (.int a3), some (.int v3)]) (S' := [.int a3, .int a2, .int a1, .ref 1, .ref 0]) (h' := h3) zp_81 rfl ?_
      refine zQ_cvI (M' := 77) (as := [.ref 1, .int a1, .int a2, .int a3]) (S' := [.ref 0]) zp_81 rfl rfl zp_77 (Or.inl rfl) rfl rfl (zqm_imp (r3'.1 c4) (fun rv h5 r5 => zri_imp r5 (fun v5 r5' => ?_)))
      refine zQ_cvI (M' := 115) (as := [.ref 0, .int v5]) (S' := []) zp_81 rfl rfl zp_115 (Or.inl rfl) rfl rfl (zqm_imp r5' (fun rv h6 r6 => zri_imp r6 (fun v6 r6' => ?_)))
      exact zQ_retI zp_81 rfl r6'
    · refine zQ_seq 1 (pc' := 26) (L' := [some (.ref 0), some (.int a1), some (.int a2), some (.int a3), some (.int v3)]) (S' := [.int v3]) (h' := h3) zp_81 rfl ?_
      refine zQ_goto zp_81 rfl (t := 43) rfl ?_
      exact zQ_retI zp_81 rfl (r3'.2 c4)
  · refine zQ_seq 1 (pc' := 9) (L' := [some (.ref 0), some (.int a1), some (.int a2), some (.int a3), none]) (S' := [.int (-1000001 : Int32)]) (h' := h1) zp_81 rfl ?_
    exact zQ_retI zp_81 rfl (r1'.2 c2)
theorem s_82 {h : zH} {Q : Option Value → zH → Prop} (a1 : Int32) (a2 : Int32) (a3 : Int32) (a4 : Int32) (a5 : Int32) (H : zqm 68 [.int a1] h (fun rv h1 => zri rv (fun v1 => ((v1.toInt = 0 → Q (some (.int (-1000001 : Int32))) h1) ∧ (¬ (v1.toInt = 0) → zqm 68 [.int a3] h1 (fun rv h3 => zri rv (fun v3 => ((¬ v3.toInt = 0 → zqm 70 [.ref 1, .int a1] h3 (fun rv h5 => zri rv (fun v5 => ((¬ v5.toInt = 0 → zqm 114 [.ref 0, .int (Int32.ofInt 1)] h5 (fun rv h7 => zri rv (fun v7 => Q (some (.int v7)) h7))) ∧ (¬ (¬ v5.toInt = 0) → zqm 70 [.ref 1, .int a3] h5 (fun rv h8 => zri rv (fun v8 => ((v8.toInt = 0 → zqm 72 [.ref 1, .int a1, .int a3] h8 (fun rv h10 => zri rv (fun v10 => ((¬ v10.toInt = 0 → zqm 71 [.ref 1, .int a1, .int a2, .int a5] h10 (fun rv h12 => zri rv (fun v12 => ((v12.toInt = 0 → zqm 114 [.ref 0, .int (Int32.ofInt 2)] h12 (fun rv h14 => zri rv (fun v14 => Q (some (.int v14)) h14))) ∧ (¬ (v12.toInt = 0) → zqm 71 [.ref 1, .int a3, .int a4, .int a5] h12 (fun rv h15 => zri rv (fun v15 => ((¬ v15.toInt = 0 → zqm 79 [.ref 1, .int a1, .int a2, .int a3, .int a4, .int a5] h15 (fun _ h17 => zqm 115 [.ref 0, .int a5] h17 (fun rv h18 => zri rv (fun v18 => Q (some (.int v18)) h18)))) ∧ (¬ (¬ v15.toInt = 0) → zqm 114 [.ref 0, .int (Int32.ofInt 2)] h15 (fun rv h19 => zri rv (fun v19 => Q (some (.int v19)) h19))))))))))) ∧ (¬ (¬ v10.toInt = 0) → zqm 114 [.ref 0, .int (Int32.ofInt 5)] h10 (fun rv h20 => zri rv (fun v20 => Q (some (.int v20)) h20))))))) ∧ (¬ (v8.toInt = 0) → zqm 114 [.ref 0, .int (Int32.ofInt 1)] h8 (fun rv h21 => zri rv (fun v21 => Q (some (.int v21)) h21))))))))))) ∧ (¬ (¬ v3.toInt = 0) → Q (some (.int (-1000001 : Int32))) h3))))))))) : zqm 82 [.ref 0, .int a1, .int a2, .int a3, .int a4, .int a5] h Q := by
  refine zqm_of zp_82 (fun n => ?_)
  show zQ n 82 0 [some (.ref 0), some (.int a1), some (.int a2), some (.int a3), some (.int a4), some (.int a5)] [] h Q
  refine zQ_seq 1 (pc' := 1) (L' := [some (.ref 0), some (.int a1), some (.int a2), some (.int a3), some (.int a4), some (.int a5)]) (S' := [.int a1]) (h' := h) zp_82 rfl ?_
  refine zQ_csI (M' := 68) (as := [.int a1]) (S' := []) zp_82 rfl rfl rfl zp_68 (Or.inr rfl) rfl rfl (zqm_imp H (fun rv h1 r1 => zri_imp r1 (fun v1 r1' => ?_)))
  refine zQ_if zp_82 rfl (t := 14) rfl (i := v1.toInt) rfl (fun c2 => ?_) (fun c2 => ?_)
  · refine zQ_seq 1 (pc' := 16) (L' := [some (.ref 0), some (.int a1), some (.int a2), some (.int a3), some (.int a4), some (.int a5)]) (S' := [.int (-1000001 : Int32)]) (h' := h1) zp_82 rfl ?_
    exact zQ_retI zp_82 rfl (r1'.1 c2)
  · refine zQ_seq 1 (pc' := 8) (L' := [some (.ref 0), some (.int a1), some (.int a2), some (.int a3), some (.int a4), some (.int a5)]) (S' := [.int a3]) (h' := h1) zp_82 rfl ?_
    refine zQ_csI (M' := 68) (as := [.int a3]) (S' := []) zp_82 rfl rfl rfl zp_68 (Or.inr rfl) rfl rfl (zqm_imp (r1'.2 c2) (fun rv h3 r3 => zri_imp r3 (fun v3 r3' => ?_)))
    refine zQ_if zp_82 rfl (t := 17) rfl (i := v3.toInt) rfl (fun c4 => ?_) (fun c4 => ?_)
    · refine zQ_seq 3 (pc' := 22) (L' := [some (.ref 0), some (.int a1), some (.int a2), some (.int a3), some (.int a4), some (.int a5)]) (S' := [.int a1, .ref 1]) (h' := h3) zp_82 rfl ?_
      refine zQ_cvI (M' := 70) (as := [.ref 1, .int a1]) (S' := []) zp_82 rfl rfl zp_70 (Or.inr rfl) rfl rfl (zqm_imp (r3'.1 c4) (fun rv h5 r5 => zri_imp r5 (fun v5 r5' => ?_)))
      refine zQ_if zp_82 rfl (t := 39) rfl (i := v5.toInt) rfl (fun c6 => ?_) (fun c6 => ?_)
      · refine zQ_seq 2 (pc' := 41) (L' := [some (.ref 0), some (.int a1), some (.int a2), some (.int a3), some (.int a4), some (.int a5)]) (S' := [.int (Int32.ofInt 1), .ref 0]) (h' := h5) zp_82 rfl ?_
        refine zQ_cvI (M' := 114) (as := [.ref 0, .int (Int32.ofInt 1)]) (S' := []) zp_82 rfl rfl zp_114 (Or.inl rfl) rfl rfl (zqm_imp (r5'.1 c6) (fun rv h7 r7 => zri_imp r7 (fun v7 r7' => ?_)))
        exact zQ_retI zp_82 rfl r7'
      · refine zQ_seq 3 (pc' := 33) (L' := [some (.ref 0), some (.int a1), some (.int a2), some (.int a3), some (.int a4), some (.int a5)]) (S' := [.int a3, .ref 1]) (h' := h5) zp_82 rfl ?_
        refine zQ_cvI (M' := 70) (as := [.ref 1, .int a3]) (S' := []) zp_82 rfl rfl zp_70 (Or.inr rfl) rfl rfl (zqm_imp (r5'.2 c6) (fun rv h8 r8 => zri_imp r8 (fun v8 r8' => ?_)))
        refine zQ_if zp_82 rfl (t := 45) rfl (i := v8.toInt) rfl (fun c9 => ?_) (fun c9 => ?_)
        · refine zQ_seq 4 (pc' := 51) (L' := [some (.ref 0), some (.int a1), some (.int a2), some (.int a3), some (.int a4), some (.int a5)]) (S' := [.int a3, .int a1, .ref 1]) (h' := h8) zp_82 rfl ?_
          refine zQ_cvI (M' := 72) (as := [.ref 1, .int a1, .int a3]) (S' := []) zp_82 rfl rfl zp_72 (Or.inr rfl) rfl rfl (zqm_imp (r8'.1 c9) (fun rv h10 r10 => zri_imp r10 (fun v10 r10' => ?_)))
          refine zQ_if zp_82 rfl (t := 63) rfl (i := v10.toInt) rfl (fun c11 => ?_) (fun c11 => ?_)
          · refine zQ_seq 5 (pc' := 71) (L' := [some (.ref 0), some (.int a1), some (.int a2), some (.int a3), some (.int a4), some (.int a5)]) (S' := [.int a5, .int a2, .int a1, .ref 1]) (h' := h10) zp_82 rfl ?_
            refine zQ_cvI (M' := 71) (as := [.ref 1, .int a1, .int a2, .int a5]) (S' := []) zp_82 rfl rfl zp_71 (Or.inr rfl) rfl rfl (zqm_imp (r10'.1 c11) (fun rv h12 r12 => zri_imp r12 (fun v12 r12' => ?_)))
            refine zQ_if zp_82 rfl (t := 92) rfl (i := v12.toInt) rfl (fun c13 => ?_) (fun c13 => ?_)
            · refine zQ_seq 2 (pc' := 94) (L' := [some (.ref 0), some (.int a1), some (.int a2), some (.int a3), some (.int a4), some (.int a5)]) (S' := [.int (Int32.ofInt 2), .ref 0]) (h' := h12) zp_82 rfl ?_
              refine zQ_cvI (M' := 114) (as := [.ref 0, .int (Int32.ofInt 2)]) (S' := []) zp_82 rfl rfl zp_114 (Or.inl rfl) rfl rfl (zqm_imp (r12'.1 c13) (fun rv h14 r14 => zri_imp r14 (fun v14 r14' => ?_)))
              exact zQ_retI zp_82 rfl r14'
            · refine zQ_seq 5 (pc' := 86) (L' := [some (.ref 0), some (.int a1), some (.int a2), some (.int a3), some (.int a4), some (.int a5)]) (S' := [.int a5, .int a4, .int a3, .ref 1]) (h' := h12) zp_82 rfl ?_
              refine zQ_cvI (M' := 71) (as := [.ref 1, .int a3, .int a4, .int a5]) (S' := []) zp_82 rfl rfl zp_71 (Or.inr rfl) rfl rfl (zqm_imp (r12'.2 c13) (fun rv h15 r15 => zri_imp r15 (fun v15 r15' => ?_)))
              refine zQ_if zp_82 rfl (t := 98) rfl (i := v15.toInt) rfl (fun c16 => ?_) (fun c16 => ?_)
              · refine zQ_seq 7 (pc' := 109) (L' := [some (.ref 0), some (.int a1), some (.int a2), some (.int a3), some (.int a4), some (.int a5)]) (S' := [.int a5, .int a4, .int a3, .int a2, .int a1, .ref 1]) (h' := h15) zp_82 rfl ?_
                refine zQ_cvV (M' := 79) (as := [.ref 1, .int a1, .int a2, .int a3, .int a4, .int a5]) (S' := []) zp_82 rfl rfl zp_79 rfl rfl rfl (zqm_imp (r15'.1 c16) (fun rv h17 r17 => ?_))
                refine zQ_seq 2 (pc' := 115) (L' := [some (.ref 0), some (.int a1), some (.int a2), some (.int a3), some (.int a4), some (.int a5)]) (S' := [.int a5, .ref 0]) (h' := h17) zp_82 rfl ?_
                refine zQ_cvI (M' := 115) (as := [.ref 0, .int a5]) (S' := []) zp_82 rfl rfl zp_115 (Or.inl rfl) rfl rfl (zqm_imp r17 (fun rv h18 r18 => zri_imp r18 (fun v18 r18' => ?_)))
                exact zQ_retI zp_82 rfl r18'
              · refine zQ_seq 2 (pc' := 94) (L' := [some (.ref 0), some (.int a1), some (.int a2), some (.int a3), some (.int a4), some (.int a5)]) (S' := [.int (Int32.ofInt 2), .ref 0]) (h' := h15) zp_82 rfl ?_
                refine zQ_cvI (M' := 114) (as := [.ref 0, .int (Int32.ofInt 2)]) (S' := []) zp_82 rfl rfl zp_114 (Or.inl rfl) rfl rfl (zqm_imp (r15'.2 c16) (fun rv h19 r19 => zri_imp r19 (fun v19 r19' => ?_)))
                exact zQ_retI zp_82 rfl r19'
          · refine zQ_seq 2 (pc' := 59) (L' := [some (.ref 0), some (.int a1), some (.int a2), some (.int a3), some (.int a4), some (.int a5)]) (S' := [.int (Int32.ofInt 5), .ref 0]) (h' := h10) zp_82 rfl ?_
            refine zQ_cvI (M' := 114) (as := [.ref 0, .int (Int32.ofInt 5)]) (S' := []) zp_82 rfl rfl zp_114 (Or.inl rfl) rfl rfl (zqm_imp (r10'.2 c11) (fun rv h20 r20 => zri_imp r20 (fun v20 r20' => ?_)))
            exact zQ_retI zp_82 rfl r20'
        · refine zQ_seq 2 (pc' := 41) (L' := [some (.ref 0), some (.int a1), some (.int a2), some (.int a3), some (.int a4), some (.int a5)]) (S' := [.int (Int32.ofInt 1), .ref 0]) (h' := h8) zp_82 rfl ?_
          refine zQ_cvI (M' := 114) (as := [.ref 0, .int (Int32.ofInt 1)]) (S' := []) zp_82 rfl rfl zp_114 (Or.inl rfl) rfl rfl (zqm_imp (r8'.2 c9) (fun rv h21 r21 => zri_imp r21 (fun v21 r21' => ?_)))
          exact zQ_retI zp_82 rfl r21'
    · refine zQ_seq 1 (pc' := 16) (L' := [some (.ref 0), some (.int a1), some (.int a2), some (.int a3), some (.int a4), some (.int a5)]) (S' := [.int (-1000001 : Int32)]) (h' := h3) zp_82 rfl ?_
      exact zQ_retI zp_82 rfl (r3'.2 c4)
theorem s_83 {h : zH} {Q : Option Value → zH → Prop} (a1 : Int32) (H : zqm 68 [.int a1] h (fun rv h1 => zri rv (fun v1 => ((¬ v1.toInt = 0 → zqm 70 [.ref 1, .int a1] h1 (fun rv h3 => zri rv (fun v3 => ((v3.toInt = 0 → zqm 75 [.ref 1, .int a1] h3 (fun rv h5 => zri rv (fun v5 => zqm 115 [.ref 0, .int v5] h5 (fun rv h6 => zri rv (fun v6 => Q (some (.int v6)) h6))))) ∧ (¬ (v3.toInt = 0) → zqm 114 [.ref 0, .int (Int32.ofInt 1)] h3 (fun rv h7 => zri rv (fun v7 => Q (some (.int v7)) h7))))))) ∧ (¬ (¬ v1.toInt = 0) → Q (some (.int (-1000001 : Int32))) h1))))) : zqm 83 [.ref 0, .int a1] h Q := by
  refine zqm_of zp_83 (fun n => ?_)
  show zQ n 83 0 [some (.ref 0), some (.int a1)] [] h Q
  refine zQ_seq 1 (pc' := 1) (L' := [some (.ref 0), some (.int a1)]) (S' := [.int a1]) (h' := h) zp_83 rfl ?_
  refine zQ_csI (M' := 68) (as := [.int a1]) (S' := []) zp_83 rfl rfl rfl zp_68 (Or.inr rfl) rfl rfl (zqm_imp H (fun rv h1 r1 => zri_imp r1 (fun v1 r1' => ?_)))
  refine zQ_if zp_83 rfl (t := 10) rfl (i := v1.toInt) rfl (fun c2 => ?_) (fun c2 => ?_)
  · refine zQ_seq 3 (pc' := 15) (L' := [some (.ref 0), some (.int a1)]) (S' := [.int a1, .ref 1]) (h' := h1) zp_83 rfl ?_
    refine zQ_cvI (M' := 70) (as := [.ref 1, .int a1]) (S' := []) zp_83 rfl rfl zp_70 (Or.inr rfl) rfl rfl (zqm_imp (r1'.1 c2) (fun rv h3 r3 => zri_imp r3 (fun v3 r3' => ?_)))
    refine zQ_if zp_83 rfl (t := 29) rfl (i := v3.toInt) rfl (fun c4 => ?_) (fun c4 => ?_)
    · refine zQ_seq 4 (pc' := 35) (L' := [some (.ref 0), some (.int a1)]) (S' := [.int a1, .ref 1, .ref 0]) (h' := h3) zp_83 rfl ?_
      refine zQ_cvI (M' := 75) (as := [.ref 1, .int a1]) (S' := [.ref 0]) zp_83 rfl rfl zp_75 (Or.inl rfl) rfl rfl (zqm_imp (r3'.1 c4) (fun rv h5 r5 => zri_imp r5 (fun v5 r5' => ?_)))
      refine zQ_cvI (M' := 115) (as := [.ref 0, .int v5]) (S' := []) zp_83 rfl rfl zp_115 (Or.inl rfl) rfl rfl (zqm_imp r5' (fun rv h6 r6 => zri_imp r6 (fun v6 r6' => ?_)))
      exact zQ_retI zp_83 rfl r6'
    · refine zQ_seq 2 (pc' := 23) (L' := [some (.ref 0), some (.int a1)]) (S' := [.int (Int32.ofInt 1), .ref 0]) (h' := h3) zp_83 rfl ?_
      refine zQ_cvI (M' := 114) (as := [.ref 0, .int (Int32.ofInt 1)]) (S' := []) zp_83 rfl rfl zp_114 (Or.inl rfl) rfl rfl (zqm_imp (r3'.2 c4) (fun rv h7 r7 => zri_imp r7 (fun v7 r7' => ?_)))
      refine zQ_goto zp_83 rfl (t := 41) rfl ?_
      exact zQ_retI zp_83 rfl r7'
  · refine zQ_seq 1 (pc' := 9) (L' := [some (.ref 0), some (.int a1)]) (S' := [.int (-1000001 : Int32)]) (h' := h1) zp_83 rfl ?_
    exact zQ_retI zp_83 rfl (r1'.2 c2)
theorem s_84 {h : zH} {Q : Option Value → zH → Prop} (a1 : Int32) (H : ((a1.toInt < 0 → Q (some (.int (-1000001 : Int32))) h) ∧ (¬ (a1.toInt < 0) → ((a1.toInt ≤ (255 : Int) → zqm 53 [.ref 13] h (fun rv h3 => zri rv (fun v3 => ((v3.toInt = 0 → zqm 54 [.ref 13, .int a1] h3 (fun rv h5 => zri rv (fun v5 => Q (some (.int v5)) h5))) ∧ (¬ (v3.toInt = 0) → Q (some (.int (-1000003 : Int32))) h3))))) ∧ (¬ (a1.toInt ≤ (255 : Int)) → Q (some (.int (-1000001 : Int32))) h))))) : zqm 84 [.ref 0, .int a1] h Q := by
  refine zqm_of zp_84 (fun n => ?_)
  show zQ n 84 0 [some (.ref 0), some (.int a1)] [] h Q
  refine zQ_seq 1 (pc' := 1) (L' := [some (.ref 0), some (.int a1)]) (S' := [.int a1]) (h' := h) zp_84 rfl ?_
  refine zQ_if zp_84 rfl (t := 11) rfl (i := a1.toInt) rfl (fun c1 => ?_) (fun c1 => ?_)
  · refine zQ_seq 1 (pc' := 13) (L' := [some (.ref 0), some (.int a1)]) (S' := [.int (-1000001 : Int32)]) (h' := h) zp_84 rfl ?_
    exact zQ_retI zp_84 rfl (H.1 c1)
  · refine zQ_seq 2 (pc' := 8) (L' := [some (.ref 0), some (.int a1)]) (S' := [.int (Int32.ofInt 255), .int a1]) (h' := h) zp_84 rfl ?_
    refine zQ_ic zp_84 rfl (t := 14) rfl (i := a1.toInt) (j := (255 : Int)) rfl kc_255 (fun c2 => ?_) (fun c2 => ?_)
    · refine zQ_seq 2 (pc' := 18) (L' := [some (.ref 0), some (.int a1)]) (S' := [.ref 13]) (h' := h) zp_84 rfl ?_
      refine zQ_cvI (M' := 53) (as := [.ref 13]) (S' := []) zp_84 rfl rfl zp_53 (Or.inr rfl) rfl rfl (zqm_imp ((H.2 c1).1 c2) (fun rv h3 r3 => zri_imp r3 (fun v3 r3' => ?_)))
      refine zQ_if zp_84 rfl (t := 29) rfl (i := v3.toInt) rfl (fun c4 => ?_) (fun c4 => ?_)
      · refine zQ_seq 3 (pc' := 34) (L' := [some (.ref 0), some (.int a1)]) (S' := [.int a1, .ref 13]) (h' := h3) zp_84 rfl ?_
        refine zQ_cvI (M' := 54) (as := [.ref 13, .int a1]) (S' := []) zp_84 rfl rfl zp_54 (Or.inl rfl) rfl rfl (zqm_imp (r3'.1 c4) (fun rv h5 r5 => zri_imp r5 (fun v5 r5' => ?_)))
        exact zQ_retI zp_84 rfl r5'
      · refine zQ_seq 1 (pc' := 26) (L' := [some (.ref 0), some (.int a1)]) (S' := [.int (-1000003 : Int32)]) (h' := h3) zp_84 rfl ?_
        refine zQ_goto zp_84 rfl (t := 37) rfl ?_
        exact zQ_retI zp_84 rfl (r3'.2 c4)
    · refine zQ_seq 1 (pc' := 13) (L' := [some (.ref 0), some (.int a1)]) (S' := [.int (-1000001 : Int32)]) (h' := h) zp_84 rfl ?_
      exact zQ_retI zp_84 rfl ((H.2 c1).2 c2)
theorem s_85 {h : zH} {Q : Option Value → zH → Prop} (H : zqm 55 [.ref 13, .ref 23] h (fun _ h1 => (((h1.1 13 3).toInt = 0 → zqm 11 [.ref 15, .ref 23] h1 (fun _ h3 => zqm 0 [.ref 48] h3 (fun _ h4 => Q (some (.int (h4.1 15 6))) h4))) ∧ (¬ ((h1.1 13 3).toInt = 0) → Q (some (.int ((-1000100 : Int32) - (h1.1 13 2)))) (zSet h1 0 10 (h1.1 13 3)))))) : zqm 85 [.ref 0] h Q := by
  refine zqm_of zp_85 (fun n => ?_)
  show zQ n 85 0 [some (.ref 0)] [] h Q
  refine zQ_seq 4 (pc' := 8) (L' := [some (.ref 0)]) (S' := [.ref 23, .ref 13]) (h' := h) zp_85 rfl ?_
  refine zQ_cvV (M' := 55) (as := [.ref 13, .ref 23]) (S' := []) zp_85 rfl rfl zp_55 rfl rfl rfl (zqm_imp H (fun rv h1 r1 => ?_))
  refine zQ_seq 3 (pc' := 18) (L' := [some (.ref 0)]) (S' := [.int (h1.1 13 3)]) (h' := h1) zp_85 rfl ?_
  refine zQ_if zp_85 rfl (t := 43) rfl (i := (h1.1 13 3).toInt) rfl (fun c2 => ?_) (fun c2 => ?_)
  · refine zQ_seq 4 (pc' := 51) (L' := [some (.ref 0)]) (S' := [.ref 23, .ref 15]) (h' := h1) zp_85 rfl ?_
    refine zQ_cvV (M' := 11) (as := [.ref 15, .ref 23]) (S' := []) zp_85 rfl rfl zp_11 rfl rfl rfl (zqm_imp (r1.1 c2) (fun rv h3 r3 => ?_))
    refine zQ_seq 2 (pc' := 58) (L' := [some (.ref 0)]) (S' := [.ref 48]) (h' := h3) zp_85 rfl ?_
    refine zQ_cvV (M' := 0) (as := [.ref 48]) (S' := []) zp_85 rfl rfl zp_0 rfl rfl rfl (zqm_imp r3 (fun rv h4 r4 => ?_))
    refine zQ_seq 3 (pc' := 68) (L' := [some (.ref 0)]) (S' := [.int (h4.1 15 6)]) (h' := h4) zp_85 rfl ?_
    exact zQ_retI zp_85 rfl r4
  · refine zQ_seq 10 (pc' := 42) (L' := [some (.ref 0)]) (S' := [.int ((-1000100 : Int32) - (h1.1 13 2))]) (h' := (zSet h1 0 10 (h1.1 13 3))) zp_85 rfl ?_
    exact zQ_retI zp_85 rfl (r1.2 c2)
theorem s_86 {h : zH} {Q : Option Value → zH → Prop} (H : Q (some (.int (h.1 0 10))) h) : zqm 86 [.ref 0] h Q := by
  refine zqm_of zp_86 (fun n => ?_)
  show zQ n 86 0 [some (.ref 0)] [] h Q
  refine zQ_seq 2 (pc' := 4) (L' := [some (.ref 0)]) (S' := [.int (h.1 0 10)]) (h' := h) zp_86 rfl ?_
  exact zQ_retI zp_86 rfl H
theorem s_87 {h : zH} {Q : Option Value → zH → Prop} (H : ((¬ (h.1 48 4).toInt = 0 → zqm 2 [.ref 48, .ref 15] h (fun _ h2 => Q (some (.int (h2.1 48 4))) h2)) ∧ (¬ (¬ (h.1 48 4).toInt = 0) → Q (some (.int (-1000002 : Int32))) h))) : zqm 87 [.ref 0] h Q := by
  refine zqm_of zp_87 (fun n => ?_)
  show zQ n 87 0 [some (.ref 0)] [] h Q
  refine zQ_seq 3 (pc' := 7) (L' := [some (.ref 0)]) (S' := [.int (h.1 48 4)]) (h' := h) zp_87 rfl ?_
  refine zQ_if zp_87 rfl (t := 13) rfl (i := (h.1 48 4).toInt) rfl (fun c1 => ?_) (fun c1 => ?_)
  · refine zQ_seq 4 (pc' := 21) (L' := [some (.ref 0)]) (S' := [.ref 15, .ref 48]) (h' := h) zp_87 rfl ?_
    refine zQ_cvV (M' := 2) (as := [.ref 48, .ref 15]) (S' := []) zp_87 rfl rfl zp_2 rfl rfl rfl (zqm_imp (H.1 c1) (fun rv h2 r2 => ?_))
    refine zQ_seq 3 (pc' := 31) (L' := [some (.ref 0)]) (S' := [.int (h2.1 48 4)]) (h' := h2) zp_87 rfl ?_
    exact zQ_retI zp_87 rfl r2
  · refine zQ_seq 1 (pc' := 12) (L' := [some (.ref 0)]) (S' := [.int (-1000002 : Int32)]) (h' := h) zp_87 rfl ?_
    exact zQ_retI zp_87 rfl (H.2 c1)
theorem s_88 {h : zH} {Q : Option Value → zH → Prop} (a1 : Int32) (a2 : Int32) (H : ((¬ (h.1 15 0).toInt = 0 → zqm 119 [.int a1] h (fun rv h2 => zri rv (fun v2 => ((v2.toInt = 0 → Q (some (.int (-1000001 : Int32))) h2) ∧ (¬ (v2.toInt = 0) → ((a2.toInt < 0 → Q (some (.int (-1000001 : Int32))) h2) ∧ (¬ (a2.toInt < 0) → ((a2.toInt < (4 : Int) → zqm 48 [.int (h2.1 15 4), .int a1] h2 (fun rv h6 => zri rv (fun v6 => ((¬ v6.toInt = a2.toInt → zqm 1 [.ref 48, .ref 15] h6 (fun _ h8 => zqm 27 [.ref 15, .int (h8.1 15 4), .int (((Int32.ofInt 4) * a1) + a2)] h8 (fun rv h9 => zri rv (fun v9 => zqm 25 [.ref 15] (zSet h9 15 4 v9) (fun rv h10 => zri rv (fun v10 => Q (some (.int v10)) h10)))))) ∧ (¬ (¬ v6.toInt = a2.toInt) → Q (some (.int (-1000002 : Int32))) h6))))) ∧ (¬ (a2.toInt < (4 : Int)) → Q (some (.int (-1000001 : Int32))) h2))))))))) ∧ (¬ (¬ (h.1 15 0).toInt = 0) → Q (some (.int (-1000002 : Int32))) h))) : zqm 88 [.ref 0, .int a1, .int a2] h Q := by
  refine zqm_of zp_88 (fun n => ?_)
  show zQ n 88 0 [some (.ref 0), some (.int a1), some (.int a2)] [] h Q
  refine zQ_seq 3 (pc' := 7) (L' := [some (.ref 0), some (.int a1), some (.int a2)]) (S' := [.int (h.1 15 0)]) (h' := h) zp_88 rfl ?_
  refine zQ_if zp_88 rfl (t := 13) rfl (i := (h.1 15 0).toInt) rfl (fun c1 => ?_) (fun c1 => ?_)
  · refine zQ_seq 1 (pc' := 14) (L' := [some (.ref 0), some (.int a1), some (.int a2)]) (S' := [.int a1]) (h' := h) zp_88 rfl ?_
    refine zQ_csI (M' := 119) (as := [.int a1]) (S' := []) zp_88 rfl rfl rfl zp_119 (Or.inr rfl) rfl rfl (zqm_imp (H.1 c1) (fun rv h2 r2 => zri_imp r2 (fun v2 r2' => ?_)))
    refine zQ_if zp_88 rfl (t := 29) rfl (i := v2.toInt) rfl (fun c3 => ?_) (fun c3 => ?_)
    · refine zQ_seq 1 (pc' := 31) (L' := [some (.ref 0), some (.int a1), some (.int a2)]) (S' := [.int (-1000001 : Int32)]) (h' := h2) zp_88 rfl ?_
      exact zQ_retI zp_88 rfl (r2'.1 c3)
    · refine zQ_seq 1 (pc' := 21) (L' := [some (.ref 0), some (.int a1), some (.int a2)]) (S' := [.int a2]) (h' := h2) zp_88 rfl ?_
      refine zQ_if zp_88 rfl (t := 29) rfl (i := a2.toInt) rfl (fun c4 => ?_) (fun c4 => ?_)
      · refine zQ_seq 1 (pc' := 31) (L' := [some (.ref 0), some (.int a1), some (.int a2)]) (S' := [.int (-1000001 : Int32)]) (h' := h2) zp_88 rfl ?_
        exact zQ_retI zp_88 rfl ((r2'.2 c3).1 c4)
      · refine zQ_seq 2 (pc' := 26) (L' := [some (.ref 0), some (.int a1), some (.int a2)]) (S' := [.int (Int32.ofInt 4), .int a2]) (h' := h2) zp_88 rfl ?_
        refine zQ_ic zp_88 rfl (t := 32) rfl (i := a2.toInt) (j := (4 : Int)) rfl kc_4 (fun c5 => ?_) (fun c5 => ?_)
        · refine zQ_seq 4 (pc' := 40) (L' := [some (.ref 0), some (.int a1), some (.int a2)]) (S' := [.int a1, .int (h2.1 15 4)]) (h' := h2) zp_88 rfl ?_
          refine zQ_csI (M' := 48) (as := [.int (h2.1 15 4), .int a1]) (S' := []) zp_88 rfl rfl rfl zp_48 (Or.inl rfl) rfl rfl (zqm_imp (((r2'.2 c3).2 c4).1 c5) (fun rv h6 r6 => zri_imp r6 (fun v6 r6' => ?_)))
          refine zQ_seq 1 (pc' := 44) (L' := [some (.ref 0), some (.int a1), some (.int a2)]) (S' := [.int a2, .int v6]) (h' := h6) zp_88 rfl ?_
          refine zQ_ic zp_88 rfl (t := 50) rfl (i := v6.toInt) (j := a2.toInt) rfl rfl (fun c7 => ?_) (fun c7 => ?_)
          · refine zQ_seq 4 (pc' := 58) (L' := [some (.ref 0), some (.int a1), some (.int a2)]) (S' := [.ref 15, .ref 48]) (h' := h6) zp_88 rfl ?_
            refine zQ_cvV (M' := 1) (as := [.ref 48, .ref 15]) (S' := []) zp_88 rfl rfl zp_1 rfl rfl rfl (zqm_imp (r6'.1 c7) (fun rv h8 r8 => ?_))
            refine zQ_seq 12 (pc' := 81) (L' := [some (.ref 0), some (.int a1), some (.int a2)]) (S' := [.int (((Int32.ofInt 4) * a1) + a2), .int (h8.1 15 4), .ref 15, .ref 15]) (h' := h8) zp_88 rfl ?_
            refine zQ_cvI (M' := 27) (as := [.ref 15, .int (h8.1 15 4), .int (((Int32.ofInt 4) * a1) + a2)]) (S' := [.ref 15]) zp_88 rfl rfl zp_27 (Or.inl rfl) rfl rfl (zqm_imp r8 (fun rv h9 r9 => zri_imp r9 (fun v9 r9' => ?_)))
            refine zQ_seq 3 (pc' := 91) (L' := [some (.ref 0), some (.int a1), some (.int a2)]) (S' := [.ref 15]) (h' := (zSet h9 15 4 v9)) zp_88 rfl ?_
            refine zQ_cvI (M' := 25) (as := [.ref 15]) (S' := []) zp_88 rfl rfl zp_25 (Or.inl rfl) rfl rfl (zqm_imp r9' (fun rv h10 r10 => zri_imp r10 (fun v10 r10' => ?_)))
            exact zQ_retI zp_88 rfl r10'
          · refine zQ_seq 1 (pc' := 49) (L' := [some (.ref 0), some (.int a1), some (.int a2)]) (S' := [.int (-1000002 : Int32)]) (h' := h6) zp_88 rfl ?_
            exact zQ_retI zp_88 rfl (r6'.2 c7)
        · refine zQ_seq 1 (pc' := 31) (L' := [some (.ref 0), some (.int a1), some (.int a2)]) (S' := [.int (-1000001 : Int32)]) (h' := h2) zp_88 rfl ?_
          exact zQ_retI zp_88 rfl (((r2'.2 c3).2 c4).2 c5)
  · refine zQ_seq 1 (pc' := 12) (L' := [some (.ref 0), some (.int a1), some (.int a2)]) (S' := [.int (-1000002 : Int32)]) (h' := h) zp_88 rfl ?_
    exact zQ_retI zp_88 rfl (H.2 c1)
theorem s_89 {h : zH} {Q : Option Value → zH → Prop} (a1 : Int32) (H : ((¬ (h.1 15 0).toInt = 0 → zqm 119 [.int a1] h (fun rv h2 => zri rv (fun v2 => ((¬ v2.toInt = 0 → zqm 1 [.ref 48, .ref 15] h2 (fun _ h4 => zqm 50 [.int (h4.1 15 3), .int a1, .int (Int32.ofInt 1)] h4 (fun rv h5 => zri rv (fun v5 => zqm 48 [.int v5, .int a1] (zSet h5 15 3 v5) (fun rv h6 => zri rv (fun v6 => Q (some (.int v6)) h6)))))) ∧ (¬ (¬ v2.toInt = 0) → Q (some (.int (-1000001 : Int32))) h2))))) ∧ (¬ (¬ (h.1 15 0).toInt = 0) → Q (some (.int (-1000002 : Int32))) h))) : zqm 89 [.ref 0, .int a1] h Q := by
  refine zqm_of zp_89 (fun n => ?_)
  show zQ n 89 0 [some (.ref 0), some (.int a1)] [] h Q
  refine zQ_seq 3 (pc' := 7) (L' := [some (.ref 0), some (.int a1)]) (S' := [.int (h.1 15 0)]) (h' := h) zp_89 rfl ?_
  refine zQ_if zp_89 rfl (t := 13) rfl (i := (h.1 15 0).toInt) rfl (fun c1 => ?_) (fun c1 => ?_)
  · refine zQ_seq 1 (pc' := 14) (L' := [some (.ref 0), some (.int a1)]) (S' := [.int a1]) (h' := h) zp_89 rfl ?_
    refine zQ_csI (M' := 119) (as := [.int a1]) (S' := []) zp_89 rfl rfl rfl zp_119 (Or.inr rfl) rfl rfl (zqm_imp (H.1 c1) (fun rv h2 r2 => zri_imp r2 (fun v2 r2' => ?_)))
    refine zQ_if zp_89 rfl (t := 23) rfl (i := v2.toInt) rfl (fun c3 => ?_) (fun c3 => ?_)
    · refine zQ_seq 4 (pc' := 31) (L' := [some (.ref 0), some (.int a1)]) (S' := [.ref 15, .ref 48]) (h' := h2) zp_89 rfl ?_
      refine zQ_cvV (M' := 1) (as := [.ref 48, .ref 15]) (S' := []) zp_89 rfl rfl zp_1 rfl rfl rfl (zqm_imp (r2'.1 c3) (fun rv h4 r4 => ?_))
      refine zQ_seq 7 (pc' := 47) (L' := [some (.ref 0), some (.int a1)]) (S' := [.int (Int32.ofInt 1), .int a1, .int (h4.1 15 3), .ref 15]) (h' := h4) zp_89 rfl ?_
      refine zQ_csI (M' := 50) (as := [.int (h4.1 15 3), .int a1, .int (Int32.ofInt 1)]) (S' := [.ref 15]) zp_89 rfl rfl rfl zp_50 (Or.inl rfl) rfl rfl (zqm_imp r4 (fun rv h5 r5 => zri_imp r5 (fun v5 r5' => ?_)))
      refine zQ_seq 5 (pc' := 61) (L' := [some (.ref 0), some (.int a1)]) (S' := [.int a1, .int v5]) (h' := (zSet h5 15 3 v5)) zp_89 rfl ?_
      refine zQ_csI (M' := 48) (as := [.int v5, .int a1]) (S' := []) zp_89 rfl rfl rfl zp_48 (Or.inl rfl) rfl rfl (zqm_imp r5' (fun rv h6 r6 => zri_imp r6 (fun v6 r6' => ?_)))
      exact zQ_retI zp_89 rfl r6'
    · refine zQ_seq 1 (pc' := 22) (L' := [some (.ref 0), some (.int a1)]) (S' := [.int (-1000001 : Int32)]) (h' := h2) zp_89 rfl ?_
      exact zQ_retI zp_89 rfl (r2'.2 c3)
  · refine zQ_seq 1 (pc' := 12) (L' := [some (.ref 0), some (.int a1)]) (S' := [.int (-1000002 : Int32)]) (h' := h) zp_89 rfl ?_
    exact zQ_retI zp_89 rfl (H.2 c1)
theorem s_90 {h : zH} {Q : Option Value → zH → Prop} (a1 : Int32) (H : zqm 20 [.ref 15, .int a1] h (fun rv h1 => zri rv (fun v1 => ((¬ v1.toInt = 0 → zqm 1 [.ref 48, .ref 15] h1 (fun _ h3 => zqm 25 [.ref 15] h3 (fun rv h4 => zri rv (fun v4 => zqm 21 [.ref 15, .int a1] h4 (fun rv h5 => zri rv (fun v5 => zqm 52 [.int (h5.1 15 3), .int (h5.1 15 4), .int (v4 &&& v5)] h5 (fun rv h6 => zri rv (fun v6 => zqm 217 [.int (v4 &&& v5)] (zSet h6 15 3 v6) (fun rv h7 => zri rv (fun v7 => Q (some (.int v7)) h7)))))))))) ∧ (¬ (¬ v1.toInt = 0) → Q (some (.int (-1000001 : Int32))) h1))))) : zqm 90 [.ref 0, .int a1] h Q := by
  refine zqm_of zp_90 (fun n => ?_)
  show zQ n 90 0 [some (.ref 0), some (.int a1), none] [] h Q
  refine zQ_seq 3 (pc' := 5) (L' := [some (.ref 0), some (.int a1), none]) (S' := [.int a1, .ref 15]) (h' := h) zp_90 rfl ?_
  refine zQ_cvI (M' := 20) (as := [.ref 15, .int a1]) (S' := []) zp_90 rfl rfl zp_20 (Or.inr rfl) rfl rfl (zqm_imp H (fun rv h1 r1 => zri_imp r1 (fun v1 r1' => ?_)))
  refine zQ_if zp_90 rfl (t := 14) rfl (i := v1.toInt) rfl (fun c2 => ?_) (fun c2 => ?_)
  · refine zQ_seq 4 (pc' := 22) (L' := [some (.ref 0), some (.int a1), none]) (S' := [.ref 15, .ref 48]) (h' := h1) zp_90 rfl ?_
    refine zQ_cvV (M' := 1) (as := [.ref 48, .ref 15]) (S' := []) zp_90 rfl rfl zp_1 rfl rfl rfl (zqm_imp (r1'.1 c2) (fun rv h3 r3 => ?_))
    refine zQ_seq 2 (pc' := 29) (L' := [some (.ref 0), some (.int a1), none]) (S' := [.ref 15]) (h' := h3) zp_90 rfl ?_
    refine zQ_cvI (M' := 25) (as := [.ref 15]) (S' := []) zp_90 rfl rfl zp_25 (Or.inl rfl) rfl rfl (zqm_imp r3 (fun rv h4 r4 => zri_imp r4 (fun v4 r4' => ?_)))
    refine zQ_seq 3 (pc' := 37) (L' := [some (.ref 0), some (.int a1), none]) (S' := [.int a1, .ref 15, .int v4]) (h' := h4) zp_90 rfl ?_
    refine zQ_cvI (M' := 21) (as := [.ref 15, .int a1]) (S' := [.int v4]) zp_90 rfl rfl zp_21 (Or.inl rfl) rfl rfl (zqm_imp r4' (fun rv h5 r5 => zri_imp r5 (fun v5 r5' => ?_)))
    refine zQ_seq 11 (pc' := 61) (L' := [some (.ref 0), some (.int a1), some (.int (v4 &&& v5))]) (S' := [.int (v4 &&& v5), .int (h5.1 15 4), .int (h5.1 15 3), .ref 15]) (h' := h5) zp_90 rfl ?_
    refine zQ_csI (M' := 52) (as := [.int (h5.1 15 3), .int (h5.1 15 4), .int (v4 &&& v5)]) (S' := [.ref 15]) zp_90 rfl rfl rfl zp_52 (Or.inl rfl) rfl rfl (zqm_imp r5' (fun rv h6 r6 => zri_imp r6 (fun v6 r6' => ?_)))
    refine zQ_seq 2 (pc' := 68) (L' := [some (.ref 0), some (.int a1), some (.int (v4 &&& v5))]) (S' := [.int (v4 &&& v5)]) (h' := (zSet h6 15 3 v6)) zp_90 rfl ?_
    refine zQ_csI (M' := 217) (as := [.int (v4 &&& v5)]) (S' := []) zp_90 rfl rfl rfl zp_217 (Or.inl rfl) rfl rfl (zqm_imp r6' (fun rv h7 r7 => zri_imp r7 (fun v7 r7' => ?_)))
    exact zQ_retI zp_90 rfl r7'
  · refine zQ_seq 1 (pc' := 13) (L' := [some (.ref 0), some (.int a1), none]) (S' := [.int (-1000001 : Int32)]) (h' := h1) zp_90 rfl ?_
    exact zQ_retI zp_90 rfl (r1'.2 c2)
theorem s_91 {h : zH} {Q : Option Value → zH → Prop} (a1 : Int32) (H : (∀ n, ((¬ (h.1 15 0).toInt = 0 → ((a1.toInt < (1 : Int) → Q (some (.int (-1000001 : Int32))) h) ∧ (¬ (a1.toInt < (1 : Int)) → ((a1.toInt ≤ (24 : Int) → ((((h.1 15 5) + a1).toInt ≤ (999 : Int) → zQ n 91 47 [some (.ref 0), some (.int a1), some (.int (Int32.ofInt 0))] [] h Q) ∧ (¬ (((h.1 15 5) + a1).toInt ≤ (999 : Int)) → Q (some (.int (-1000003 : Int32))) h))) ∧ (¬ (a1.toInt ≤ (24 : Int)) → Q (some (.int (-1000001 : Int32))) h))))) ∧ (¬ (¬ (h.1 15 0).toInt = 0) → Q (some (.int (-1000002 : Int32))) h)))) : zqm 91 [.ref 0, .int a1] h Q := by
  refine zqm_of zp_91 (fun n => ?_)
  have H := H n
  show zQ n 91 0 [some (.ref 0), some (.int a1), none] [] h Q
  refine zQ_seq 3 (pc' := 7) (L' := [some (.ref 0), some (.int a1), none]) (S' := [.int (h.1 15 0)]) (h' := h) zp_91 rfl ?_
  refine zQ_if zp_91 rfl (t := 13) rfl (i := (h.1 15 0).toInt) rfl (fun c1 => ?_) (fun c1 => ?_)
  · refine zQ_seq 2 (pc' := 15) (L' := [some (.ref 0), some (.int a1), none]) (S' := [.int (Int32.ofInt 1), .int a1]) (h' := h) zp_91 rfl ?_
    refine zQ_ic zp_91 rfl (t := 24) rfl (i := a1.toInt) (j := (1 : Int)) rfl kc_1 (fun c2 => ?_) (fun c2 => ?_)
    · refine zQ_seq 1 (pc' := 26) (L' := [some (.ref 0), some (.int a1), none]) (S' := [.int (-1000001 : Int32)]) (h' := h) zp_91 rfl ?_
      exact zQ_retI zp_91 rfl ((H.1 c1).1 c2)
    · refine zQ_seq 2 (pc' := 21) (L' := [some (.ref 0), some (.int a1), none]) (S' := [.int (Int32.ofInt 24), .int a1]) (h' := h) zp_91 rfl ?_
      refine zQ_ic zp_91 rfl (t := 27) rfl (i := a1.toInt) (j := (24 : Int)) rfl kc_24 (fun c3 => ?_) (fun c3 => ?_)
      · refine zQ_seq 6 (pc' := 39) (L' := [some (.ref 0), some (.int a1), none]) (S' := [.int (Int32.ofInt 999), .int ((h.1 15 5) + a1)]) (h' := h) zp_91 rfl ?_
        refine zQ_ic zp_91 rfl (t := 45) rfl (i := ((h.1 15 5) + a1).toInt) (j := (999 : Int)) rfl kc_999 (fun c4 => ?_) (fun c4 => ?_)
        · refine zQ_seq 2 (pc' := 47) (L' := [some (.ref 0), some (.int a1), some (.int (Int32.ofInt 0))]) (S' := []) (h' := h) zp_91 rfl ?_
          exact ((((H.1 c1).2 c2).1 c3).1 c4)
        · refine zQ_seq 1 (pc' := 44) (L' := [some (.ref 0), some (.int a1), none]) (S' := [.int (-1000003 : Int32)]) (h' := h) zp_91 rfl ?_
          exact zQ_retI zp_91 rfl ((((H.1 c1).2 c2).1 c3).2 c4)
      · refine zQ_seq 1 (pc' := 26) (L' := [some (.ref 0), some (.int a1), none]) (S' := [.int (-1000001 : Int32)]) (h' := h) zp_91 rfl ?_
        exact zQ_retI zp_91 rfl (((H.1 c1).2 c2).2 c3)
  · refine zQ_seq 1 (pc' := 12) (L' := [some (.ref 0), some (.int a1), none]) (S' := [.int (-1000002 : Int32)]) (h' := h) zp_91 rfl ?_
    exact zQ_retI zp_91 rfl (H.2 c1)
theorem s_91_47 {n : Nat} {h : zH} {Q : Option Value → zH → Prop} (x1 : Int32) (x2 : Int32) (H : ((x1.toInt ≤ x2.toInt → zqm 25 [.ref 15] h (fun rv h2 => zri rv (fun v2 => Q (some (.int v2)) h2))) ∧ (¬ (x1.toInt ≤ x2.toInt) → zqm 1 [.ref 48, .ref 15] h (fun _ h3 => zqm 28 [.ref 15, .int (h3.1 15 3)] h3 (fun rv h4 => zri rv (fun v4 => zQ n 91 47 [some (.ref 0), some (.int x1), some (.int (x2 + Int32.ofInt 1))] [] (zSet (zSet h4 15 3 v4) 15 5 ((h4.1 15 5) + (Int32.ofInt 1))) Q)))))) : zQ (n + 1) 91 47 [some (.ref 0), some (.int x1), some (.int x2)] [] h Q := by
  refine zQ_seqL 1 (pc' := 49) (L' := [some (.ref 0), some (.int x1), some (.int x2)]) (S' := [.int x1, .int x2]) (h' := h) zp_91 rfl ?_
  refine zQ_ic zp_91 rfl (t := 103) rfl (i := x2.toInt) (j := x1.toInt) rfl rfl (fun c1 => ?_) (fun c1 => ?_)
  · refine zQ_seq 2 (pc' := 107) (L' := [some (.ref 0), some (.int x1), some (.int x2)]) (S' := [.ref 15]) (h' := h) zp_91 rfl ?_
    refine zQ_cvI (M' := 25) (as := [.ref 15]) (S' := []) zp_91 rfl rfl zp_25 (Or.inl rfl) rfl rfl (zqm_imp (H.1 c1) (fun rv h2 r2 => zri_imp r2 (fun v2 r2' => ?_)))
    exact zQ_retI zp_91 rfl r2'
  · refine zQ_seq 4 (pc' := 60) (L' := [some (.ref 0), some (.int x1), some (.int x2)]) (S' := [.ref 15, .ref 48]) (h' := h) zp_91 rfl ?_
    refine zQ_cvV (M' := 1) (as := [.ref 48, .ref 15]) (S' := []) zp_91 rfl rfl zp_1 rfl rfl rfl (zqm_imp (H.2 c1) (fun rv h3 r3 => ?_))
    refine zQ_seq 7 (pc' := 78) (L' := [some (.ref 0), some (.int x1), some (.int x2)]) (S' := [.int (h3.1 15 3), .ref 15, .ref 15]) (h' := h3) zp_91 rfl ?_
    refine zQ_cvI (M' := 28) (as := [.ref 15, .int (h3.1 15 3)]) (S' := [.ref 15]) zp_91 rfl rfl zp_28 (Or.inl rfl) rfl rfl (zqm_imp r3 (fun rv h4 r4 => zri_imp r4 (fun v4 r4' => ?_)))
    refine zQ_seq 9 (pc' := 100) (L' := [some (.ref 0), some (.int x1), some (.int (x2 + Int32.ofInt 1))]) (S' := []) (h' := (zSet (zSet h4 15 3 v4) 15 5 ((h4.1 15 5) + (Int32.ofInt 1)))) zp_91 rfl ?_
    refine zQ_goto zp_91 rfl (t := 47) rfl ?_
    exact r4'
theorem s_92 {h : zH} {Q : Option Value → zH → Prop} (a1 : Int32) (a2 : Int32) (H : ((¬ (h.1 15 0).toInt = 0 → zqm 119 [.int a1] h (fun rv h2 => zri rv (fun v2 => ((¬ v2.toInt = 0 → ((a2.toInt = 0 → zqm 48 [.int (h2.1 15 3), .int a1] h2 (fun rv h5 => zri rv (fun v5 => Q (some (.int v5)) h5))) ∧ ((a2.toInt = 1 → zqm 48 [.int (h2.1 15 4), .int a1] h2 (fun rv h6 => zri rv (fun v6 => Q (some (.int v6)) h6))) ∧ ((a2.toInt = 2 → zqm 22 [.ref 15, .int a1] h2 (fun rv h7 => zri rv (fun v7 => Q (some (.int v7)) h7))) ∧ ((a2.toInt = 3 → Q (some (.int (((h2.1 15 7) >>> (a1 &&& 31)) &&& (Int32.ofInt 1)))) h2) ∧ ((a2.toInt = 4 → zqm 23 [.ref 15, .int a1] h2 (fun rv h8 => zri rv (fun v8 => Q (some (.int v8)) h8))) ∧ ((a2.toInt < 0 ∨ 4 < a2.toInt) → Q (some (.int (-1000001 : Int32))) h2))))))) ∧ (¬ (¬ v2.toInt = 0) → Q (some (.int (-1000001 : Int32))) h2))))) ∧ (¬ (¬ (h.1 15 0).toInt = 0) → Q (some (.int (-1000002 : Int32))) h))) : zqm 92 [.ref 0, .int a1, .int a2] h Q := by
  refine zqm_of zp_92 (fun n => ?_)
  show zQ n 92 0 [some (.ref 0), some (.int a1), some (.int a2)] [] h Q
  refine zQ_seq 3 (pc' := 7) (L' := [some (.ref 0), some (.int a1), some (.int a2)]) (S' := [.int (h.1 15 0)]) (h' := h) zp_92 rfl ?_
  refine zQ_if zp_92 rfl (t := 13) rfl (i := (h.1 15 0).toInt) rfl (fun c1 => ?_) (fun c1 => ?_)
  · refine zQ_seq 1 (pc' := 14) (L' := [some (.ref 0), some (.int a1), some (.int a2)]) (S' := [.int a1]) (h' := h) zp_92 rfl ?_
    refine zQ_csI (M' := 119) (as := [.int a1]) (S' := []) zp_92 rfl rfl rfl zp_119 (Or.inr rfl) rfl rfl (zqm_imp (H.1 c1) (fun rv h2 r2 => zri_imp r2 (fun v2 r2' => ?_)))
    refine zQ_if zp_92 rfl (t := 23) rfl (i := v2.toInt) rfl (fun c3 => ?_) (fun c3 => ?_)
    · refine zQ_seq 1 (pc' := 24) (L' := [some (.ref 0), some (.int a1), some (.int a2)]) (S' := [.int a2]) (h' := h2) zp_92 rfl ?_
      refine zQ_tsw zp_92 rfl (fun t ht => ?_)
      rcases (by omega : a2.toInt = 0 ∨ a2.toInt = 1 ∨ a2.toInt = 2 ∨ a2.toInt = 3 ∨ a2.toInt = 4 ∨ (a2.toInt < 0 ∨ 4 < a2.toInt)) with c4 | c4 | c4 | c4 | c4 | c4
      · have e : (some 60 : Option Nat) = some t := by rw [c4] at ht; exact ht
        cases e
        refine zQ_seq 4 (pc' := 68) (L' := [some (.ref 0), some (.int a1), some (.int a2)]) (S' := [.int a1, .int (h2.1 15 3)]) (h' := h2) zp_92 rfl ?_
        refine zQ_csI (M' := 48) (as := [.int (h2.1 15 3), .int a1]) (S' := []) zp_92 rfl rfl rfl zp_48 (Or.inl rfl) rfl rfl (zqm_imp ((r2'.1 c3).1 c4) (fun rv h5 r5 => zri_imp r5 (fun v5 r5' => ?_)))
        exact zQ_retI zp_92 rfl r5'
      · have e : (some 72 : Option Nat) = some t := by rw [c4] at ht; exact ht
        cases e
        refine zQ_seq 4 (pc' := 80) (L' := [some (.ref 0), some (.int a1), some (.int a2)]) (S' := [.int a1, .int (h2.1 15 4)]) (h' := h2) zp_92 rfl ?_
        refine zQ_csI (M' := 48) (as := [.int (h2.1 15 4), .int a1]) (S' := []) zp_92 rfl rfl rfl zp_48 (Or.inl rfl) rfl rfl (zqm_imp ((r2'.1 c3).2.1 c4) (fun rv h6 r6 => zri_imp r6 (fun v6 r6' => ?_)))
        exact zQ_retI zp_92 rfl r6'
      · have e : (some 84 : Option Nat) = some t := by rw [c4] at ht; exact ht
        cases e
        refine zQ_seq 3 (pc' := 89) (L' := [some (.ref 0), some (.int a1), some (.int a2)]) (S' := [.int a1, .ref 15]) (h' := h2) zp_92 rfl ?_
        refine zQ_cvI (M' := 22) (as := [.ref 15, .int a1]) (S' := []) zp_92 rfl rfl zp_22 (Or.inl rfl) rfl rfl (zqm_imp ((r2'.1 c3).2.2.1 c4) (fun rv h7 r7 => zri_imp r7 (fun v7 r7' => ?_)))
        exact zQ_retI zp_92 rfl r7'
      · have e : (some 93 : Option Nat) = some t := by rw [c4] at ht; exact ht
        cases e
        refine zQ_seq 7 (pc' := 104) (L' := [some (.ref 0), some (.int a1), some (.int a2)]) (S' := [.int (((h2.1 15 7) >>> (a1 &&& 31)) &&& (Int32.ofInt 1))]) (h' := h2) zp_92 rfl ?_
        exact zQ_retI zp_92 rfl ((r2'.1 c3).2.2.2.1 c4)
      · have e : (some 105 : Option Nat) = some t := by rw [c4] at ht; exact ht
        cases e
        refine zQ_seq 3 (pc' := 110) (L' := [some (.ref 0), some (.int a1), some (.int a2)]) (S' := [.int a1, .ref 15]) (h' := h2) zp_92 rfl ?_
        refine zQ_cvI (M' := 23) (as := [.ref 15, .int a1]) (S' := []) zp_92 rfl rfl zp_23 (Or.inl rfl) rfl rfl (zqm_imp ((r2'.1 c3).2.2.2.2.1 c4) (fun rv h8 r8 => zri_imp r8 (fun v8 r8' => ?_)))
        exact zQ_retI zp_92 rfl r8'
      · have e : (some 114 : Option Nat) = some t := by rw [zTsw_d (t' := 114) rfl c4 ht]
        cases e
        refine zQ_seq 1 (pc' := 116) (L' := [some (.ref 0), some (.int a1), some (.int a2)]) (S' := [.int (-1000001 : Int32)]) (h' := h2) zp_92 rfl ?_
        exact zQ_retI zp_92 rfl ((r2'.1 c3).2.2.2.2.2 c4)
    · refine zQ_seq 1 (pc' := 22) (L' := [some (.ref 0), some (.int a1), some (.int a2)]) (S' := [.int (-1000001 : Int32)]) (h' := h2) zp_92 rfl ?_
      exact zQ_retI zp_92 rfl (r2'.2 c3)
  · refine zQ_seq 1 (pc' := 12) (L' := [some (.ref 0), some (.int a1), some (.int a2)]) (S' := [.int (-1000002 : Int32)]) (h' := h) zp_92 rfl ?_
    exact zQ_retI zp_92 rfl (H.2 c1)
theorem s_93 {h : zH} {Q : Option Value → zH → Prop} (a1 : Int32) (a2 : Int32) (H : zqm 20 [.ref 15, .int a1] h (fun rv h1 => zri rv (fun v1 => ((¬ v1.toInt = 0 → ((a2.toInt = 0 → (0 ≤ a1.toInt → a1.toInt < 4 → Q (some (.int (h1.1 18 a1.toInt.toNat))) h1)) ∧ ((a2.toInt = 1 → (0 ≤ a1.toInt → a1.toInt < 4 → Q (some (.int (h1.1 19 a1.toInt.toNat))) h1)) ∧ ((a2.toInt = 2 → zqm 25 [.ref 15] h1 (fun rv h6 => zri rv (fun v6 => zqm 17 [.ref 15, .int a1, .int v6] h6 (fun rv h7 => zri rv (fun v7 => Q (some (.int v7)) h7))))) ∧ ((a2.toInt = 3 → (0 ≤ a1.toInt → a1.toInt < 4 → Q (some (.int (h1.1 20 a1.toInt.toNat))) h1)) ∧ ((a2.toInt < 0 ∨ 3 < a2.toInt) → Q (some (.int (-1000001 : Int32))) h1)))))) ∧ (¬ (¬ v1.toInt = 0) → Q (some (.int (-1000001 : Int32))) h1))))) : zqm 93 [.ref 0, .int a1, .int a2] h Q := by
  refine zqm_of zp_93 (fun n => ?_)
  show zQ n 93 0 [some (.ref 0), some (.int a1), some (.int a2)] [] h Q
  refine zQ_seq 3 (pc' := 5) (L' := [some (.ref 0), some (.int a1), some (.int a2)]) (S' := [.int a1, .ref 15]) (h' := h) zp_93 rfl ?_
  refine zQ_cvI (M' := 20) (as := [.ref 15, .int a1]) (S' := []) zp_93 rfl rfl zp_20 (Or.inr rfl) rfl rfl (zqm_imp H (fun rv h1 r1 => zri_imp r1 (fun v1 r1' => ?_)))
  refine zQ_if zp_93 rfl (t := 14) rfl (i := v1.toInt) rfl (fun c2 => ?_) (fun c2 => ?_)
  · refine zQ_seq 1 (pc' := 15) (L' := [some (.ref 0), some (.int a1), some (.int a2)]) (S' := [.int a2]) (h' := h1) zp_93 rfl ?_
    refine zQ_tsw zp_93 rfl (fun t ht => ?_)
    rcases (by omega : a2.toInt = 0 ∨ a2.toInt = 1 ∨ a2.toInt = 2 ∨ a2.toInt = 3 ∨ (a2.toInt < 0 ∨ 3 < a2.toInt)) with c3 | c3 | c3 | c3 | c3
    · have e : (some 44 : Option Nat) = some t := by rw [c3] at ht; exact ht
      cases e
      refine zQ_seq 4 (pc' := 52) (L' := [some (.ref 0), some (.int a1), some (.int a2)]) (S' := [.int a1, .ref 18]) (h' := h1) zp_93 rfl ?_
      refine zQ_ial (N := 4) (f := h1.1 18) zp_93 rfl rfl rfl (fun b4 b4' => ?_)
      exact zQ_retI zp_93 rfl (((r1'.1 c2).1 c3) b4 b4')
    · have e : (some 54 : Option Nat) = some t := by rw [c3] at ht; exact ht
      cases e
      refine zQ_seq 4 (pc' := 62) (L' := [some (.ref 0), some (.int a1), some (.int a2)]) (S' := [.int a1, .ref 19]) (h' := h1) zp_93 rfl ?_
      refine zQ_ial (N := 4) (f := h1.1 19) zp_93 rfl rfl rfl (fun b5 b5' => ?_)
      exact zQ_retI zp_93 rfl (((r1'.1 c2).2.1 c3) b5 b5')
    · have e : (some 64 : Option Nat) = some t := by rw [c3] at ht; exact ht
      cases e
      refine zQ_seq 5 (pc' := 73) (L' := [some (.ref 0), some (.int a1), some (.int a2)]) (S' := [.ref 15, .int a1, .ref 15]) (h' := h1) zp_93 rfl ?_
      refine zQ_cvI (M' := 25) (as := [.ref 15]) (S' := [.int a1, .ref 15]) zp_93 rfl rfl zp_25 (Or.inl rfl) rfl rfl (zqm_imp ((r1'.1 c2).2.2.1 c3) (fun rv h6 r6 => zri_imp r6 (fun v6 r6' => ?_)))
      refine zQ_cvI (M' := 17) (as := [.ref 15, .int a1, .int v6]) (S' := []) zp_93 rfl rfl zp_17 (Or.inl rfl) rfl rfl (zqm_imp r6' (fun rv h7 r7 => zri_imp r7 (fun v7 r7' => ?_)))
      exact zQ_retI zp_93 rfl r7'
    · have e : (some 80 : Option Nat) = some t := by rw [c3] at ht; exact ht
      cases e
      refine zQ_seq 4 (pc' := 88) (L' := [some (.ref 0), some (.int a1), some (.int a2)]) (S' := [.int a1, .ref 20]) (h' := h1) zp_93 rfl ?_
      refine zQ_ial (N := 4) (f := h1.1 20) zp_93 rfl rfl rfl (fun b8 b8' => ?_)
      exact zQ_retI zp_93 rfl (((r1'.1 c2).2.2.2.1 c3) b8 b8')
    · have e : (some 90 : Option Nat) = some t := by rw [zTsw_d (t' := 90) rfl c3 ht]
      cases e
      refine zQ_seq 1 (pc' := 92) (L' := [some (.ref 0), some (.int a1), some (.int a2)]) (S' := [.int (-1000001 : Int32)]) (h' := h1) zp_93 rfl ?_
      exact zQ_retI zp_93 rfl ((r1'.1 c2).2.2.2.2 c3)
  · refine zQ_seq 1 (pc' := 13) (L' := [some (.ref 0), some (.int a1), some (.int a2)]) (S' := [.int (-1000001 : Int32)]) (h' := h1) zp_93 rfl ?_
    exact zQ_retI zp_93 rfl (r1'.2 c2)
theorem s_94 {h : zH} {Q : Option Value → zH → Prop} (a1 : Int32) (H : ((¬ (h.1 15 0).toInt = 0 → ((a1.toInt = 0 → zqm 25 [.ref 15] h (fun rv h3 => zri rv (fun v3 => Q (some (.int v3)) h3))) ∧ ((a1.toInt = 1 → Q (some (.int (h.1 15 7))) h) ∧ ((a1.toInt = 2 → zqm 25 [.ref 15] h (fun rv h4 => zri rv (fun v4 => zqm 24 [.ref 15, .int v4] h4 (fun rv h5 => zri rv (fun v5 => Q (some (.int v5)) h5))))) ∧ ((a1.toInt < 0 ∨ 2 < a1.toInt) → Q (some (.int (-1000001 : Int32))) h))))) ∧ (¬ (¬ (h.1 15 0).toInt = 0) → Q (some (.int (-1000002 : Int32))) h))) : zqm 94 [.ref 0, .int a1] h Q := by
  refine zqm_of zp_94 (fun n => ?_)
  show zQ n 94 0 [some (.ref 0), some (.int a1)] [] h Q
  refine zQ_seq 3 (pc' := 7) (L' := [some (.ref 0), some (.int a1)]) (S' := [.int (h.1 15 0)]) (h' := h) zp_94 rfl ?_
  refine zQ_if zp_94 rfl (t := 13) rfl (i := (h.1 15 0).toInt) rfl (fun c1 => ?_) (fun c1 => ?_)
  · refine zQ_seq 1 (pc' := 14) (L' := [some (.ref 0), some (.int a1)]) (S' := [.int a1]) (h' := h) zp_94 rfl ?_
    refine zQ_tsw zp_94 rfl (fun t ht => ?_)
    rcases (by omega : a1.toInt = 0 ∨ a1.toInt = 1 ∨ a1.toInt = 2 ∨ (a1.toInt < 0 ∨ 2 < a1.toInt)) with c2 | c2 | c2 | c2
    · have e : (some 40 : Option Nat) = some t := by rw [c2] at ht; exact ht
      cases e
      refine zQ_seq 2 (pc' := 44) (L' := [some (.ref 0), some (.int a1)]) (S' := [.ref 15]) (h' := h) zp_94 rfl ?_
      refine zQ_cvI (M' := 25) (as := [.ref 15]) (S' := []) zp_94 rfl rfl zp_25 (Or.inl rfl) rfl rfl (zqm_imp ((H.1 c1).1 c2) (fun rv h3 r3 => zri_imp r3 (fun v3 r3' => ?_)))
      exact zQ_retI zp_94 rfl r3'
    · have e : (some 48 : Option Nat) = some t := by rw [c2] at ht; exact ht
      cases e
      refine zQ_seq 3 (pc' := 55) (L' := [some (.ref 0), some (.int a1)]) (S' := [.int (h.1 15 7)]) (h' := h) zp_94 rfl ?_
      exact zQ_retI zp_94 rfl ((H.1 c1).2.1 c2)
    · have e : (some 56 : Option Nat) = some t := by rw [c2] at ht; exact ht
      cases e
      refine zQ_seq 4 (pc' := 64) (L' := [some (.ref 0), some (.int a1)]) (S' := [.ref 15, .ref 15]) (h' := h) zp_94 rfl ?_
      refine zQ_cvI (M' := 25) (as := [.ref 15]) (S' := [.ref 15]) zp_94 rfl rfl zp_25 (Or.inl rfl) rfl rfl (zqm_imp ((H.1 c1).2.2.1 c2) (fun rv h4 r4 => zri_imp r4 (fun v4 r4' => ?_)))
      refine zQ_cvI (M' := 24) (as := [.ref 15, .int v4]) (S' := []) zp_94 rfl rfl zp_24 (Or.inl rfl) rfl rfl (zqm_imp r4' (fun rv h5 r5 => zri_imp r5 (fun v5 r5' => ?_)))
      exact zQ_retI zp_94 rfl r5'
    · have e : (some 71 : Option Nat) = some t := by rw [zTsw_d (t' := 71) rfl c2 ht]
      cases e
      refine zQ_seq 1 (pc' := 73) (L' := [some (.ref 0), some (.int a1)]) (S' := [.int (-1000001 : Int32)]) (h' := h) zp_94 rfl ?_
      exact zQ_retI zp_94 rfl ((H.1 c1).2.2.2 c2)
  · refine zQ_seq 1 (pc' := 12) (L' := [some (.ref 0), some (.int a1)]) (S' := [.int (-1000002 : Int32)]) (h' := h) zp_94 rfl ?_
    exact zQ_retI zp_94 rfl (H.2 c1)
theorem s_95 {h : zH} {Q : Option Value → zH → Prop} (a1 : Int32) (a2 : Int32) (H : ((¬ (h.1 15 0).toInt = 0 → zqm 120 [.int a1] h (fun rv h2 => zri rv (fun v2 => ((v2.toInt = 0 → Q (some (.int (-1000001 : Int32))) h2) ∧ (¬ (v2.toInt = 0) → ((a2.toInt < (-1 : Int) → Q (some (.int (-1000001 : Int32))) h2) ∧ (¬ (a2.toInt < (-1 : Int)) → ((a2.toInt ≤ (1 : Int) → ((¬ a1.toInt = (1 : Int) → zqm 43 [.ref 54, .ref 15, .int (Int32.ofInt 0)] h2 (fun _ h7 => ((0 ≤ a2.toInt → ((¬ a2.toInt = 0 → Q (some (.int (h7.1 54 2))) h7) ∧ (¬ (¬ a2.toInt = 0) → Q (some (.int (h7.1 54 1))) h7))) ∧ (¬ (0 ≤ a2.toInt) → Q (some (.int (h7.1 54 0))) h7)))) ∧ (¬ (¬ a1.toInt = (1 : Int)) → zqm 43 [.ref 54, .ref 15, .int (Int32.ofInt 1)] h2 (fun _ h10 => ((0 ≤ a2.toInt → ((¬ a2.toInt = 0 → Q (some (.int (h10.1 54 2))) h10) ∧ (¬ (¬ a2.toInt = 0) → Q (some (.int (h10.1 54 1))) h10))) ∧ (¬ (0 ≤ a2.toInt) → Q (some (.int (h10.1 54 0))) h10)))))) ∧ (¬ (a2.toInt ≤ (1 : Int)) → Q (some (.int (-1000001 : Int32))) h2))))))))) ∧ (¬ (¬ (h.1 15 0).toInt = 0) → Q (some (.int (-1000002 : Int32))) h))) : zqm 95 [.ref 0, .int a1, .int a2] h Q := by
  refine zqm_of zp_95 (fun n => ?_)
  show zQ n 95 0 [some (.ref 0), some (.int a1), some (.int a2)] [] h Q
  refine zQ_seq 3 (pc' := 7) (L' := [some (.ref 0), some (.int a1), some (.int a2)]) (S' := [.int (h.1 15 0)]) (h' := h) zp_95 rfl ?_
  refine zQ_if zp_95 rfl (t := 13) rfl (i := (h.1 15 0).toInt) rfl (fun c1 => ?_) (fun c1 => ?_)
  · refine zQ_seq 1 (pc' := 14) (L' := [some (.ref 0), some (.int a1), some (.int a2)]) (S' := [.int a1]) (h' := h) zp_95 rfl ?_
    refine zQ_csI (M' := 120) (as := [.int a1]) (S' := []) zp_95 rfl rfl rfl zp_120 (Or.inr rfl) rfl rfl (zqm_imp (H.1 c1) (fun rv h2 r2 => zri_imp r2 (fun v2 r2' => ?_)))
    refine zQ_if zp_95 rfl (t := 30) rfl (i := v2.toInt) rfl (fun c3 => ?_) (fun c3 => ?_)
    · refine zQ_seq 1 (pc' := 32) (L' := [some (.ref 0), some (.int a1), some (.int a2)]) (S' := [.int (-1000001 : Int32)]) (h' := h2) zp_95 rfl ?_
      exact zQ_retI zp_95 rfl (r2'.1 c3)
    · refine zQ_seq 2 (pc' := 22) (L' := [some (.ref 0), some (.int a1), some (.int a2)]) (S' := [.int (Int32.ofInt (-1)), .int a2]) (h' := h2) zp_95 rfl ?_
      refine zQ_ic zp_95 rfl (t := 30) rfl (i := a2.toInt) (j := (-1 : Int)) rfl kcm1 (fun c4 => ?_) (fun c4 => ?_)
      · refine zQ_seq 1 (pc' := 32) (L' := [some (.ref 0), some (.int a1), some (.int a2)]) (S' := [.int (-1000001 : Int32)]) (h' := h2) zp_95 rfl ?_
        exact zQ_retI zp_95 rfl ((r2'.2 c3).1 c4)
      · refine zQ_seq 2 (pc' := 27) (L' := [some (.ref 0), some (.int a1), some (.int a2)]) (S' := [.int (Int32.ofInt 1), .int a2]) (h' := h2) zp_95 rfl ?_
        refine zQ_ic zp_95 rfl (t := 33) rfl (i := a2.toInt) (j := (1 : Int)) rfl kc_1 (fun c5 => ?_) (fun c5 => ?_)
        · refine zQ_seq 6 (pc' := 43) (L' := [some (.ref 0), some (.int a1), some (.int a2)]) (S' := [.int (Int32.ofInt 1), .int a1, .ref 15, .ref 54]) (h' := h2) zp_95 rfl ?_
          refine zQ_ic zp_95 rfl (t := 50) rfl (i := a1.toInt) (j := (1 : Int)) rfl kc_1 (fun c6 => ?_) (fun c6 => ?_)
          · refine zQ_seq 1 (pc' := 51) (L' := [some (.ref 0), some (.int a1), some (.int a2)]) (S' := [.int (Int32.ofInt 0), .ref 15, .ref 54]) (h' := h2) zp_95 rfl ?_
            refine zQ_cvV (M' := 43) (as := [.ref 54, .ref 15, .int (Int32.ofInt 0)]) (S' := []) zp_95 rfl rfl zp_43 rfl rfl rfl (zqm_imp ((((r2'.2 c3).2 c4).1 c5).1 c6) (fun rv h7 r7 => ?_))
            refine zQ_seq 1 (pc' := 55) (L' := [some (.ref 0), some (.int a1), some (.int a2)]) (S' := [.int a2]) (h' := h7) zp_95 rfl ?_
            refine zQ_if zp_95 rfl (t := 66) rfl (i := a2.toInt) rfl (fun c8 => ?_) (fun c8 => ?_)
            · refine zQ_seq 1 (pc' := 67) (L' := [some (.ref 0), some (.int a1), some (.int a2)]) (S' := [.int a2]) (h' := h7) zp_95 rfl ?_
              refine zQ_if zp_95 rfl (t := 80) rfl (i := a2.toInt) rfl (fun c9 => ?_) (fun c9 => ?_)
              · refine zQ_seq 3 (pc' := 87) (L' := [some (.ref 0), some (.int a1), some (.int a2)]) (S' := [.int (h7.1 54 2)]) (h' := h7) zp_95 rfl ?_
                exact zQ_retI zp_95 rfl ((r7.1 c8).1 c9)
              · refine zQ_seq 3 (pc' := 77) (L' := [some (.ref 0), some (.int a1), some (.int a2)]) (S' := [.int (h7.1 54 1)]) (h' := h7) zp_95 rfl ?_
                refine zQ_goto zp_95 rfl (t := 87) rfl ?_
                exact zQ_retI zp_95 rfl ((r7.1 c8).2 c9)
            · refine zQ_seq 3 (pc' := 65) (L' := [some (.ref 0), some (.int a1), some (.int a2)]) (S' := [.int (h7.1 54 0)]) (h' := h7) zp_95 rfl ?_
              exact zQ_retI zp_95 rfl (r7.2 c8)
          · refine zQ_seq 1 (pc' := 47) (L' := [some (.ref 0), some (.int a1), some (.int a2)]) (S' := [.int (Int32.ofInt 1), .ref 15, .ref 54]) (h' := h2) zp_95 rfl ?_
            refine zQ_goto zp_95 rfl (t := 51) rfl ?_
            refine zQ_cvV (M' := 43) (as := [.ref 54, .ref 15, .int (Int32.ofInt 1)]) (S' := []) zp_95 rfl rfl zp_43 rfl rfl rfl (zqm_imp ((((r2'.2 c3).2 c4).1 c5).2 c6) (fun rv h10 r10 => ?_))
            refine zQ_seq 1 (pc' := 55) (L' := [some (.ref 0), some (.int a1), some (.int a2)]) (S' := [.int a2]) (h' := h10) zp_95 rfl ?_
            refine zQ_if zp_95 rfl (t := 66) rfl (i := a2.toInt) rfl (fun c11 => ?_) (fun c11 => ?_)
            · refine zQ_seq 1 (pc' := 67) (L' := [some (.ref 0), some (.int a1), some (.int a2)]) (S' := [.int a2]) (h' := h10) zp_95 rfl ?_
              refine zQ_if zp_95 rfl (t := 80) rfl (i := a2.toInt) rfl (fun c12 => ?_) (fun c12 => ?_)
              · refine zQ_seq 3 (pc' := 87) (L' := [some (.ref 0), some (.int a1), some (.int a2)]) (S' := [.int (h10.1 54 2)]) (h' := h10) zp_95 rfl ?_
                exact zQ_retI zp_95 rfl ((r10.1 c11).1 c12)
              · refine zQ_seq 3 (pc' := 77) (L' := [some (.ref 0), some (.int a1), some (.int a2)]) (S' := [.int (h10.1 54 1)]) (h' := h10) zp_95 rfl ?_
                refine zQ_goto zp_95 rfl (t := 87) rfl ?_
                exact zQ_retI zp_95 rfl ((r10.1 c11).2 c12)
            · refine zQ_seq 3 (pc' := 65) (L' := [some (.ref 0), some (.int a1), some (.int a2)]) (S' := [.int (h10.1 54 0)]) (h' := h10) zp_95 rfl ?_
              exact zQ_retI zp_95 rfl (r10.2 c11)
        · refine zQ_seq 1 (pc' := 32) (L' := [some (.ref 0), some (.int a1), some (.int a2)]) (S' := [.int (-1000001 : Int32)]) (h' := h2) zp_95 rfl ?_
          exact zQ_retI zp_95 rfl (((r2'.2 c3).2 c4).2 c5)
  · refine zQ_seq 1 (pc' := 12) (L' := [some (.ref 0), some (.int a1), some (.int a2)]) (S' := [.int (-1000002 : Int32)]) (h' := h) zp_95 rfl ?_
    exact zQ_retI zp_95 rfl (H.2 c1)
theorem s_96 {h : zH} {Q : Option Value → zH → Prop} (H : (((h.1 15 0).toInt = 0 → Q (some (.int (-1000002 : Int32))) h) ∧ (¬ ((h.1 15 0).toInt = 0) → zqm 25 [.ref 15] h (fun rv h2 => zri rv (fun v2 => Q (some (.int (v2 &&& ((h2.1 15 8) ^^^ (Int32.ofInt (-1)))))) h2))))) : zqm 96 [.ref 0] h Q := by
  refine zqm_of zp_96 (fun n => ?_)
  show zQ n 96 0 [some (.ref 0)] [] h Q
  refine zQ_seq 3 (pc' := 7) (L' := [some (.ref 0)]) (S' := [.int (h.1 15 0)]) (h' := h) zp_96 rfl ?_
  refine zQ_if zp_96 rfl (t := 30) rfl (i := (h.1 15 0).toInt) rfl (fun c1 => ?_) (fun c1 => ?_)
  · refine zQ_seq 1 (pc' := 32) (L' := [some (.ref 0)]) (S' := [.int (-1000002 : Int32)]) (h' := h) zp_96 rfl ?_
    exact zQ_retI zp_96 rfl (H.1 c1)
  · refine zQ_seq 2 (pc' := 14) (L' := [some (.ref 0)]) (S' := [.ref 15]) (h' := h) zp_96 rfl ?_
    refine zQ_cvI (M' := 25) (as := [.ref 15]) (S' := []) zp_96 rfl rfl zp_25 (Or.inl rfl) rfl rfl (zqm_imp (H.2 c1) (fun rv h2 r2 => zri_imp r2 (fun v2 r2' => ?_)))
    refine zQ_seq 6 (pc' := 27) (L' := [some (.ref 0)]) (S' := [.int (v2 &&& ((h2.1 15 8) ^^^ (Int32.ofInt (-1))))]) (h' := h2) zp_96 rfl ?_
    refine zQ_goto zp_96 rfl (t := 32) rfl ?_
    exact zQ_retI zp_96 rfl r2'
theorem s_97 {h : zH} {Q : Option Value → zH → Prop} (a1 : Int32) (a2 : Int32) (H : (∀ n, zqm 117 [.ref 0, .int a1, .int a2, .int (Int32.ofInt 0)] h (fun rv h1 => zri rv (fun v1 => ((v1.toInt = 0 → zqm 118 [.ref 0, .int a1, .int a2, .int (h1.1 15 6)] h1 (fun _ h3 => zQ n 97 33 [some (.ref 0), some (.int a1), some (.int a2), some (.int v1), some (.int (Int32.ofInt 0)), some (.int (Int32.ofInt 0))] [] h3 Q)) ∧ (¬ (v1.toInt = 0) → Q (some (.int v1)) h1)))))) : zqm 97 [.ref 0, .int a1, .int a2] h Q := by
  refine zqm_of zp_97 (fun n => ?_)
  have H := H n
  show zQ n 97 0 [some (.ref 0), some (.int a1), some (.int a2), none, none, none] [] h Q
  refine zQ_seq 4 (pc' := 4) (L' := [some (.ref 0), some (.int a1), some (.int a2), none, none, none]) (S' := [.int (Int32.ofInt 0), .int a2, .int a1, .ref 0]) (h' := h) zp_97 rfl ?_
  refine zQ_cvI (M' := 117) (as := [.ref 0, .int a1, .int a2, .int (Int32.ofInt 0)]) (S' := []) zp_97 rfl rfl zp_117 (Or.inl rfl) rfl rfl (zqm_imp H (fun rv h1 r1 => zri_imp r1 (fun v1 r1' => ?_)))
  refine zQ_seq 2 (pc' := 9) (L' := [some (.ref 0), some (.int a1), some (.int a2), some (.int v1), none, none]) (S' := [.int v1]) (h' := h1) zp_97 rfl ?_
  refine zQ_if zp_97 rfl (t := 14) rfl (i := v1.toInt) rfl (fun c2 => ?_) (fun c2 => ?_)
  · refine zQ_seq 6 (pc' := 24) (L' := [some (.ref 0), some (.int a1), some (.int a2), some (.int v1), none, none]) (S' := [.int (h1.1 15 6), .int a2, .int a1, .ref 0]) (h' := h1) zp_97 rfl ?_
    refine zQ_cvV (M' := 118) (as := [.ref 0, .int a1, .int a2, .int (h1.1 15 6)]) (S' := []) zp_97 rfl rfl zp_118 rfl rfl rfl (zqm_imp (r1'.1 c2) (fun rv h3 r3 => ?_))
    refine zQ_seq 4 (pc' := 33) (L' := [some (.ref 0), some (.int a1), some (.int a2), some (.int v1), some (.int (Int32.ofInt 0)), some (.int (Int32.ofInt 0))]) (S' := []) (h' := h3) zp_97 rfl ?_
    exact r3
  · refine zQ_seq 1 (pc' := 13) (L' := [some (.ref 0), some (.int a1), some (.int a2), some (.int v1), none, none]) (S' := [.int v1]) (h' := h1) zp_97 rfl ?_
    exact zQ_retI zp_97 rfl (r1'.2 c2)
theorem s_97_33 {n : Nat} {h : zH} {Q : Option Value → zH → Prop} (x1 : Int32) (x2 : Int32) (x3 : Int32) (x4 : Int32) (x5 : Int32) (H : (((15 : Int) ≤ x5.toInt → zqm 115 [.ref 0, .int x4] h (fun rv h2 => zri rv (fun v2 => Q (some (.int v2)) h2))) ∧ (¬ ((15 : Int) ≤ x5.toInt) → zqm 19 [.ref 15, .int ((Int32.ofInt 1) <<< (x5 &&& 31)), .ref 57] h (fun rv h3 => zri rv (fun v3 => ((v3.toInt = 0 → zQ n 97 33 [some (.ref 0), some (.int x1), some (.int x2), some (.int x3), some (.int x4), some (.int (x5 + Int32.ofInt 1))] [] h3 Q) ∧ (¬ (v3.toInt = 0) → zQ n 97 33 [some (.ref 0), some (.int x1), some (.int x2), some (.int x3), some (.int (x4 ||| ((Int32.ofInt 1) <<< (x5 &&& 31)))), some (.int (x5 + Int32.ofInt 1))] [] h3 Q))))))) : zQ (n + 1) 97 33 [some (.ref 0), some (.int x1), some (.int x2), some (.int x3), some (.int x4), some (.int x5)] [] h Q := by
  refine zQ_seqL 1 (pc' := 37) (L' := [some (.ref 0), some (.int x1), some (.int x2), some (.int x3), some (.int x4), some (.int x5)]) (S' := [.int (Int32.ofInt 15), .int x5]) (h' := h) zp_97 rfl ?_
  refine zQ_ic zp_97 rfl (t := 73) rfl (i := x5.toInt) (j := (15 : Int)) rfl kc_15 (fun c1 => ?_) (fun c1 => ?_)
  · refine zQ_seq 2 (pc' := 76) (L' := [some (.ref 0), some (.int x1), some (.int x2), some (.int x3), some (.int x4), some (.int x5)]) (S' := [.int x4, .ref 0]) (h' := h) zp_97 rfl ?_
    refine zQ_cvI (M' := 115) (as := [.ref 0, .int x4]) (S' := []) zp_97 rfl rfl zp_115 (Or.inl rfl) rfl rfl (zqm_imp (H.1 c1) (fun rv h2 r2 => zri_imp r2 (fun v2 r2' => ?_)))
    exact zQ_retI zp_97 rfl r2'
  · refine zQ_seq 7 (pc' := 52) (L' := [some (.ref 0), some (.int x1), some (.int x2), some (.int x3), some (.int x4), some (.int x5)]) (S' := [.ref 57, .int ((Int32.ofInt 1) <<< (x5 &&& 31)), .ref 15]) (h' := h) zp_97 rfl ?_
    refine zQ_cvI (M' := 19) (as := [.ref 15, .int ((Int32.ofInt 1) <<< (x5 &&& 31)), .ref 57]) (S' := []) zp_97 rfl rfl zp_19 (Or.inr rfl) rfl rfl (zqm_imp (H.2 c1) (fun rv h3 r3 => zri_imp r3 (fun v3 r3' => ?_)))
    refine zQ_if zp_97 rfl (t := 67) rfl (i := v3.toInt) rfl (fun c4 => ?_) (fun c4 => ?_)
    · refine zQ_seq 1 (pc' := 70) (L' := [some (.ref 0), some (.int x1), some (.int x2), some (.int x3), some (.int x4), some (.int (x5 + Int32.ofInt 1))]) (S' := []) (h' := h3) zp_97 rfl ?_
      refine zQ_goto zp_97 rfl (t := 33) rfl ?_
      exact (r3'.1 c4)
    · refine zQ_seq 7 (pc' := 70) (L' := [some (.ref 0), some (.int x1), some (.int x2), some (.int x3), some (.int (x4 ||| ((Int32.ofInt 1) <<< (x5 &&& 31)))), some (.int (x5 + Int32.ofInt 1))]) (S' := []) (h' := h3) zp_97 rfl ?_
      refine zQ_goto zp_97 rfl (t := 33) rfl ?_
      exact (r3'.2 c4)
theorem s_98 {h : zH} {Q : Option Value → zH → Prop} (a1 : Int32) (a2 : Int32) (a3 : Int32) (H : zqm 117 [.ref 0, .int a1, .int a2, .int a3] h (fun rv h1 => zri rv (fun v1 => ((v1.toInt = 0 → zqm 118 [.ref 0, .int a1, .int a2, .int (h1.1 15 6)] h1 (fun _ h3 => zqm 33 [.ref 55, .ref 15, .ref 57] h3 (fun _ h4 => ((¬ a3.toInt = 0 → zqm 115 [.ref 0, .int (h4.1 55 2)] h4 (fun rv h6 => zri rv (fun v6 => Q (some (.int v6)) h6))) ∧ (¬ (¬ a3.toInt = 0) → zqm 115 [.ref 0, .int (h4.1 55 1)] h4 (fun rv h7 => zri rv (fun v7 => Q (some (.int v7)) h7))))))) ∧ (¬ (v1.toInt = 0) → Q (some (.int v1)) h1))))) : zqm 98 [.ref 0, .int a1, .int a2, .int a3] h Q := by
  refine zqm_of zp_98 (fun n => ?_)
  show zQ n 98 0 [some (.ref 0), some (.int a1), some (.int a2), some (.int a3), none] [] h Q
  refine zQ_seq 4 (pc' := 4) (L' := [some (.ref 0), some (.int a1), some (.int a2), some (.int a3), none]) (S' := [.int a3, .int a2, .int a1, .ref 0]) (h' := h) zp_98 rfl ?_
  refine zQ_cvI (M' := 117) (as := [.ref 0, .int a1, .int a2, .int a3]) (S' := []) zp_98 rfl rfl zp_117 (Or.inl rfl) rfl rfl (zqm_imp H (fun rv h1 r1 => zri_imp r1 (fun v1 r1' => ?_)))
  refine zQ_seq 2 (pc' := 11) (L' := [some (.ref 0), some (.int a1), some (.int a2), some (.int a3), some (.int v1)]) (S' := [.int v1]) (h' := h1) zp_98 rfl ?_
  refine zQ_if zp_98 rfl (t := 17) rfl (i := v1.toInt) rfl (fun c2 => ?_) (fun c2 => ?_)
  · refine zQ_seq 6 (pc' := 27) (L' := [some (.ref 0), some (.int a1), some (.int a2), some (.int a3), some (.int v1)]) (S' := [.int (h1.1 15 6), .int a2, .int a1, .ref 0]) (h' := h1) zp_98 rfl ?_
    refine zQ_cvV (M' := 118) (as := [.ref 0, .int a1, .int a2, .int (h1.1 15 6)]) (S' := []) zp_98 rfl rfl zp_118 rfl rfl rfl (zqm_imp (r1'.1 c2) (fun rv h3 r3 => ?_))
    refine zQ_seq 6 (pc' := 42) (L' := [some (.ref 0), some (.int a1), some (.int a2), some (.int a3), some (.int v1)]) (S' := [.ref 57, .ref 15, .ref 55]) (h' := h3) zp_98 rfl ?_
    refine zQ_cvV (M' := 33) (as := [.ref 55, .ref 15, .ref 57]) (S' := []) zp_98 rfl rfl zp_33 rfl rfl rfl (zqm_imp r3 (fun rv h4 r4 => ?_))
    refine zQ_seq 2 (pc' := 47) (L' := [some (.ref 0), some (.int a1), some (.int a2), some (.int a3), some (.int v1)]) (S' := [.int a3, .ref 0]) (h' := h4) zp_98 rfl ?_
    refine zQ_if zp_98 rfl (t := 60) rfl (i := a3.toInt) rfl (fun c5 => ?_) (fun c5 => ?_)
    · refine zQ_seq 3 (pc' := 67) (L' := [some (.ref 0), some (.int a1), some (.int a2), some (.int a3), some (.int v1)]) (S' := [.int (h4.1 55 2), .ref 0]) (h' := h4) zp_98 rfl ?_
      refine zQ_cvI (M' := 115) (as := [.ref 0, .int (h4.1 55 2)]) (S' := []) zp_98 rfl rfl zp_115 (Or.inl rfl) rfl rfl (zqm_imp (r4.1 c5) (fun rv h6 r6 => zri_imp r6 (fun v6 r6' => ?_)))
      exact zQ_retI zp_98 rfl r6'
    · refine zQ_seq 3 (pc' := 57) (L' := [some (.ref 0), some (.int a1), some (.int a2), some (.int a3), some (.int v1)]) (S' := [.int (h4.1 55 1), .ref 0]) (h' := h4) zp_98 rfl ?_
      refine zQ_goto zp_98 rfl (t := 67) rfl ?_
      refine zQ_cvI (M' := 115) (as := [.ref 0, .int (h4.1 55 1)]) (S' := []) zp_98 rfl rfl zp_115 (Or.inl rfl) rfl rfl (zqm_imp (r4.2 c5) (fun rv h7 r7 => zri_imp r7 (fun v7 r7' => ?_)))
      exact zQ_retI zp_98 rfl r7'
  · refine zQ_seq 1 (pc' := 16) (L' := [some (.ref 0), some (.int a1), some (.int a2), some (.int a3), some (.int v1)]) (S' := [.int v1]) (h' := h1) zp_98 rfl ?_
    exact zQ_retI zp_98 rfl (r1'.2 c2)
theorem s_99 {h : zH} {Q : Option Value → zH → Prop} (a1 : Int32) (a2 : Int32) (H : zqm 117 [.ref 0, .int a1, .int a2, .int (Int32.ofInt 0)] h (fun rv h1 => zri rv (fun v1 => ((v1.toInt = 0 → zqm 118 [.ref 0, .int a1, .int a2, .int (h1.1 15 6)] h1 (fun _ h3 => zqm 33 [.ref 55, .ref 15, .ref 57] h3 (fun _ h4 => zqm 36 [.ref 55] h4 (fun rv h5 => zri rv (fun v5 => zqm 115 [.ref 0, .int v5] h5 (fun rv h6 => zri rv (fun v6 => Q (some (.int v6)) h6))))))) ∧ (¬ (v1.toInt = 0) → Q (some (.int v1)) h1))))) : zqm 99 [.ref 0, .int a1, .int a2] h Q := by
  refine zqm_of zp_99 (fun n => ?_)
  show zQ n 99 0 [some (.ref 0), some (.int a1), some (.int a2), none] [] h Q
  refine zQ_seq 4 (pc' := 4) (L' := [some (.ref 0), some (.int a1), some (.int a2), none]) (S' := [.int (Int32.ofInt 0), .int a2, .int a1, .ref 0]) (h' := h) zp_99 rfl ?_
  refine zQ_cvI (M' := 117) (as := [.ref 0, .int a1, .int a2, .int (Int32.ofInt 0)]) (S' := []) zp_99 rfl rfl zp_117 (Or.inl rfl) rfl rfl (zqm_imp H (fun rv h1 r1 => zri_imp r1 (fun v1 r1' => ?_)))
  refine zQ_seq 2 (pc' := 9) (L' := [some (.ref 0), some (.int a1), some (.int a2), some (.int v1)]) (S' := [.int v1]) (h' := h1) zp_99 rfl ?_
  refine zQ_if zp_99 rfl (t := 14) rfl (i := v1.toInt) rfl (fun c2 => ?_) (fun c2 => ?_)
  · refine zQ_seq 6 (pc' := 24) (L' := [some (.ref 0), some (.int a1), some (.int a2), some (.int v1)]) (S' := [.int (h1.1 15 6), .int a2, .int a1, .ref 0]) (h' := h1) zp_99 rfl ?_
    refine zQ_cvV (M' := 118) (as := [.ref 0, .int a1, .int a2, .int (h1.1 15 6)]) (S' := []) zp_99 rfl rfl zp_118 rfl rfl rfl (zqm_imp (r1'.1 c2) (fun rv h3 r3 => ?_))
    refine zQ_seq 6 (pc' := 39) (L' := [some (.ref 0), some (.int a1), some (.int a2), some (.int v1)]) (S' := [.ref 57, .ref 15, .ref 55]) (h' := h3) zp_99 rfl ?_
    refine zQ_cvV (M' := 33) (as := [.ref 55, .ref 15, .ref 57]) (S' := []) zp_99 rfl rfl zp_33 rfl rfl rfl (zqm_imp r3 (fun rv h4 r4 => ?_))
    refine zQ_seq 3 (pc' := 47) (L' := [some (.ref 0), some (.int a1), some (.int a2), some (.int v1)]) (S' := [.ref 55, .ref 0]) (h' := h4) zp_99 rfl ?_
    refine zQ_cvI (M' := 36) (as := [.ref 55]) (S' := [.ref 0]) zp_99 rfl rfl zp_36 (Or.inl rfl) rfl rfl (zqm_imp r4 (fun rv h5 r5 => zri_imp r5 (fun v5 r5' => ?_)))
    refine zQ_cvI (M' := 115) (as := [.ref 0, .int v5]) (S' := []) zp_99 rfl rfl zp_115 (Or.inl rfl) rfl rfl (zqm_imp r5' (fun rv h6 r6 => zri_imp r6 (fun v6 r6' => ?_)))
    exact zQ_retI zp_99 rfl r6'
  · refine zQ_seq 1 (pc' := 13) (L' := [some (.ref 0), some (.int a1), some (.int a2), some (.int v1)]) (S' := [.int v1]) (h' := h1) zp_99 rfl ?_
    exact zQ_retI zp_99 rfl (r1'.2 c2)
theorem s_100 {h : zH} {Q : Option Value → zH → Prop} (a1 : Int32) (H : ((¬ (h.1 15 0).toInt = 0 → zqm 120 [.int a1] h (fun rv h2 => zri rv (fun v2 => ((¬ v2.toInt = 0 → zqm 29 [.ref 15] h2 (fun rv h4 => zri rv (fun v4 => ((a1.toInt = (1 : Int) → Q (some (.int v4)) h4) ∧ (¬ (a1.toInt = (1 : Int)) → ((¬ v4.toInt = (-1000000 : Int) → zqm 217 [.int v4] h4 (fun rv h7 => zri rv (fun v7 => Q (some (.int v7)) h7))) ∧ (¬ (¬ v4.toInt = (-1000000 : Int)) → Q (some (.int v4)) h4))))))) ∧ (¬ (¬ v2.toInt = 0) → Q (some (.int (-1000001 : Int32))) h2))))) ∧ (¬ (¬ (h.1 15 0).toInt = 0) → Q (some (.int (-1000002 : Int32))) h))) : zqm 100 [.ref 0, .int a1] h Q := by
  refine zqm_of zp_100 (fun n => ?_)
  show zQ n 100 0 [some (.ref 0), some (.int a1), none] [] h Q
  refine zQ_seq 3 (pc' := 7) (L' := [some (.ref 0), some (.int a1), none]) (S' := [.int (h.1 15 0)]) (h' := h) zp_100 rfl ?_
  refine zQ_if zp_100 rfl (t := 13) rfl (i := (h.1 15 0).toInt) rfl (fun c1 => ?_) (fun c1 => ?_)
  · refine zQ_seq 1 (pc' := 14) (L' := [some (.ref 0), some (.int a1), none]) (S' := [.int a1]) (h' := h) zp_100 rfl ?_
    refine zQ_csI (M' := 120) (as := [.int a1]) (S' := []) zp_100 rfl rfl rfl zp_120 (Or.inr rfl) rfl rfl (zqm_imp (H.1 c1) (fun rv h2 r2 => zri_imp r2 (fun v2 r2' => ?_)))
    refine zQ_if zp_100 rfl (t := 23) rfl (i := v2.toInt) rfl (fun c3 => ?_) (fun c3 => ?_)
    · refine zQ_seq 2 (pc' := 27) (L' := [some (.ref 0), some (.int a1), none]) (S' := [.ref 15]) (h' := h2) zp_100 rfl ?_
      refine zQ_cvI (M' := 29) (as := [.ref 15]) (S' := []) zp_100 rfl rfl zp_29 (Or.inl rfl) rfl rfl (zqm_imp (r2'.1 c3) (fun rv h4 r4 => zri_imp r4 (fun v4 r4' => ?_)))
      refine zQ_seq 3 (pc' := 33) (L' := [some (.ref 0), some (.int a1), some (.int v4)]) (S' := [.int (Int32.ofInt 1), .int a1]) (h' := h4) zp_100 rfl ?_
      refine zQ_ic zp_100 rfl (t := 43) rfl (i := a1.toInt) (j := (1 : Int)) rfl kc_1 (fun c5 => ?_) (fun c5 => ?_)
      · refine zQ_seq 1 (pc' := 44) (L' := [some (.ref 0), some (.int a1), some (.int v4)]) (S' := [.int v4]) (h' := h4) zp_100 rfl ?_
        refine zQ_goto zp_100 rfl (t := 51) rfl ?_
        exact zQ_retI zp_100 rfl (r4'.1 c5)
      · refine zQ_seq 2 (pc' := 40) (L' := [some (.ref 0), some (.int a1), some (.int v4)]) (S' := [.int (-1000000 : Int32), .int v4]) (h' := h4) zp_100 rfl ?_
        refine zQ_ic zp_100 rfl (t := 47) rfl (i := v4.toInt) (j := (-1000000 : Int)) rfl kdm1000000 (fun c6 => ?_) (fun c6 => ?_)
        · refine zQ_seq 1 (pc' := 48) (L' := [some (.ref 0), some (.int a1), some (.int v4)]) (S' := [.int v4]) (h' := h4) zp_100 rfl ?_
          refine zQ_csI (M' := 217) (as := [.int v4]) (S' := []) zp_100 rfl rfl rfl zp_217 (Or.inl rfl) rfl rfl (zqm_imp ((r4'.2 c5).1 c6) (fun rv h7 r7 => zri_imp r7 (fun v7 r7' => ?_)))
          exact zQ_retI zp_100 rfl r7'
        · refine zQ_seq 1 (pc' := 44) (L' := [some (.ref 0), some (.int a1), some (.int v4)]) (S' := [.int v4]) (h' := h4) zp_100 rfl ?_
          refine zQ_goto zp_100 rfl (t := 51) rfl ?_
          exact zQ_retI zp_100 rfl ((r4'.2 c5).2 c6)
    · refine zQ_seq 1 (pc' := 22) (L' := [some (.ref 0), some (.int a1), none]) (S' := [.int (-1000001 : Int32)]) (h' := h2) zp_100 rfl ?_
      exact zQ_retI zp_100 rfl (r2'.2 c3)
  · refine zQ_seq 1 (pc' := 12) (L' := [some (.ref 0), some (.int a1), none]) (S' := [.int (-1000002 : Int32)]) (h' := h) zp_100 rfl ?_
    exact zQ_retI zp_100 rfl (H.2 c1)
theorem s_101 {h : zH} {Q : Option Value → zH → Prop} (a1 : Int32) (H : ((¬ (h.1 15 0).toInt = 0 → ((a1.toInt < 0 → Q (some (.int (-1000001 : Int32))) h) ∧ (¬ (a1.toInt < 0) → ((a1.toInt < (4 : Int) → zqm 31 [.ref 15, .int a1] h (fun rv h4 => zri rv (fun v4 => Q (some (.int v4)) h4))) ∧ (¬ (a1.toInt < (4 : Int)) → Q (some (.int (-1000001 : Int32))) h))))) ∧ (¬ (¬ (h.1 15 0).toInt = 0) → Q (some (.int (-1000002 : Int32))) h))) : zqm 101 [.ref 0, .int a1] h Q := by
  refine zqm_of zp_101 (fun n => ?_)
  show zQ n 101 0 [some (.ref 0), some (.int a1)] [] h Q
  refine zQ_seq 3 (pc' := 7) (L' := [some (.ref 0), some (.int a1)]) (S' := [.int (h.1 15 0)]) (h' := h) zp_101 rfl ?_
  refine zQ_if zp_101 rfl (t := 13) rfl (i := (h.1 15 0).toInt) rfl (fun c1 => ?_) (fun c1 => ?_)
  · refine zQ_seq 1 (pc' := 14) (L' := [some (.ref 0), some (.int a1)]) (S' := [.int a1]) (h' := h) zp_101 rfl ?_
    refine zQ_if zp_101 rfl (t := 22) rfl (i := a1.toInt) rfl (fun c2 => ?_) (fun c2 => ?_)
    · refine zQ_seq 1 (pc' := 24) (L' := [some (.ref 0), some (.int a1)]) (S' := [.int (-1000001 : Int32)]) (h' := h) zp_101 rfl ?_
      refine zQ_goto zp_101 rfl (t := 35) rfl ?_
      exact zQ_retI zp_101 rfl ((H.1 c1).1 c2)
    · refine zQ_seq 2 (pc' := 19) (L' := [some (.ref 0), some (.int a1)]) (S' := [.int (Int32.ofInt 4), .int a1]) (h' := h) zp_101 rfl ?_
      refine zQ_ic zp_101 rfl (t := 27) rfl (i := a1.toInt) (j := (4 : Int)) rfl kc_4 (fun c3 => ?_) (fun c3 => ?_)
      · refine zQ_seq 3 (pc' := 32) (L' := [some (.ref 0), some (.int a1)]) (S' := [.int a1, .ref 15]) (h' := h) zp_101 rfl ?_
        refine zQ_cvI (M' := 31) (as := [.ref 15, .int a1]) (S' := []) zp_101 rfl rfl zp_31 (Or.inl rfl) rfl rfl (zqm_imp (((H.1 c1).2 c2).1 c3) (fun rv h4 r4 => zri_imp r4 (fun v4 r4' => ?_)))
        exact zQ_retI zp_101 rfl r4'
      · refine zQ_seq 1 (pc' := 24) (L' := [some (.ref 0), some (.int a1)]) (S' := [.int (-1000001 : Int32)]) (h' := h) zp_101 rfl ?_
        refine zQ_goto zp_101 rfl (t := 35) rfl ?_
        exact zQ_retI zp_101 rfl (((H.1 c1).2 c2).2 c3)
  · refine zQ_seq 1 (pc' := 12) (L' := [some (.ref 0), some (.int a1)]) (S' := [.int (-1000002 : Int32)]) (h' := h) zp_101 rfl ?_
    exact zQ_retI zp_101 rfl (H.2 c1)
theorem s_102 {h : zH} {Q : Option Value → zH → Prop} (a1 : Int32) (H : (∀ n, ((¬ (h.1 15 0).toInt = 0 → zqm 120 [.int a1] h (fun rv h2 => zri rv (fun v2 => ((¬ v2.toInt = 0 → zQ n 102 36 [some (.ref 0), some (.int a1), some (.int (h2.1 15 3)), some (.int (Int32.ofInt 0)), some (.int (Int32.ofInt 0))] [] h2 Q) ∧ (¬ (¬ v2.toInt = 0) → Q (some (.int (-1000001 : Int32))) h2))))) ∧ (¬ (¬ (h.1 15 0).toInt = 0) → Q (some (.int (-1000002 : Int32))) h)))) : zqm 102 [.ref 0, .int a1] h Q := by
  refine zqm_of zp_102 (fun n => ?_)
  have H := H n
  show zQ n 102 0 [some (.ref 0), some (.int a1), none, none, none] [] h Q
  refine zQ_seq 3 (pc' := 7) (L' := [some (.ref 0), some (.int a1), none, none, none]) (S' := [.int (h.1 15 0)]) (h' := h) zp_102 rfl ?_
  refine zQ_if zp_102 rfl (t := 13) rfl (i := (h.1 15 0).toInt) rfl (fun c1 => ?_) (fun c1 => ?_)
  · refine zQ_seq 1 (pc' := 14) (L' := [some (.ref 0), some (.int a1), none, none, none]) (S' := [.int a1]) (h' := h) zp_102 rfl ?_
    refine zQ_csI (M' := 120) (as := [.int a1]) (S' := []) zp_102 rfl rfl rfl zp_120 (Or.inr rfl) rfl rfl (zqm_imp (H.1 c1) (fun rv h2 r2 => zri_imp r2 (fun v2 r2' => ?_)))
    refine zQ_if zp_102 rfl (t := 23) rfl (i := v2.toInt) rfl (fun c3 => ?_) (fun c3 => ?_)
    · refine zQ_seq 8 (pc' := 36) (L' := [some (.ref 0), some (.int a1), some (.int (h2.1 15 3)), some (.int (Int32.ofInt 0)), some (.int (Int32.ofInt 0))]) (S' := []) (h' := h2) zp_102 rfl ?_
      exact (r2'.1 c3)
    · refine zQ_seq 1 (pc' := 22) (L' := [some (.ref 0), some (.int a1), none, none, none]) (S' := [.int (-1000001 : Int32)]) (h' := h2) zp_102 rfl ?_
      exact zQ_retI zp_102 rfl (r2'.2 c3)
  · refine zQ_seq 1 (pc' := 12) (L' := [some (.ref 0), some (.int a1), none, none, none]) (S' := [.int (-1000002 : Int32)]) (h' := h) zp_102 rfl ?_
    exact zQ_retI zp_102 rfl (H.2 c1)
theorem s_102_36 {n : Nat} {h : zH} {Q : Option Value → zH → Prop} (x1 : Int32) (x2 : Int32) (x3 : Int32) (x4 : Int32) (H : (((40 : Int) ≤ x4.toInt → ((¬ x1.toInt = (1 : Int) → zqm 26 [.ref 15, .int x2] h (fun rv h3 => zri rv (fun v3 => ((v3.toInt = 0 → Q (some (.int (-1000000 : Int32))) h3) ∧ (¬ (v3.toInt = 0) → Q (some (.int x3)) h3))))) ∧ (¬ (¬ x1.toInt = (1 : Int)) → zqm 51 [.int x2, .int (h.1 15 4)] h (fun rv h5 => zri rv (fun v5 => Q (some (.int v5)) h5))))) ∧ (¬ ((40 : Int) ≤ x4.toInt) → zqm 26 [.ref 15, .int x2] h (fun rv h6 => zri rv (fun v6 => ((¬ v6.toInt = 0 → ((¬ x1.toInt = (1 : Int) → zqm 26 [.ref 15, .int x2] h6 (fun rv h9 => zri rv (fun v9 => ((v9.toInt = 0 → Q (some (.int (-1000000 : Int32))) h9) ∧ (¬ (v9.toInt = 0) → Q (some (.int x3)) h9))))) ∧ (¬ (¬ x1.toInt = (1 : Int)) → zqm 51 [.int x2, .int (h6.1 15 4)] h6 (fun rv h11 => zri rv (fun v11 => Q (some (.int v11)) h11))))) ∧ (¬ (¬ v6.toInt = 0) → zqm 28 [.ref 15, .int x2] h6 (fun rv h12 => zri rv (fun v12 => zQ n 102 36 [some (.ref 0), some (.int x1), some (.int v12), some (.int (x3 + Int32.ofInt 1)), some (.int (x4 + Int32.ofInt 1))] [] h12 Q))))))))) : zQ (n + 1) 102 36 [some (.ref 0), some (.int x1), some (.int x2), some (.int x3), some (.int x4)] [] h Q := by
  refine zQ_seqL 1 (pc' := 40) (L' := [some (.ref 0), some (.int x1), some (.int x2), some (.int x3), some (.int x4)]) (S' := [.int (Int32.ofInt 40), .int x4]) (h' := h) zp_102 rfl ?_
  refine zQ_ic zp_102 rfl (t := 72) rfl (i := x4.toInt) (j := (40 : Int)) rfl kc_40 (fun c1 => ?_) (fun c1 => ?_)
  · refine zQ_seq 2 (pc' := 74) (L' := [some (.ref 0), some (.int x1), some (.int x2), some (.int x3), some (.int x4)]) (S' := [.int (Int32.ofInt 1), .int x1]) (h' := h) zp_102 rfl ?_
    refine zQ_ic zp_102 rfl (t := 89) rfl (i := x1.toInt) (j := (1 : Int)) rfl kc_1 (fun c2 => ?_) (fun c2 => ?_)
    · refine zQ_seq 3 (pc' := 94) (L' := [some (.ref 0), some (.int x1), some (.int x2), some (.int x3), some (.int x4)]) (S' := [.int x2, .ref 15]) (h' := h) zp_102 rfl ?_
      refine zQ_cvI (M' := 26) (as := [.ref 15, .int x2]) (S' := []) zp_102 rfl rfl zp_26 (Or.inr rfl) rfl rfl (zqm_imp ((H.1 c1).1 c2) (fun rv h3 r3 => zri_imp r3 (fun v3 r3' => ?_)))
      refine zQ_if zp_102 rfl (t := 104) rfl (i := v3.toInt) rfl (fun c4 => ?_) (fun c4 => ?_)
      · refine zQ_seq 1 (pc' := 107) (L' := [some (.ref 0), some (.int x1), some (.int x2), some (.int x3), some (.int x4)]) (S' := [.int (-1000000 : Int32)]) (h' := h3) zp_102 rfl ?_
        exact zQ_retI zp_102 rfl (r3'.1 c4)
      · refine zQ_seq 1 (pc' := 101) (L' := [some (.ref 0), some (.int x1), some (.int x2), some (.int x3), some (.int x4)]) (S' := [.int x3]) (h' := h3) zp_102 rfl ?_
        refine zQ_goto zp_102 rfl (t := 107) rfl ?_
        exact zQ_retI zp_102 rfl (r3'.2 c4)
    · refine zQ_seq 4 (pc' := 85) (L' := [some (.ref 0), some (.int x1), some (.int x2), some (.int x3), some (.int x4)]) (S' := [.int (h.1 15 4), .int x2]) (h' := h) zp_102 rfl ?_
      refine zQ_csI (M' := 51) (as := [.int x2, .int (h.1 15 4)]) (S' := []) zp_102 rfl rfl rfl zp_51 (Or.inl rfl) rfl rfl (zqm_imp ((H.1 c1).2 c2) (fun rv h5 r5 => zri_imp r5 (fun v5 r5' => ?_)))
      exact zQ_retI zp_102 rfl r5'
  · refine zQ_seq 3 (pc' := 48) (L' := [some (.ref 0), some (.int x1), some (.int x2), some (.int x3), some (.int x4)]) (S' := [.int x2, .ref 15]) (h' := h) zp_102 rfl ?_
    refine zQ_cvI (M' := 26) (as := [.ref 15, .int x2]) (S' := []) zp_102 rfl rfl zp_26 (Or.inr rfl) rfl rfl (zqm_imp (H.2 c1) (fun rv h6 r6 => zri_imp r6 (fun v6 r6' => ?_)))
    refine zQ_if zp_102 rfl (t := 72) rfl (i := v6.toInt) rfl (fun c7 => ?_) (fun c7 => ?_)
    · refine zQ_seq 2 (pc' := 74) (L' := [some (.ref 0), some (.int x1), some (.int x2), some (.int x3), some (.int x4)]) (S' := [.int (Int32.ofInt 1), .int x1]) (h' := h6) zp_102 rfl ?_
      refine zQ_ic zp_102 rfl (t := 89) rfl (i := x1.toInt) (j := (1 : Int)) rfl kc_1 (fun c8 => ?_) (fun c8 => ?_)
      · refine zQ_seq 3 (pc' := 94) (L' := [some (.ref 0), some (.int x1), some (.int x2), some (.int x3), some (.int x4)]) (S' := [.int x2, .ref 15]) (h' := h6) zp_102 rfl ?_
        refine zQ_cvI (M' := 26) (as := [.ref 15, .int x2]) (S' := []) zp_102 rfl rfl zp_26 (Or.inr rfl) rfl rfl (zqm_imp ((r6'.1 c7).1 c8) (fun rv h9 r9 => zri_imp r9 (fun v9 r9' => ?_)))
        refine zQ_if zp_102 rfl (t := 104) rfl (i := v9.toInt) rfl (fun c10 => ?_) (fun c10 => ?_)
        · refine zQ_seq 1 (pc' := 107) (L' := [some (.ref 0), some (.int x1), some (.int x2), some (.int x3), some (.int x4)]) (S' := [.int (-1000000 : Int32)]) (h' := h9) zp_102 rfl ?_
          exact zQ_retI zp_102 rfl (r9'.1 c10)
        · refine zQ_seq 1 (pc' := 101) (L' := [some (.ref 0), some (.int x1), some (.int x2), some (.int x3), some (.int x4)]) (S' := [.int x3]) (h' := h9) zp_102 rfl ?_
          refine zQ_goto zp_102 rfl (t := 107) rfl ?_
          exact zQ_retI zp_102 rfl (r9'.2 c10)
      · refine zQ_seq 4 (pc' := 85) (L' := [some (.ref 0), some (.int x1), some (.int x2), some (.int x3), some (.int x4)]) (S' := [.int (h6.1 15 4), .int x2]) (h' := h6) zp_102 rfl ?_
        refine zQ_csI (M' := 51) (as := [.int x2, .int (h6.1 15 4)]) (S' := []) zp_102 rfl rfl rfl zp_51 (Or.inl rfl) rfl rfl (zqm_imp ((r6'.1 c7).2 c8) (fun rv h11 r11 => zri_imp r11 (fun v11 r11' => ?_)))
        exact zQ_retI zp_102 rfl r11'
    · refine zQ_seq 3 (pc' := 59) (L' := [some (.ref 0), some (.int x1), some (.int x2), some (.int x3), some (.int x4)]) (S' := [.int x2, .ref 15]) (h' := h6) zp_102 rfl ?_
      refine zQ_cvI (M' := 28) (as := [.ref 15, .int x2]) (S' := []) zp_102 rfl rfl zp_28 (Or.inl rfl) rfl rfl (zqm_imp (r6'.2 c7) (fun rv h12 r12 => zri_imp r12 (fun v12 r12' => ?_)))
      refine zQ_seq 3 (pc' := 69) (L' := [some (.ref 0), some (.int x1), some (.int v12), some (.int (x3 + Int32.ofInt 1)), some (.int (x4 + Int32.ofInt 1))]) (S' := []) (h' := h12) zp_102 rfl ?_
      refine zQ_goto zp_102 rfl (t := 36) rfl ?_
      exact r12'
theorem s_103 {h : zH} {Q : Option Value → zH → Prop} (a1 : Int32) (a2 : Int32) (a3 : Int32) (a4 : Int32) (H : ((¬ (h.1 15 0).toInt = 0 → zqm 119 [.int a1] h (fun rv h2 => zri rv (fun v2 => ((v2.toInt = 0 → Q (some (.long (-1000001 : Int64))) h2) ∧ (¬ (v2.toInt = 0) → ((a2.toInt < 0 → Q (some (.long (-1000001 : Int64))) h2) ∧ (¬ (a2.toInt < 0) → (((10 : Int) < a2.toInt → Q (some (.long (-1000001 : Int64))) h2) ∧ (¬ ((10 : Int) < a2.toInt) → ((a3.toInt < 0 → Q (some (.long (-1000001 : Int64))) h2) ∧ (¬ (a3.toInt < 0) → (((6 : Int) < a3.toInt → Q (some (.long (-1000001 : Int64))) h2) ∧ (¬ ((6 : Int) < a3.toInt) → zqm 120 [.int a4] h2 (fun rv h8 => zri rv (fun v8 => ((¬ v8.toInt = 0 → zqm 48 [.int (h8.1 15 4), .int a1] h8 (fun rv h10 => zri rv (fun v10 => zqm 48 [.int (h10.1 15 3), .int a1] h10 (fun rv h11 => zri rv (fun v11 => zqm 218 [.int (v10 - v11), .int (Int32.ofInt 4)] h11 (fun rv h12 => zri rv (fun v12 => zqm 41 [.int v12, .int a2, .int a3] h12 (fun rv h13 => zri rv (fun v13 => zqm 40 [.int (Int32.ofInt 10), .int a3] h13 (fun rv h14 => zri rv (fun v14 => zqm 38 [.int v13, .int v14, .int a4] h14 (fun rv h15 => zri rv (fun v15 => Q (some (.long (v15.toInt64))) h15))))))))))))) ∧ (¬ (¬ v8.toInt = 0) → Q (some (.long (-1000001 : Int64))) h8))))))))))))))))) ∧ (¬ (¬ (h.1 15 0).toInt = 0) → Q (some (.long (-1000002 : Int64))) h))) : zqm 103 [.ref 0, .int a1, .int a2, .int a3, .int a4] h Q := by
  refine zqm_of zp_103 (fun n => ?_)
  show zQ n 103 0 [some (.ref 0), some (.int a1), some (.int a2), some (.int a3), some (.int a4), none] [] h Q
  refine zQ_seq 3 (pc' := 7) (L' := [some (.ref 0), some (.int a1), some (.int a2), some (.int a3), some (.int a4), none]) (S' := [.int (h.1 15 0)]) (h' := h) zp_103 rfl ?_
  refine zQ_if zp_103 rfl (t := 14) rfl (i := (h.1 15 0).toInt) rfl (fun c1 => ?_) (fun c1 => ?_)
  · refine zQ_seq 1 (pc' := 15) (L' := [some (.ref 0), some (.int a1), some (.int a2), some (.int a3), some (.int a4), none]) (S' := [.int a1]) (h' := h) zp_103 rfl ?_
    refine zQ_csI (M' := 119) (as := [.int a1]) (S' := []) zp_103 rfl rfl rfl zp_119 (Or.inr rfl) rfl rfl (zqm_imp (H.1 c1) (fun rv h2 r2 => zri_imp r2 (fun v2 r2' => ?_)))
    refine zQ_if zp_103 rfl (t := 49) rfl (i := v2.toInt) rfl (fun c3 => ?_) (fun c3 => ?_)
    · refine zQ_seq 1 (pc' := 52) (L' := [some (.ref 0), some (.int a1), some (.int a2), some (.int a3), some (.int a4), none]) (S' := [.long (-1000001 : Int64)]) (h' := h2) zp_103 rfl ?_
      exact zQ_retL zp_103 rfl (r2'.1 c3)
    · refine zQ_seq 1 (pc' := 22) (L' := [some (.ref 0), some (.int a1), some (.int a2), some (.int a3), some (.int a4), none]) (S' := [.int a2]) (h' := h2) zp_103 rfl ?_
      refine zQ_if zp_103 rfl (t := 49) rfl (i := a2.toInt) rfl (fun c4 => ?_) (fun c4 => ?_)
      · refine zQ_seq 1 (pc' := 52) (L' := [some (.ref 0), some (.int a1), some (.int a2), some (.int a3), some (.int a4), none]) (S' := [.long (-1000001 : Int64)]) (h' := h2) zp_103 rfl ?_
        exact zQ_retL zp_103 rfl ((r2'.2 c3).1 c4)
      · refine zQ_seq 2 (pc' := 28) (L' := [some (.ref 0), some (.int a1), some (.int a2), some (.int a3), some (.int a4), none]) (S' := [.int (Int32.ofInt 10), .int a2]) (h' := h2) zp_103 rfl ?_
        refine zQ_ic zp_103 rfl (t := 49) rfl (i := a2.toInt) (j := (10 : Int)) rfl kc_10 (fun c5 => ?_) (fun c5 => ?_)
        · refine zQ_seq 1 (pc' := 52) (L' := [some (.ref 0), some (.int a1), some (.int a2), some (.int a3), some (.int a4), none]) (S' := [.long (-1000001 : Int64)]) (h' := h2) zp_103 rfl ?_
          exact zQ_retL zp_103 rfl (((r2'.2 c3).2 c4).1 c5)
        · refine zQ_seq 1 (pc' := 32) (L' := [some (.ref 0), some (.int a1), some (.int a2), some (.int a3), some (.int a4), none]) (S' := [.int a3]) (h' := h2) zp_103 rfl ?_
          refine zQ_if zp_103 rfl (t := 49) rfl (i := a3.toInt) rfl (fun c6 => ?_) (fun c6 => ?_)
          · refine zQ_seq 1 (pc' := 52) (L' := [some (.ref 0), some (.int a1), some (.int a2), some (.int a3), some (.int a4), none]) (S' := [.long (-1000001 : Int64)]) (h' := h2) zp_103 rfl ?_
            exact zQ_retL zp_103 rfl ((((r2'.2 c3).2 c4).2 c5).1 c6)
          · refine zQ_seq 2 (pc' := 38) (L' := [some (.ref 0), some (.int a1), some (.int a2), some (.int a3), some (.int a4), none]) (S' := [.int (Int32.ofInt 6), .int a3]) (h' := h2) zp_103 rfl ?_
            refine zQ_ic zp_103 rfl (t := 49) rfl (i := a3.toInt) (j := (6 : Int)) rfl kc_6 (fun c7 => ?_) (fun c7 => ?_)
            · refine zQ_seq 1 (pc' := 52) (L' := [some (.ref 0), some (.int a1), some (.int a2), some (.int a3), some (.int a4), none]) (S' := [.long (-1000001 : Int64)]) (h' := h2) zp_103 rfl ?_
              exact zQ_retL zp_103 rfl (((((r2'.2 c3).2 c4).2 c5).2 c6).1 c7)
            · refine zQ_seq 1 (pc' := 43) (L' := [some (.ref 0), some (.int a1), some (.int a2), some (.int a3), some (.int a4), none]) (S' := [.int a4]) (h' := h2) zp_103 rfl ?_
              refine zQ_csI (M' := 120) (as := [.int a4]) (S' := []) zp_103 rfl rfl rfl zp_120 (Or.inr rfl) rfl rfl (zqm_imp (((((r2'.2 c3).2 c4).2 c5).2 c6).2 c7) (fun rv h8 r8 => zri_imp r8 (fun v8 r8' => ?_)))
              refine zQ_if zp_103 rfl (t := 53) rfl (i := v8.toInt) rfl (fun c9 => ?_) (fun c9 => ?_)
              · refine zQ_seq 4 (pc' := 61) (L' := [some (.ref 0), some (.int a1), some (.int a2), some (.int a3), some (.int a4), none]) (S' := [.int a1, .int (h8.1 15 4)]) (h' := h8) zp_103 rfl ?_
                refine zQ_csI (M' := 48) (as := [.int (h8.1 15 4), .int a1]) (S' := []) zp_103 rfl rfl rfl zp_48 (Or.inl rfl) rfl rfl (zqm_imp (r8'.1 c9) (fun rv h10 r10 => zri_imp r10 (fun v10 r10' => ?_)))
                refine zQ_seq 4 (pc' := 72) (L' := [some (.ref 0), some (.int a1), some (.int a2), some (.int a3), some (.int a4), none]) (S' := [.int a1, .int (h10.1 15 3), .int v10]) (h' := h10) zp_103 rfl ?_
                refine zQ_csI (M' := 48) (as := [.int (h10.1 15 3), .int a1]) (S' := [.int v10]) zp_103 rfl rfl rfl zp_48 (Or.inl rfl) rfl rfl (zqm_imp r10' (fun rv h11 r11 => zri_imp r11 (fun v11 r11' => ?_)))
                refine zQ_seq 2 (pc' := 77) (L' := [some (.ref 0), some (.int a1), some (.int a2), some (.int a3), some (.int a4), none]) (S' := [.int (Int32.ofInt 4), .int (v10 - v11)]) (h' := h11) zp_103 rfl ?_
                refine zQ_csI (M' := 218) (as := [.int (v10 - v11), .int (Int32.ofInt 4)]) (S' := []) zp_103 rfl rfl rfl zp_218 (Or.inl rfl) rfl rfl (zqm_imp r11' (fun rv h12 r12 => zri_imp r12 (fun v12 r12' => ?_)))
                refine zQ_seq 4 (pc' := 86) (L' := [some (.ref 0), some (.int a1), some (.int a2), some (.int a3), some (.int a4), some (.int v12)]) (S' := [.int a3, .int a2, .int v12]) (h' := h12) zp_103 rfl ?_
                refine zQ_csI (M' := 41) (as := [.int v12, .int a2, .int a3]) (S' := []) zp_103 rfl rfl rfl zp_41 (Or.inl rfl) rfl rfl (zqm_imp r12' (fun rv h13 r13 => zri_imp r13 (fun v13 r13' => ?_)))
                refine zQ_seq 2 (pc' := 92) (L' := [some (.ref 0), some (.int a1), some (.int a2), some (.int a3), some (.int a4), some (.int v12)]) (S' := [.int a3, .int (Int32.ofInt 10), .int v13]) (h' := h13) zp_103 rfl ?_
                refine zQ_csI (M' := 40) (as := [.int (Int32.ofInt 10), .int a3]) (S' := [.int v13]) zp_103 rfl rfl rfl zp_40 (Or.inl rfl) rfl rfl (zqm_imp r13' (fun rv h14 r14 => zri_imp r14 (fun v14 r14' => ?_)))
                refine zQ_seq 1 (pc' := 97) (L' := [some (.ref 0), some (.int a1), some (.int a2), some (.int a3), some (.int a4), some (.int v12)]) (S' := [.int a4, .int v14, .int v13]) (h' := h14) zp_103 rfl ?_
                refine zQ_csI (M' := 38) (as := [.int v13, .int v14, .int a4]) (S' := []) zp_103 rfl rfl rfl zp_38 (Or.inl rfl) rfl rfl (zqm_imp r14' (fun rv h15 r15 => zri_imp r15 (fun v15 r15' => ?_)))
                refine zQ_seq 1 (pc' := 101) (L' := [some (.ref 0), some (.int a1), some (.int a2), some (.int a3), some (.int a4), some (.int v12)]) (S' := [.long (v15.toInt64)]) (h' := h15) zp_103 rfl ?_
                exact zQ_retL zp_103 rfl r15'
              · refine zQ_seq 1 (pc' := 52) (L' := [some (.ref 0), some (.int a1), some (.int a2), some (.int a3), some (.int a4), none]) (S' := [.long (-1000001 : Int64)]) (h' := h8) zp_103 rfl ?_
                exact zQ_retL zp_103 rfl (r8'.2 c9)
  · refine zQ_seq 1 (pc' := 13) (L' := [some (.ref 0), some (.int a1), some (.int a2), some (.int a3), some (.int a4), none]) (S' := [.long (-1000002 : Int64)]) (h' := h) zp_103 rfl ?_
    exact zQ_retL zp_103 rfl (H.2 c1)
theorem s_104 {h : zH} {Q : Option Value → zH → Prop} (a1 : Int32) (a2 : Int32) (a3 : Int32) (H : (∀ n, zqm 68 [.int a1] h (fun rv h1 => zri rv (fun v1 => ((v1.toInt = 0 → Q (some (.int (-1000001 : Int32))) h1) ∧ (¬ (v1.toInt = 0) → zqm 120 [.int a3] h1 (fun rv h3 => zri rv (fun v3 => ((¬ v3.toInt = 0 → zqm 116 [.ref 0, .int a1, .int a2, .int (Int32.ofInt 4)] h3 (fun rv h5 => zri rv (fun v5 => ((v5.toInt = 0 → zqm 118 [.ref 0, .int a1, .int a2, .int (Int32.ofInt 4)] h5 (fun _ h7 => zQ n 104 44 [some (.ref 0), some (.int a1), some (.int a2), some (.int a3), some (.int v5), some (.int (Int32.ofInt 0))] [] h7 Q)) ∧ (¬ (v5.toInt = 0) → Q (some (.int v5)) h5))))) ∧ (¬ (¬ v3.toInt = 0) → Q (some (.int (-1000001 : Int32))) h3)))))))))) : zqm 104 [.ref 0, .int a1, .int a2, .int a3] h Q := by
  refine zqm_of zp_104 (fun n => ?_)
  have H := H n
  show zQ n 104 0 [some (.ref 0), some (.int a1), some (.int a2), some (.int a3), none, none] [] h Q
  refine zQ_seq 1 (pc' := 1) (L' := [some (.ref 0), some (.int a1), some (.int a2), some (.int a3), none, none]) (S' := [.int a1]) (h' := h) zp_104 rfl ?_
  refine zQ_csI (M' := 68) (as := [.int a1]) (S' := []) zp_104 rfl rfl rfl zp_68 (Or.inr rfl) rfl rfl (zqm_imp H (fun rv h1 r1 => zri_imp r1 (fun v1 r1' => ?_)))
  refine zQ_if zp_104 rfl (t := 14) rfl (i := v1.toInt) rfl (fun c2 => ?_) (fun c2 => ?_)
  · refine zQ_seq 1 (pc' := 16) (L' := [some (.ref 0), some (.int a1), some (.int a2), some (.int a3), none, none]) (S' := [.int (-1000001 : Int32)]) (h' := h1) zp_104 rfl ?_
    exact zQ_retI zp_104 rfl (r1'.1 c2)
  · refine zQ_seq 1 (pc' := 8) (L' := [some (.ref 0), some (.int a1), some (.int a2), some (.int a3), none, none]) (S' := [.int a3]) (h' := h1) zp_104 rfl ?_
    refine zQ_csI (M' := 120) (as := [.int a3]) (S' := []) zp_104 rfl rfl rfl zp_120 (Or.inr rfl) rfl rfl (zqm_imp (r1'.2 c2) (fun rv h3 r3 => zri_imp r3 (fun v3 r3' => ?_)))
    refine zQ_if zp_104 rfl (t := 17) rfl (i := v3.toInt) rfl (fun c4 => ?_) (fun c4 => ?_)
    · refine zQ_seq 4 (pc' := 21) (L' := [some (.ref 0), some (.int a1), some (.int a2), some (.int a3), none, none]) (S' := [.int (Int32.ofInt 4), .int a2, .int a1, .ref 0]) (h' := h3) zp_104 rfl ?_
      refine zQ_cvI (M' := 116) (as := [.ref 0, .int a1, .int a2, .int (Int32.ofInt 4)]) (S' := []) zp_104 rfl rfl zp_116 (Or.inl rfl) rfl rfl (zqm_imp (r3'.1 c4) (fun rv h5 r5 => zri_imp r5 (fun v5 r5' => ?_)))
      refine zQ_seq 2 (pc' := 28) (L' := [some (.ref 0), some (.int a1), some (.int a2), some (.int a3), some (.int v5), none]) (S' := [.int v5]) (h' := h5) zp_104 rfl ?_
      refine zQ_if zp_104 rfl (t := 34) rfl (i := v5.toInt) rfl (fun c6 => ?_) (fun c6 => ?_)
      · refine zQ_seq 4 (pc' := 38) (L' := [some (.ref 0), some (.int a1), some (.int a2), some (.int a3), some (.int v5), none]) (S' := [.int (Int32.ofInt 4), .int a2, .int a1, .ref 0]) (h' := h5) zp_104 rfl ?_
        refine zQ_cvV (M' := 118) (as := [.ref 0, .int a1, .int a2, .int (Int32.ofInt 4)]) (S' := []) zp_104 rfl rfl zp_118 rfl rfl rfl (zqm_imp (r5'.1 c6) (fun rv h7 r7 => ?_))
        refine zQ_seq 2 (pc' := 44) (L' := [some (.ref 0), some (.int a1), some (.int a2), some (.int a3), some (.int v5), some (.int (Int32.ofInt 0))]) (S' := []) (h' := h7) zp_104 rfl ?_
        exact r7
      · refine zQ_seq 1 (pc' := 33) (L' := [some (.ref 0), some (.int a1), some (.int a2), some (.int a3), some (.int v5), none]) (S' := [.int v5]) (h' := h5) zp_104 rfl ?_
        exact zQ_retI zp_104 rfl (r5'.2 c6)
    · refine zQ_seq 1 (pc' := 16) (L' := [some (.ref 0), some (.int a1), some (.int a2), some (.int a3), none, none]) (S' := [.int (-1000001 : Int32)]) (h' := h3) zp_104 rfl ?_
      exact zQ_retI zp_104 rfl (r3'.2 c4)
theorem s_104_44 {n : Nat} {h : zH} {Q : Option Value → zH → Prop} (x1 : Int32) (x2 : Int32) (x3 : Int32) (x4 : Int32) (x5 : Int32) (H : (((4 : Int) ≤ x5.toInt → zqm 42 [.int (h.1 57 0), .int (h.1 57 1), .int (h.1 57 2), .int (h.1 57 3), .int x3] h (fun rv h2 => zri rv (fun v2 => zqm 115 [.ref 0, .int v2] h2 (fun rv h3 => zri rv (fun v3 => Q (some (.int v3)) h3))))) ∧ (¬ ((4 : Int) ≤ x5.toInt) → (0 ≤ x5.toInt → x5.toInt < 4 → (((h.1 57 x5.toInt.toNat).toInt < (-20 : Int) → Q (some (.int (-1000001 : Int32))) h) ∧ (¬ ((h.1 57 x5.toInt.toNat).toInt < (-20 : Int)) → (0 ≤ x5.toInt → x5.toInt < 4 → (((h.1 57 x5.toInt.toNat).toInt ≤ (20 : Int) → zQ n 104 44 [some (.ref 0), some (.int x1), some (.int x2), some (.int x3), some (.int x4), some (.int (x5 + Int32.ofInt 1))] [] h Q) ∧ (¬ ((h.1 57 x5.toInt.toNat).toInt ≤ (20 : Int)) → Q (some (.int (-1000001 : Int32))) h))))))))) : zQ (n + 1) 104 44 [some (.ref 0), some (.int x1), some (.int x2), some (.int x3), some (.int x4), some (.int x5)] [] h Q := by
  refine zQ_seqL 1 (pc' := 47) (L' := [some (.ref 0), some (.int x1), some (.int x2), some (.int x3), some (.int x4), some (.int x5)]) (S' := [.int (Int32.ofInt 4), .int x5]) (h' := h) zp_104 rfl ?_
  refine zQ_ic zp_104 rfl (t := 83) rfl (i := x5.toInt) (j := (4 : Int)) rfl kc_4 (fun c1 => ?_) (fun c1 => ?_)
  · refine zQ_seq 4 (pc' := 89) (L' := [some (.ref 0), some (.int x1), some (.int x2), some (.int x3), some (.int x4), some (.int x5)]) (S' := [.int (Int32.ofInt 0), .ref 57, .ref 0]) (h' := h) zp_104 rfl ?_
    refine zQ_ialk 0 (N := 4) (f := h.1 57) zp_104 rfl rfl kc_0 ?_
    refine zQ_seq 3 (pc' := 95) (L' := [some (.ref 0), some (.int x1), some (.int x2), some (.int x3), some (.int x4), some (.int x5)]) (S' := [.int (Int32.ofInt 1), .ref 57, .int (h.1 57 0), .ref 0]) (h' := h) zp_104 rfl ?_
    refine zQ_ialk 1 (N := 4) (f := h.1 57) zp_104 rfl rfl kc_1 ?_
    refine zQ_seq 3 (pc' := 101) (L' := [some (.ref 0), some (.int x1), some (.int x2), some (.int x3), some (.int x4), some (.int x5)]) (S' := [.int (Int32.ofInt 2), .ref 57, .int (h.1 57 1), .int (h.1 57 0), .ref 0]) (h' := h) zp_104 rfl ?_
    refine zQ_ialk 2 (N := 4) (f := h.1 57) zp_104 rfl rfl kc_2 ?_
    refine zQ_seq 3 (pc' := 107) (L' := [some (.ref 0), some (.int x1), some (.int x2), some (.int x3), some (.int x4), some (.int x5)]) (S' := [.int (Int32.ofInt 3), .ref 57, .int (h.1 57 2), .int (h.1 57 1), .int (h.1 57 0), .ref 0]) (h' := h) zp_104 rfl ?_
    refine zQ_ialk 3 (N := 4) (f := h.1 57) zp_104 rfl rfl kc_3 ?_
    refine zQ_seq 1 (pc' := 109) (L' := [some (.ref 0), some (.int x1), some (.int x2), some (.int x3), some (.int x4), some (.int x5)]) (S' := [.int x3, .int (h.1 57 3), .int (h.1 57 2), .int (h.1 57 1), .int (h.1 57 0), .ref 0]) (h' := h) zp_104 rfl ?_
    refine zQ_csI (M' := 42) (as := [.int (h.1 57 0), .int (h.1 57 1), .int (h.1 57 2), .int (h.1 57 3), .int x3]) (S' := [.ref 0]) zp_104 rfl rfl rfl zp_42 (Or.inl rfl) rfl rfl (zqm_imp (H.1 c1) (fun rv h2 r2 => zri_imp r2 (fun v2 r2' => ?_)))
    refine zQ_cvI (M' := 115) (as := [.ref 0, .int v2]) (S' := []) zp_104 rfl rfl zp_115 (Or.inl rfl) rfl rfl (zqm_imp r2' (fun rv h3 r3 => zri_imp r3 (fun v3 r3' => ?_)))
    exact zQ_retI zp_104 rfl r3'
  · refine zQ_seq 3 (pc' := 56) (L' := [some (.ref 0), some (.int x1), some (.int x2), some (.int x3), some (.int x4), some (.int x5)]) (S' := [.int x5, .ref 57]) (h' := h) zp_104 rfl ?_
    refine zQ_ial (N := 4) (f := h.1 57) zp_104 rfl rfl rfl (fun b4 b4' => ?_)
    refine zQ_seq 1 (pc' := 59) (L' := [some (.ref 0), some (.int x1), some (.int x2), some (.int x3), some (.int x4), some (.int x5)]) (S' := [.int (Int32.ofInt (-20)), .int (h.1 57 x5.toInt.toNat)]) (h' := h) zp_104 rfl ?_
    refine zQ_ic zp_104 rfl (t := 74) rfl (i := (h.1 57 x5.toInt.toNat).toInt) (j := (-20 : Int)) rfl kcm20 (fun c5 => ?_) (fun c5 => ?_)
    · refine zQ_seq 1 (pc' := 76) (L' := [some (.ref 0), some (.int x1), some (.int x2), some (.int x3), some (.int x4), some (.int x5)]) (S' := [.int (-1000001 : Int32)]) (h' := h) zp_104 rfl ?_
      exact zQ_retI zp_104 rfl (((H.2 c1) b4 b4').1 c5)
    · refine zQ_seq 3 (pc' := 68) (L' := [some (.ref 0), some (.int x1), some (.int x2), some (.int x3), some (.int x4), some (.int x5)]) (S' := [.int x5, .ref 57]) (h' := h) zp_104 rfl ?_
      refine zQ_ial (N := 4) (f := h.1 57) zp_104 rfl rfl rfl (fun b6 b6' => ?_)
      refine zQ_seq 1 (pc' := 71) (L' := [some (.ref 0), some (.int x1), some (.int x2), some (.int x3), some (.int x4), some (.int x5)]) (S' := [.int (Int32.ofInt 20), .int (h.1 57 x5.toInt.toNat)]) (h' := h) zp_104 rfl ?_
      refine zQ_ic zp_104 rfl (t := 77) rfl (i := (h.1 57 x5.toInt.toNat).toInt) (j := (20 : Int)) rfl kc_20 (fun c7 => ?_) (fun c7 => ?_)
      · refine zQ_seq 1 (pc' := 80) (L' := [some (.ref 0), some (.int x1), some (.int x2), some (.int x3), some (.int x4), some (.int (x5 + Int32.ofInt 1))]) (S' := []) (h' := h) zp_104 rfl ?_
        refine zQ_goto zp_104 rfl (t := 44) rfl ?_
        exact (((((H.2 c1) b4 b4').2 c5) b6 b6').1 c7)
      · refine zQ_seq 1 (pc' := 76) (L' := [some (.ref 0), some (.int x1), some (.int x2), some (.int x3), some (.int x4), some (.int x5)]) (S' := [.int (-1000001 : Int32)]) (h' := h) zp_104 rfl ?_
        exact zQ_retI zp_104 rfl (((((H.2 c1) b4 b4').2 c5) b6 b6').2 c7)
theorem s_106 {h : zH} {Q : Option Value → zH → Prop} (a1 : Int32) (H : zqm 120 [.int a1] h (fun rv h1 => zri rv (fun v1 => ((¬ v1.toInt = 0 → ((¬ (h1.1 15 0).toInt = 0 → ((a1.toInt = 0 → zqm 11 [.ref 31, .ref 15] h1 (fun _ h5 => Q (some (.int (Int32.ofInt 1))) h5)) ∧ (a1.toInt = 1 → zqm 11 [.ref 39, .ref 15] h1 (fun _ h6 => Q (some (.int (Int32.ofInt 1))) h6)))) ∧ (¬ (¬ (h1.1 15 0).toInt = 0) → Q (some (.int (-1000002 : Int32))) h1))) ∧ (¬ (¬ v1.toInt = 0) → Q (some (.int (-1000001 : Int32))) h1))))) : zqm 106 [.ref 0, .int a1] h Q := by
  refine zqm_of zp_106 (fun n => ?_)
  show zQ n 106 0 [some (.ref 0), some (.int a1)] [] h Q
  refine zQ_seq 1 (pc' := 1) (L' := [some (.ref 0), some (.int a1)]) (S' := [.int a1]) (h' := h) zp_106 rfl ?_
  refine zQ_csI (M' := 120) (as := [.int a1]) (S' := []) zp_106 rfl rfl rfl zp_120 (Or.inr rfl) rfl rfl (zqm_imp H (fun rv h1 r1 => zri_imp r1 (fun v1 r1' => ?_)))
  refine zQ_if zp_106 rfl (t := 10) rfl (i := v1.toInt) rfl (fun c2 => ?_) (fun c2 => ?_)
  · refine zQ_seq 3 (pc' := 17) (L' := [some (.ref 0), some (.int a1)]) (S' := [.int (h1.1 15 0)]) (h' := h1) zp_106 rfl ?_
    refine zQ_if zp_106 rfl (t := 23) rfl (i := (h1.1 15 0).toInt) rfl (fun c3 => ?_) (fun c3 => ?_)
    · refine zQ_seq 3 (pc' := 28) (L' := [some (.ref 0), some (.int a1)]) (S' := [.int a1, .ref 47]) (h' := h1) zp_106 rfl ?_
      refine zQ_img zp_106 rfl (fun b4 => ?_) (fun b4 => ?_)
      · refine zQ_seq 2 (pc' := 33) (L' := [some (.ref 0), some (.int a1)]) (S' := [.ref 15, .ref 31]) (h' := h1) zp_106 rfl ?_
        refine zQ_cvV (M' := 11) (as := [.ref 31, .ref 15]) (S' := []) zp_106 rfl rfl zp_11 rfl rfl rfl (zqm_imp (((r1'.1 c2).1 c3).1 b4) (fun rv h5 r5 => ?_))
        refine zQ_seq 1 (pc' := 37) (L' := [some (.ref 0), some (.int a1)]) (S' := [.int (Int32.ofInt 1)]) (h' := h5) zp_106 rfl ?_
        exact zQ_retI zp_106 rfl r5
      · refine zQ_seq 2 (pc' := 33) (L' := [some (.ref 0), some (.int a1)]) (S' := [.ref 15, .ref 39]) (h' := h1) zp_106 rfl ?_
        refine zQ_cvV (M' := 11) (as := [.ref 39, .ref 15]) (S' := []) zp_106 rfl rfl zp_11 rfl rfl rfl (zqm_imp (((r1'.1 c2).1 c3).2 b4) (fun rv h6 r6 => ?_))
        refine zQ_seq 1 (pc' := 37) (L' := [some (.ref 0), some (.int a1)]) (S' := [.int (Int32.ofInt 1)]) (h' := h6) zp_106 rfl ?_
        exact zQ_retI zp_106 rfl r6
    · refine zQ_seq 1 (pc' := 22) (L' := [some (.ref 0), some (.int a1)]) (S' := [.int (-1000002 : Int32)]) (h' := h1) zp_106 rfl ?_
      exact zQ_retI zp_106 rfl ((r1'.1 c2).2 c3)
  · refine zQ_seq 1 (pc' := 9) (L' := [some (.ref 0), some (.int a1)]) (S' := [.int (-1000001 : Int32)]) (h' := h1) zp_106 rfl ?_
    exact zQ_retI zp_106 rfl (r1'.2 c2)
theorem s_107 {h : zH} {Q : Option Value → zH → Prop} (a1 : Int32) (H : zqm 120 [.int a1] h (fun rv h1 => zri rv (fun v1 => ((¬ v1.toInt = 0 → ((a1.toInt = 0 → ((¬ (h1.1 31 0).toInt = 0 → ((a1.toInt = 0 → zqm 11 [.ref 15, .ref 31] h1 (fun _ h6 => zqm 0 [.ref 48] h6 (fun _ h7 => Q (some (.int (Int32.ofInt 1))) h7))) ∧ (a1.toInt = 1 → zqm 11 [.ref 15, .ref 39] h1 (fun _ h8 => zqm 0 [.ref 48] h8 (fun _ h9 => Q (some (.int (Int32.ofInt 1))) h9))))) ∧ (¬ (¬ (h1.1 31 0).toInt = 0) → Q (some (.int (-1000002 : Int32))) h1))) ∧ (a1.toInt = 1 → ((¬ (h1.1 39 0).toInt = 0 → ((a1.toInt = 0 → zqm 11 [.ref 15, .ref 31] h1 (fun _ h12 => zqm 0 [.ref 48] h12 (fun _ h13 => Q (some (.int (Int32.ofInt 1))) h13))) ∧ (a1.toInt = 1 → zqm 11 [.ref 15, .ref 39] h1 (fun _ h14 => zqm 0 [.ref 48] h14 (fun _ h15 => Q (some (.int (Int32.ofInt 1))) h15))))) ∧ (¬ (¬ (h1.1 39 0).toInt = 0) → Q (some (.int (-1000002 : Int32))) h1))))) ∧ (¬ (¬ v1.toInt = 0) → Q (some (.int (-1000001 : Int32))) h1))))) : zqm 107 [.ref 0, .int a1] h Q := by
  refine zqm_of zp_107 (fun n => ?_)
  show zQ n 107 0 [some (.ref 0), some (.int a1)] [] h Q
  refine zQ_seq 1 (pc' := 1) (L' := [some (.ref 0), some (.int a1)]) (S' := [.int a1]) (h' := h) zp_107 rfl ?_
  refine zQ_csI (M' := 120) (as := [.int a1]) (S' := []) zp_107 rfl rfl rfl zp_120 (Or.inr rfl) rfl rfl (zqm_imp H (fun rv h1 r1 => zri_imp r1 (fun v1 r1' => ?_)))
  refine zQ_if zp_107 rfl (t := 10) rfl (i := v1.toInt) rfl (fun c2 => ?_) (fun c2 => ?_)
  · refine zQ_seq 3 (pc' := 15) (L' := [some (.ref 0), some (.int a1)]) (S' := [.int a1, .ref 47]) (h' := h1) zp_107 rfl ?_
    refine zQ_img zp_107 rfl (fun b3 => ?_) (fun b3 => ?_)
    · refine zQ_seq 1 (pc' := 19) (L' := [some (.ref 0), some (.int a1)]) (S' := [.int (h1.1 31 0)]) (h' := h1) zp_107 rfl ?_
      refine zQ_if zp_107 rfl (t := 25) rfl (i := (h1.1 31 0).toInt) rfl (fun c4 => ?_) (fun c4 => ?_)
      · refine zQ_seq 5 (pc' := 34) (L' := [some (.ref 0), some (.int a1)]) (S' := [.int a1, .ref 47, .ref 15]) (h' := h1) zp_107 rfl ?_
        refine zQ_img zp_107 rfl (fun b5 => ?_) (fun b5 => ?_)
        · refine zQ_cvV (M' := 11) (as := [.ref 15, .ref 31]) (S' := []) zp_107 rfl rfl zp_11 rfl rfl rfl (zqm_imp ((((r1'.1 c2).1 b3).1 c4).1 b5) (fun rv h6 r6 => ?_))
          refine zQ_seq 2 (pc' := 42) (L' := [some (.ref 0), some (.int a1)]) (S' := [.ref 48]) (h' := h6) zp_107 rfl ?_
          refine zQ_cvV (M' := 0) (as := [.ref 48]) (S' := []) zp_107 rfl rfl zp_0 rfl rfl rfl (zqm_imp r6 (fun rv h7 r7 => ?_))
          refine zQ_seq 1 (pc' := 46) (L' := [some (.ref 0), some (.int a1)]) (S' := [.int (Int32.ofInt 1)]) (h' := h7) zp_107 rfl ?_
          exact zQ_retI zp_107 rfl r7
        · refine zQ_cvV (M' := 11) (as := [.ref 15, .ref 39]) (S' := []) zp_107 rfl rfl zp_11 rfl rfl rfl (zqm_imp ((((r1'.1 c2).1 b3).1 c4).2 b5) (fun rv h8 r8 => ?_))
          refine zQ_seq 2 (pc' := 42) (L' := [some (.ref 0), some (.int a1)]) (S' := [.ref 48]) (h' := h8) zp_107 rfl ?_
          refine zQ_cvV (M' := 0) (as := [.ref 48]) (S' := []) zp_107 rfl rfl zp_0 rfl rfl rfl (zqm_imp r8 (fun rv h9 r9 => ?_))
          refine zQ_seq 1 (pc' := 46) (L' := [some (.ref 0), some (.int a1)]) (S' := [.int (Int32.ofInt 1)]) (h' := h9) zp_107 rfl ?_
          exact zQ_retI zp_107 rfl r9
      · refine zQ_seq 1 (pc' := 24) (L' := [some (.ref 0), some (.int a1)]) (S' := [.int (-1000002 : Int32)]) (h' := h1) zp_107 rfl ?_
        exact zQ_retI zp_107 rfl (((r1'.1 c2).1 b3).2 c4)
    · refine zQ_seq 1 (pc' := 19) (L' := [some (.ref 0), some (.int a1)]) (S' := [.int (h1.1 39 0)]) (h' := h1) zp_107 rfl ?_
      refine zQ_if zp_107 rfl (t := 25) rfl (i := (h1.1 39 0).toInt) rfl (fun c10 => ?_) (fun c10 => ?_)
      · refine zQ_seq 5 (pc' := 34) (L' := [some (.ref 0), some (.int a1)]) (S' := [.int a1, .ref 47, .ref 15]) (h' := h1) zp_107 rfl ?_
        refine zQ_img zp_107 rfl (fun b11 => ?_) (fun b11 => ?_)
        · refine zQ_cvV (M' := 11) (as := [.ref 15, .ref 31]) (S' := []) zp_107 rfl rfl zp_11 rfl rfl rfl (zqm_imp ((((r1'.1 c2).2 b3).1 c10).1 b11) (fun rv h12 r12 => ?_))
          refine zQ_seq 2 (pc' := 42) (L' := [some (.ref 0), some (.int a1)]) (S' := [.ref 48]) (h' := h12) zp_107 rfl ?_
          refine zQ_cvV (M' := 0) (as := [.ref 48]) (S' := []) zp_107 rfl rfl zp_0 rfl rfl rfl (zqm_imp r12 (fun rv h13 r13 => ?_))
          refine zQ_seq 1 (pc' := 46) (L' := [some (.ref 0), some (.int a1)]) (S' := [.int (Int32.ofInt 1)]) (h' := h13) zp_107 rfl ?_
          exact zQ_retI zp_107 rfl r13
        · refine zQ_cvV (M' := 11) (as := [.ref 15, .ref 39]) (S' := []) zp_107 rfl rfl zp_11 rfl rfl rfl (zqm_imp ((((r1'.1 c2).2 b3).1 c10).2 b11) (fun rv h14 r14 => ?_))
          refine zQ_seq 2 (pc' := 42) (L' := [some (.ref 0), some (.int a1)]) (S' := [.ref 48]) (h' := h14) zp_107 rfl ?_
          refine zQ_cvV (M' := 0) (as := [.ref 48]) (S' := []) zp_107 rfl rfl zp_0 rfl rfl rfl (zqm_imp r14 (fun rv h15 r15 => ?_))
          refine zQ_seq 1 (pc' := 46) (L' := [some (.ref 0), some (.int a1)]) (S' := [.int (Int32.ofInt 1)]) (h' := h15) zp_107 rfl ?_
          exact zQ_retI zp_107 rfl r15
      · refine zQ_seq 1 (pc' := 24) (L' := [some (.ref 0), some (.int a1)]) (S' := [.int (-1000002 : Int32)]) (h' := h1) zp_107 rfl ?_
        exact zQ_retI zp_107 rfl (((r1'.1 c2).2 b3).2 c10)
  · refine zQ_seq 1 (pc' := 9) (L' := [some (.ref 0), some (.int a1)]) (S' := [.int (-1000001 : Int32)]) (h' := h1) zp_107 rfl ?_
    exact zQ_retI zp_107 rfl (r1'.2 c2)
theorem s_108 {h : zH} {Q : Option Value → zH → Prop} (a1 : Int32) (H : zqm 20 [.ref 15, .int a1] h (fun rv h1 => zri rv (fun v1 => ((v1.toInt = 0 → Q (some (.int (-1000001 : Int32))) h1) ∧ (¬ (v1.toInt = 0) → (0 ≤ a1.toInt → a1.toInt < 4 → Q (some (.int (h1.1 17 a1.toInt.toNat))) h1)))))) : zqm 108 [.ref 0, .int a1] h Q := by
  refine zqm_of zp_108 (fun n => ?_)
  show zQ n 108 0 [some (.ref 0), some (.int a1)] [] h Q
  refine zQ_seq 3 (pc' := 5) (L' := [some (.ref 0), some (.int a1)]) (S' := [.int a1, .ref 15]) (h' := h) zp_108 rfl ?_
  refine zQ_cvI (M' := 20) (as := [.ref 15, .int a1]) (S' := []) zp_108 rfl rfl zp_20 (Or.inr rfl) rfl rfl (zqm_imp H (fun rv h1 r1 => zri_imp r1 (fun v1 r1' => ?_)))
  refine zQ_if zp_108 rfl (t := 23) rfl (i := v1.toInt) rfl (fun c2 => ?_) (fun c2 => ?_)
  · refine zQ_seq 1 (pc' := 25) (L' := [some (.ref 0), some (.int a1)]) (S' := [.int (-1000001 : Int32)]) (h' := h1) zp_108 rfl ?_
    exact zQ_retI zp_108 rfl (r1'.1 c2)
  · refine zQ_seq 4 (pc' := 19) (L' := [some (.ref 0), some (.int a1)]) (S' := [.int a1, .ref 17]) (h' := h1) zp_108 rfl ?_
    refine zQ_ial (N := 4) (f := h1.1 17) zp_108 rfl rfl rfl (fun b3 b3' => ?_)
    refine zQ_goto zp_108 rfl (t := 25) rfl ?_
    exact zQ_retI zp_108 rfl ((r1'.2 c2) b3 b3')
theorem s_109 {h : zH} {Q : Option Value → zH → Prop} (a1 : Int32) (a2 : Int32) (H : zqm 20 [.ref 15, .int a1] h (fun rv h1 => zri rv (fun v1 => ((v1.toInt = 0 → Q (some (.int (-1000001 : Int32))) h1) ∧ (¬ (v1.toInt = 0) → ((a2.toInt < 0 → Q (some (.int (-1000001 : Int32))) h1) ∧ (¬ (a2.toInt < 0) → ((a2.toInt < (6 : Int) → (0 ≤ a1.toInt → a1.toInt < 4 → zqm 3 [.int (h1.1 17 a1.toInt.toNat), .int a2] h1 (fun rv h6 => zri rv (fun v6 => ((v6.toInt = 0 → zqm 114 [.ref 0, .int (Int32.ofInt 3)] h6 (fun rv h8 => zri rv (fun v8 => Q (some (.int v8)) h8))) ∧ (¬ (v6.toInt = 0) → zqm 115 [.ref 0, .int a1] h6 (fun rv h9 => zri rv (fun v9 => Q (some (.int v9)) h9)))))))) ∧ (¬ (a2.toInt < (6 : Int)) → Q (some (.int (-1000001 : Int32))) h1))))))))) : zqm 109 [.ref 0, .int a1, .int a2] h Q := by
  refine zqm_of zp_109 (fun n => ?_)
  show zQ n 109 0 [some (.ref 0), some (.int a1), some (.int a2)] [] h Q
  refine zQ_seq 3 (pc' := 5) (L' := [some (.ref 0), some (.int a1), some (.int a2)]) (S' := [.int a1, .ref 15]) (h' := h) zp_109 rfl ?_
  refine zQ_cvI (M' := 20) (as := [.ref 15, .int a1]) (S' := []) zp_109 rfl rfl zp_20 (Or.inr rfl) rfl rfl (zqm_imp H (fun rv h1 r1 => zri_imp r1 (fun v1 r1' => ?_)))
  refine zQ_if zp_109 rfl (t := 21) rfl (i := v1.toInt) rfl (fun c2 => ?_) (fun c2 => ?_)
  · refine zQ_seq 1 (pc' := 23) (L' := [some (.ref 0), some (.int a1), some (.int a2)]) (S' := [.int (-1000001 : Int32)]) (h' := h1) zp_109 rfl ?_
    exact zQ_retI zp_109 rfl (r1'.1 c2)
  · refine zQ_seq 1 (pc' := 12) (L' := [some (.ref 0), some (.int a1), some (.int a2)]) (S' := [.int a2]) (h' := h1) zp_109 rfl ?_
    refine zQ_if zp_109 rfl (t := 21) rfl (i := a2.toInt) rfl (fun c3 => ?_) (fun c3 => ?_)
    · refine zQ_seq 1 (pc' := 23) (L' := [some (.ref 0), some (.int a1), some (.int a2)]) (S' := [.int (-1000001 : Int32)]) (h' := h1) zp_109 rfl ?_
      exact zQ_retI zp_109 rfl ((r1'.2 c2).1 c3)
    · refine zQ_seq 2 (pc' := 18) (L' := [some (.ref 0), some (.int a1), some (.int a2)]) (S' := [.int (Int32.ofInt 6), .int a2]) (h' := h1) zp_109 rfl ?_
      refine zQ_ic zp_109 rfl (t := 24) rfl (i := a2.toInt) (j := (6 : Int)) rfl kc_6 (fun c4 => ?_) (fun c4 => ?_)
      · refine zQ_seq 4 (pc' := 32) (L' := [some (.ref 0), some (.int a1), some (.int a2)]) (S' := [.int a1, .ref 17]) (h' := h1) zp_109 rfl ?_
        refine zQ_ial (N := 4) (f := h1.1 17) zp_109 rfl rfl rfl (fun b5 b5' => ?_)
        refine zQ_seq 1 (pc' := 34) (L' := [some (.ref 0), some (.int a1), some (.int a2)]) (S' := [.int a2, .int (h1.1 17 a1.toInt.toNat)]) (h' := h1) zp_109 rfl ?_
        refine zQ_csI (M' := 3) (as := [.int (h1.1 17 a1.toInt.toNat), .int a2]) (S' := []) zp_109 rfl rfl rfl zp_3 (Or.inr rfl) rfl rfl (zqm_imp ((((r1'.2 c2).2 c3).1 c4) b5 b5') (fun rv h6 r6 => zri_imp r6 (fun v6 r6' => ?_)))
        refine zQ_if zp_109 rfl (t := 48) rfl (i := v6.toInt) rfl (fun c7 => ?_) (fun c7 => ?_)
        · refine zQ_seq 2 (pc' := 50) (L' := [some (.ref 0), some (.int a1), some (.int a2)]) (S' := [.int (Int32.ofInt 3), .ref 0]) (h' := h6) zp_109 rfl ?_
          refine zQ_cvI (M' := 114) (as := [.ref 0, .int (Int32.ofInt 3)]) (S' := []) zp_109 rfl rfl zp_114 (Or.inl rfl) rfl rfl (zqm_imp (r6'.1 c7) (fun rv h8 r8 => zri_imp r8 (fun v8 r8' => ?_)))
          exact zQ_retI zp_109 rfl r8'
        · refine zQ_seq 2 (pc' := 42) (L' := [some (.ref 0), some (.int a1), some (.int a2)]) (S' := [.int a1, .ref 0]) (h' := h6) zp_109 rfl ?_
          refine zQ_cvI (M' := 115) (as := [.ref 0, .int a1]) (S' := []) zp_109 rfl rfl zp_115 (Or.inl rfl) rfl rfl (zqm_imp (r6'.2 c7) (fun rv h9 r9 => zri_imp r9 (fun v9 r9' => ?_)))
          refine zQ_goto zp_109 rfl (t := 53) rfl ?_
          exact zQ_retI zp_109 rfl r9'
      · refine zQ_seq 1 (pc' := 23) (L' := [some (.ref 0), some (.int a1), some (.int a2)]) (S' := [.int (-1000001 : Int32)]) (h' := h1) zp_109 rfl ?_
        exact zQ_retI zp_109 rfl (((r1'.2 c2).2 c3).2 c4)
theorem s_110 {h : zH} {Q : Option Value → zH → Prop} (a1 : Int32) (a2 : Int32) (H : zqm 20 [.ref 15, .int a1] h (fun rv h1 => zri rv (fun v1 => ((v1.toInt = 0 → Q (some (.int (-1000001 : Int32))) h1) ∧ (¬ (v1.toInt = 0) → zqm 120 [.int a2] h1 (fun rv h3 => zri rv (fun v3 => ((¬ v3.toInt = 0 → zqm 4 [.ref 52, .ref 15, .int a1, .int a2] h3 (fun rv h5 => zri rv (fun v5 => Q (some (.int v5)) h5))) ∧ (¬ (¬ v3.toInt = 0) → Q (some (.int (-1000001 : Int32))) h3))))))))) : zqm 110 [.ref 0, .int a1, .int a2] h Q := by
  refine zqm_of zp_110 (fun n => ?_)
  show zQ n 110 0 [some (.ref 0), some (.int a1), some (.int a2)] [] h Q
  refine zQ_seq 3 (pc' := 5) (L' := [some (.ref 0), some (.int a1), some (.int a2)]) (S' := [.int a1, .ref 15]) (h' := h) zp_110 rfl ?_
  refine zQ_cvI (M' := 20) (as := [.ref 15, .int a1]) (S' := []) zp_110 rfl rfl zp_20 (Or.inr rfl) rfl rfl (zqm_imp H (fun rv h1 r1 => zri_imp r1 (fun v1 r1' => ?_)))
  refine zQ_if zp_110 rfl (t := 18) rfl (i := v1.toInt) rfl (fun c2 => ?_) (fun c2 => ?_)
  · refine zQ_seq 1 (pc' := 20) (L' := [some (.ref 0), some (.int a1), some (.int a2)]) (S' := [.int (-1000001 : Int32)]) (h' := h1) zp_110 rfl ?_
    exact zQ_retI zp_110 rfl (r1'.1 c2)
  · refine zQ_seq 1 (pc' := 12) (L' := [some (.ref 0), some (.int a1), some (.int a2)]) (S' := [.int a2]) (h' := h1) zp_110 rfl ?_
    refine zQ_csI (M' := 120) (as := [.int a2]) (S' := []) zp_110 rfl rfl rfl zp_120 (Or.inr rfl) rfl rfl (zqm_imp (r1'.2 c2) (fun rv h3 r3 => zri_imp r3 (fun v3 r3' => ?_)))
    refine zQ_if zp_110 rfl (t := 21) rfl (i := v3.toInt) rfl (fun c4 => ?_) (fun c4 => ?_)
    · refine zQ_seq 6 (pc' := 31) (L' := [some (.ref 0), some (.int a1), some (.int a2)]) (S' := [.int a2, .int a1, .ref 15, .ref 52]) (h' := h3) zp_110 rfl ?_
      refine zQ_cvI (M' := 4) (as := [.ref 52, .ref 15, .int a1, .int a2]) (S' := []) zp_110 rfl rfl zp_4 (Or.inl rfl) rfl rfl (zqm_imp (r3'.1 c4) (fun rv h5 r5 => zri_imp r5 (fun v5 r5' => ?_)))
      exact zQ_retI zp_110 rfl r5'
    · refine zQ_seq 1 (pc' := 20) (L' := [some (.ref 0), some (.int a1), some (.int a2)]) (S' := [.int (-1000001 : Int32)]) (h' := h3) zp_110 rfl ?_
      exact zQ_retI zp_110 rfl (r3'.2 c4)
theorem s_111 {h : zH} {Q : Option Value → zH → Prop} (a1 : Int32) (H : zqm 5 [.ref 52, .int a1] h (fun rv h1 => zri rv (fun v1 => Q (some (.int v1)) h1))) : zqm 111 [.ref 0, .int a1] h Q := by
  refine zqm_of zp_111 (fun n => ?_)
  show zQ n 111 0 [some (.ref 0), some (.int a1)] [] h Q
  refine zQ_seq 3 (pc' := 5) (L' := [some (.ref 0), some (.int a1)]) (S' := [.int a1, .ref 52]) (h' := h) zp_111 rfl ?_
  refine zQ_cvI (M' := 5) (as := [.ref 52, .int a1]) (S' := []) zp_111 rfl rfl zp_5 (Or.inl rfl) rfl rfl (zqm_imp H (fun rv h1 r1 => zri_imp r1 (fun v1 r1' => ?_)))
  exact zQ_retI zp_111 rfl r1'
theorem s_112 {h : zH} {Q : Option Value → zH → Prop} (a1 : Int32) (H : ((a1.toInt = 0 → zqm 73 [.ref 1] h (fun rv h2 => zri rv (fun v2 => Q (some (.int v2)) h2))) ∧ ((a1.toInt = 1 → Q (some (.int (h.1 15 6))) h) ∧ ((a1.toInt = 2 → Q (some (.int (h.1 15 1))) h) ∧ ((a1.toInt = 3 → Q (some (.int (h.1 15 2))) h) ∧ ((a1.toInt = 4 → Q (some (.int (h.1 15 5))) h) ∧ ((a1.toInt = 5 → zqm 25 [.ref 15] h (fun rv h3 => zri rv (fun v3 => zqm 217 [.int v3] h3 (fun rv h4 => zri rv (fun v4 => Q (some (.int v4)) h4))))) ∧ ((a1.toInt = 6 → Q (some (.int (h.1 48 4))) h) ∧ ((a1.toInt = 7 → Q (some (.int (h.1 13 1))) h) ∧ ((a1.toInt < 0 ∨ 7 < a1.toInt) → Q (some (.int (-1000001 : Int32))) h)))))))))) : zqm 112 [.ref 0, .int a1] h Q := by
  refine zqm_of zp_112 (fun n => ?_)
  show zQ n 112 0 [some (.ref 0), some (.int a1)] [] h Q
  refine zQ_seq 1 (pc' := 1) (L' := [some (.ref 0), some (.int a1)]) (S' := [.int a1]) (h' := h) zp_112 rfl ?_
  refine zQ_tsw zp_112 rfl (fun t ht => ?_)
  rcases (by omega : a1.toInt = 0 ∨ a1.toInt = 1 ∨ a1.toInt = 2 ∨ a1.toInt = 3 ∨ a1.toInt = 4 ∨ a1.toInt = 5 ∨ a1.toInt = 6 ∨ a1.toInt = 7 ∨ (a1.toInt < 0 ∨ 7 < a1.toInt)) with c1 | c1 | c1 | c1 | c1 | c1 | c1 | c1 | c1
  · have e : (some 48 : Option Nat) = some t := by rw [c1] at ht; exact ht
    cases e
    refine zQ_seq 2 (pc' := 52) (L' := [some (.ref 0), some (.int a1)]) (S' := [.ref 1]) (h' := h) zp_112 rfl ?_
    refine zQ_cvI (M' := 73) (as := [.ref 1]) (S' := []) zp_112 rfl rfl zp_73 (Or.inl rfl) rfl rfl (zqm_imp (H.1 c1) (fun rv h2 r2 => zri_imp r2 (fun v2 r2' => ?_)))
    exact zQ_retI zp_112 rfl r2'
  · have e : (some 56 : Option Nat) = some t := by rw [c1] at ht; exact ht
    cases e
    refine zQ_seq 3 (pc' := 63) (L' := [some (.ref 0), some (.int a1)]) (S' := [.int (h.1 15 6)]) (h' := h) zp_112 rfl ?_
    exact zQ_retI zp_112 rfl (H.2.1 c1)
  · have e : (some 64 : Option Nat) = some t := by rw [c1] at ht; exact ht
    cases e
    refine zQ_seq 3 (pc' := 71) (L' := [some (.ref 0), some (.int a1)]) (S' := [.int (h.1 15 1)]) (h' := h) zp_112 rfl ?_
    exact zQ_retI zp_112 rfl (H.2.2.1 c1)
  · have e : (some 72 : Option Nat) = some t := by rw [c1] at ht; exact ht
    cases e
    refine zQ_seq 3 (pc' := 79) (L' := [some (.ref 0), some (.int a1)]) (S' := [.int (h.1 15 2)]) (h' := h) zp_112 rfl ?_
    exact zQ_retI zp_112 rfl (H.2.2.2.1 c1)
  · have e : (some 80 : Option Nat) = some t := by rw [c1] at ht; exact ht
    cases e
    refine zQ_seq 3 (pc' := 87) (L' := [some (.ref 0), some (.int a1)]) (S' := [.int (h.1 15 5)]) (h' := h) zp_112 rfl ?_
    exact zQ_retI zp_112 rfl (H.2.2.2.2.1 c1)
  · have e : (some 88 : Option Nat) = some t := by rw [c1] at ht; exact ht
    cases e
    refine zQ_seq 2 (pc' := 92) (L' := [some (.ref 0), some (.int a1)]) (S' := [.ref 15]) (h' := h) zp_112 rfl ?_
    refine zQ_cvI (M' := 25) (as := [.ref 15]) (S' := []) zp_112 rfl rfl zp_25 (Or.inl rfl) rfl rfl (zqm_imp (H.2.2.2.2.2.1 c1) (fun rv h3 r3 => zri_imp r3 (fun v3 r3' => ?_)))
    refine zQ_csI (M' := 217) (as := [.int v3]) (S' := []) zp_112 rfl rfl rfl zp_217 (Or.inl rfl) rfl rfl (zqm_imp r3' (fun rv h4 r4 => zri_imp r4 (fun v4 r4' => ?_)))
    exact zQ_retI zp_112 rfl r4'
  · have e : (some 99 : Option Nat) = some t := by rw [c1] at ht; exact ht
    cases e
    refine zQ_seq 3 (pc' := 106) (L' := [some (.ref 0), some (.int a1)]) (S' := [.int (h.1 48 4)]) (h' := h) zp_112 rfl ?_
    exact zQ_retI zp_112 rfl (H.2.2.2.2.2.2.1 c1)
  · have e : (some 107 : Option Nat) = some t := by rw [c1] at ht; exact ht
    cases e
    refine zQ_seq 3 (pc' := 114) (L' := [some (.ref 0), some (.int a1)]) (S' := [.int (h.1 13 1)]) (h' := h) zp_112 rfl ?_
    exact zQ_retI zp_112 rfl (H.2.2.2.2.2.2.2.1 c1)
  · have e : (some 115 : Option Nat) = some t := by rw [zTsw_d (t' := 115) rfl c1 ht]
    cases e
    refine zQ_seq 1 (pc' := 117) (L' := [some (.ref 0), some (.int a1)]) (S' := [.int (-1000001 : Int32)]) (h' := h) zp_112 rfl ?_
    exact zQ_retI zp_112 rfl (H.2.2.2.2.2.2.2.2 c1)
theorem s_113 {h : zH} {Q : Option Value → zH → Prop} (H : Q (some (.int (h.1 0 11))) h) : zqm 113 [.ref 0] h Q := by
  refine zqm_of zp_113 (fun n => ?_)
  show zQ n 113 0 [some (.ref 0)] [] h Q
  refine zQ_seq 2 (pc' := 4) (L' := [some (.ref 0)]) (S' := [.int (h.1 0 11)]) (h' := h) zp_113 rfl ?_
  exact zQ_retI zp_113 rfl H
theorem s_114 {h : zH} {Q : Option Value → zH → Prop} (a1 : Int32) (H : Q (some (.int ((-1000010 : Int32) - a1))) (zSet h 0 11 a1)) : zqm 114 [.ref 0, .int a1] h Q := by
  refine zqm_of zp_114 (fun n => ?_)
  show zQ n 114 0 [some (.ref 0), some (.int a1)] [] h Q
  refine zQ_seq 6 (pc' := 10) (L' := [some (.ref 0), some (.int a1)]) (S' := [.int ((-1000010 : Int32) - a1)]) (h' := (zSet h 0 11 a1)) zp_114 rfl ?_
  exact zQ_retI zp_114 rfl H
theorem s_115 {h : zH} {Q : Option Value → zH → Prop} (a1 : Int32) (H : Q (some (.int a1)) (zSet h 0 11 (Int32.ofInt 0))) : zqm 115 [.ref 0, .int a1] h Q := by
  refine zqm_of zp_115 (fun n => ?_)
  show zQ n 115 0 [some (.ref 0), some (.int a1)] [] h Q
  refine zQ_seq 4 (pc' := 6) (L' := [some (.ref 0), some (.int a1)]) (S' := [.int a1]) (h' := (zSet h 0 11 (Int32.ofInt 0))) zp_115 rfl ?_
  exact zQ_retI zp_115 rfl H
theorem s_116 {h : zH} {Q : Option Value → zH → Prop} (a1 : Int32) (a2 : Int32) (a3 : Int32) (H : zqm 70 [.ref 1, .int a1] h (fun rv h1 => zri rv (fun v1 => ((v1.toInt = 0 → zqm 71 [.ref 1, .int a1, .int a2, .int a3] h1 (fun rv h3 => zri rv (fun v3 => ((v3.toInt = 0 → zqm 114 [.ref 0, .int (Int32.ofInt 2)] h3 (fun rv h5 => zri rv (fun v5 => Q (some (.int v5)) h5))) ∧ (¬ (v3.toInt = 0) → Q (some (.int (Int32.ofInt 0))) h3))))) ∧ (¬ (v1.toInt = 0) → zqm 114 [.ref 0, .int (Int32.ofInt 1)] h1 (fun rv h6 => zri rv (fun v6 => Q (some (.int v6)) h6))))))) : zqm 116 [.ref 0, .int a1, .int a2, .int a3] h Q := by
  refine zqm_of zp_116 (fun n => ?_)
  show zQ n 116 0 [some (.ref 0), some (.int a1), some (.int a2), some (.int a3)] [] h Q
  refine zQ_seq 3 (pc' := 5) (L' := [some (.ref 0), some (.int a1), some (.int a2), some (.int a3)]) (S' := [.int a1, .ref 1]) (h' := h) zp_116 rfl ?_
  refine zQ_cvI (M' := 70) (as := [.ref 1, .int a1]) (S' := []) zp_116 rfl rfl zp_70 (Or.inr rfl) rfl rfl (zqm_imp H (fun rv h1 r1 => zri_imp r1 (fun v1 r1' => ?_)))
  refine zQ_if zp_116 rfl (t := 17) rfl (i := v1.toInt) rfl (fun c2 => ?_) (fun c2 => ?_)
  · refine zQ_seq 5 (pc' := 24) (L' := [some (.ref 0), some (.int a1), some (.int a2), some (.int a3)]) (S' := [.int a3, .int a2, .int a1, .ref 1]) (h' := h1) zp_116 rfl ?_
    refine zQ_cvI (M' := 71) (as := [.ref 1, .int a1, .int a2, .int a3]) (S' := []) zp_116 rfl rfl zp_71 (Or.inr rfl) rfl rfl (zqm_imp (r1'.1 c2) (fun rv h3 r3 => zri_imp r3 (fun v3 r3' => ?_)))
    refine zQ_if zp_116 rfl (t := 34) rfl (i := v3.toInt) rfl (fun c4 => ?_) (fun c4 => ?_)
    · refine zQ_seq 2 (pc' := 36) (L' := [some (.ref 0), some (.int a1), some (.int a2), some (.int a3)]) (S' := [.int (Int32.ofInt 2), .ref 0]) (h' := h3) zp_116 rfl ?_
      refine zQ_cvI (M' := 114) (as := [.ref 0, .int (Int32.ofInt 2)]) (S' := []) zp_116 rfl rfl zp_114 (Or.inl rfl) rfl rfl (zqm_imp (r3'.1 c4) (fun rv h5 r5 => zri_imp r5 (fun v5 r5' => ?_)))
      exact zQ_retI zp_116 rfl r5'
    · refine zQ_seq 1 (pc' := 31) (L' := [some (.ref 0), some (.int a1), some (.int a2), some (.int a3)]) (S' := [.int (Int32.ofInt 0)]) (h' := h3) zp_116 rfl ?_
      refine zQ_goto zp_116 rfl (t := 39) rfl ?_
      exact zQ_retI zp_116 rfl (r3'.2 c4)
  · refine zQ_seq 2 (pc' := 13) (L' := [some (.ref 0), some (.int a1), some (.int a2), some (.int a3)]) (S' := [.int (Int32.ofInt 1), .ref 0]) (h' := h1) zp_116 rfl ?_
    refine zQ_cvI (M' := 114) (as := [.ref 0, .int (Int32.ofInt 1)]) (S' := []) zp_116 rfl rfl zp_114 (Or.inl rfl) rfl rfl (zqm_imp (r1'.2 c2) (fun rv h6 r6 => zri_imp r6 (fun v6 r6' => ?_)))
    exact zQ_retI zp_116 rfl r6'
theorem s_117 {h : zH} {Q : Option Value → zH → Prop} (a1 : Int32) (a2 : Int32) (a3 : Int32) (H : ((¬ (h.1 15 0).toInt = 0 → zqm 68 [.int a1] h (fun rv h2 => zri rv (fun v2 => ((v2.toInt = 0 → Q (some (.int (-1000001 : Int32))) h2) ∧ (¬ (v2.toInt = 0) → zqm 120 [.int a3] h2 (fun rv h4 => zri rv (fun v4 => ((¬ v4.toInt = 0 → zqm 116 [.ref 0, .int a1, .int a2, .int (h4.1 15 6)] h4 (fun rv h6 => zri rv (fun v6 => Q (some (.int v6)) h6))) ∧ (¬ (¬ v4.toInt = 0) → Q (some (.int (-1000001 : Int32))) h4))))))))) ∧ (¬ (¬ (h.1 15 0).toInt = 0) → Q (some (.int (-1000002 : Int32))) h))) : zqm 117 [.ref 0, .int a1, .int a2, .int a3] h Q := by
  refine zqm_of zp_117 (fun n => ?_)
  show zQ n 117 0 [some (.ref 0), some (.int a1), some (.int a2), some (.int a3)] [] h Q
  refine zQ_seq 3 (pc' := 7) (L' := [some (.ref 0), some (.int a1), some (.int a2), some (.int a3)]) (S' := [.int (h.1 15 0)]) (h' := h) zp_117 rfl ?_
  refine zQ_if zp_117 rfl (t := 13) rfl (i := (h.1 15 0).toInt) rfl (fun c1 => ?_) (fun c1 => ?_)
  · refine zQ_seq 1 (pc' := 14) (L' := [some (.ref 0), some (.int a1), some (.int a2), some (.int a3)]) (S' := [.int a1]) (h' := h) zp_117 rfl ?_
    refine zQ_csI (M' := 68) (as := [.int a1]) (S' := []) zp_117 rfl rfl rfl zp_68 (Or.inr rfl) rfl rfl (zqm_imp (H.1 c1) (fun rv h2 r2 => zri_imp r2 (fun v2 r2' => ?_)))
    refine zQ_if zp_117 rfl (t := 27) rfl (i := v2.toInt) rfl (fun c3 => ?_) (fun c3 => ?_)
    · refine zQ_seq 1 (pc' := 29) (L' := [some (.ref 0), some (.int a1), some (.int a2), some (.int a3)]) (S' := [.int (-1000001 : Int32)]) (h' := h2) zp_117 rfl ?_
      exact zQ_retI zp_117 rfl (r2'.1 c3)
    · refine zQ_seq 1 (pc' := 21) (L' := [some (.ref 0), some (.int a1), some (.int a2), some (.int a3)]) (S' := [.int a3]) (h' := h2) zp_117 rfl ?_
      refine zQ_csI (M' := 120) (as := [.int a3]) (S' := []) zp_117 rfl rfl rfl zp_120 (Or.inr rfl) rfl rfl (zqm_imp (r2'.2 c3) (fun rv h4 r4 => zri_imp r4 (fun v4 r4' => ?_)))
      refine zQ_if zp_117 rfl (t := 30) rfl (i := v4.toInt) rfl (fun c5 => ?_) (fun c5 => ?_)
      · refine zQ_seq 6 (pc' := 40) (L' := [some (.ref 0), some (.int a1), some (.int a2), some (.int a3)]) (S' := [.int (h4.1 15 6), .int a2, .int a1, .ref 0]) (h' := h4) zp_117 rfl ?_
        refine zQ_cvI (M' := 116) (as := [.ref 0, .int a1, .int a2, .int (h4.1 15 6)]) (S' := []) zp_117 rfl rfl zp_116 (Or.inl rfl) rfl rfl (zqm_imp (r4'.1 c5) (fun rv h6 r6 => zri_imp r6 (fun v6 r6' => ?_)))
        exact zQ_retI zp_117 rfl r6'
      · refine zQ_seq 1 (pc' := 29) (L' := [some (.ref 0), some (.int a1), some (.int a2), some (.int a3)]) (S' := [.int (-1000001 : Int32)]) (h' := h4) zp_117 rfl ?_
        exact zQ_retI zp_117 rfl (r4'.2 c5)
  · refine zQ_seq 1 (pc' := 12) (L' := [some (.ref 0), some (.int a1), some (.int a2), some (.int a3)]) (S' := [.int (-1000002 : Int32)]) (h' := h) zp_117 rfl ?_
    exact zQ_retI zp_117 rfl (H.2 c1)
theorem s_118 {h : zH} {Q : Option Value → zH → Prop} (a1 : Int32) (a2 : Int32) (a3 : Int32) (H : (∀ n, zQ n 118 3 [some (.ref 0), some (.int a1), some (.int a2), some (.int a3), some (.int (Int32.ofInt 0))] [] h Q)) : zqm 118 [.ref 0, .int a1, .int a2, .int a3] h Q := by
  refine zqm_of zp_118 (fun n => ?_)
  have H := H n
  show zQ n 118 0 [some (.ref 0), some (.int a1), some (.int a2), some (.int a3), none] [] h Q
  refine zQ_seq 2 (pc' := 3) (L' := [some (.ref 0), some (.int a1), some (.int a2), some (.int a3), some (.int (Int32.ofInt 0))]) (S' := []) (h' := h) zp_118 rfl ?_
  exact H
theorem s_118_3 {n : Nat} {h : zH} {Q : Option Value → zH → Prop} (x1 : Int32) (x2 : Int32) (x3 : Int32) (x4 : Int32) (H : (((4 : Int) ≤ x4.toInt → Q none h) ∧ (¬ ((4 : Int) ≤ x4.toInt) → ((x3.toInt ≤ x4.toInt → (0 ≤ x4.toInt → x4.toInt < 4 → zQ n 118 3 [some (.ref 0), some (.int x1), some (.int x2), some (.int x3), some (.int (x4 + Int32.ofInt 1))] [] (zSet h 57 x4.toInt.toNat (Int32.ofInt 0)) Q)) ∧ (¬ (x3.toInt ≤ x4.toInt) → zqm 76 [.ref 1, .int x1, .int (x2 + x4)] h (fun rv h4 => zri rv (fun v4 => (0 ≤ x4.toInt → x4.toInt < 4 → zQ n 118 3 [some (.ref 0), some (.int x1), some (.int x2), some (.int x3), some (.int (x4 + Int32.ofInt 1))] [] (zSet h4 57 x4.toInt.toNat v4) Q)))))))) : zQ (n + 1) 118 3 [some (.ref 0), some (.int x1), some (.int x2), some (.int x3), some (.int x4)] [] h Q := by
  refine zQ_seqL 1 (pc' := 6) (L' := [some (.ref 0), some (.int x1), some (.int x2), some (.int x3), some (.int x4)]) (S' := [.int (Int32.ofInt 4), .int x4]) (h' := h) zp_118 rfl ?_
  refine zQ_ic zp_118 rfl (t := 44) rfl (i := x4.toInt) (j := (4 : Int)) rfl kc_4 (fun c1 => ?_) (fun c1 => ?_)
  · exact zQ_retV zp_118 rfl (H.1 c1)
  · refine zQ_seq 5 (pc' := 18) (L' := [some (.ref 0), some (.int x1), some (.int x2), some (.int x3), some (.int x4)]) (S' := [.int x3, .int x4, .int x4, .ref 57]) (h' := h) zp_118 rfl ?_
    refine zQ_ic zp_118 rfl (t := 36) rfl (i := x4.toInt) (j := x3.toInt) rfl rfl (fun c2 => ?_) (fun c2 => ?_)
    · refine zQ_seq 1 (pc' := 37) (L' := [some (.ref 0), some (.int x1), some (.int x2), some (.int x3), some (.int x4)]) (S' := [.int (Int32.ofInt 0), .int x4, .ref 57]) (h' := h) zp_118 rfl ?_
      refine zQ_ias (N := 4) zp_118 rfl rfl rfl (fun b3 b3' => ?_)
      refine zQ_seq 1 (pc' := 41) (L' := [some (.ref 0), some (.int x1), some (.int x2), some (.int x3), some (.int (x4 + Int32.ofInt 1))]) (S' := []) (h' := (zSet h 57 x4.toInt.toNat (Int32.ofInt 0))) zp_118 rfl ?_
      refine zQ_goto zp_118 rfl (t := 3) rfl ?_
      exact (((H.2 c1).1 c2) b3 b3')
    · refine zQ_seq 6 (pc' := 30) (L' := [some (.ref 0), some (.int x1), some (.int x2), some (.int x3), some (.int x4)]) (S' := [.int (x2 + x4), .int x1, .ref 1, .int x4, .ref 57]) (h' := h) zp_118 rfl ?_
      refine zQ_cvI (M' := 76) (as := [.ref 1, .int x1, .int (x2 + x4)]) (S' := [.int x4, .ref 57]) zp_118 rfl rfl zp_76 (Or.inl rfl) rfl rfl (zqm_imp ((H.2 c1).2 c2) (fun rv h4 r4 => zri_imp r4 (fun v4 r4' => ?_)))
      refine zQ_goto zp_118 rfl (t := 37) rfl ?_
      refine zQ_ias (N := 4) zp_118 rfl rfl rfl (fun b5 b5' => ?_)
      refine zQ_seq 1 (pc' := 41) (L' := [some (.ref 0), some (.int x1), some (.int x2), some (.int x3), some (.int (x4 + Int32.ofInt 1))]) (S' := []) (h' := (zSet h4 57 x4.toInt.toNat v4)) zp_118 rfl ?_
      refine zQ_goto zp_118 rfl (t := 3) rfl ?_
      exact (r4' b5 b5')
theorem s_119 {h : zH} {Q : Option Value → zH → Prop} (a0 : Int32) (H : ((a0.toInt < 0 → Q (some (.int (Int32.ofInt 0))) h) ∧ (¬ (a0.toInt < 0) → (((15 : Int) ≤ a0.toInt → Q (some (.int (Int32.ofInt 0))) h) ∧ (¬ ((15 : Int) ≤ a0.toInt) → Q (some (.int (Int32.ofInt 1))) h))))) : zqm 119 [.int a0] h Q := by
  refine zqm_of zp_119 (fun n => ?_)
  show zQ n 119 0 [some (.int a0)] [] h Q
  refine zQ_seq 1 (pc' := 1) (L' := [some (.int a0)]) (S' := [.int a0]) (h' := h) zp_119 rfl ?_
  refine zQ_if zp_119 rfl (t := 14) rfl (i := a0.toInt) rfl (fun c1 => ?_) (fun c1 => ?_)
  · refine zQ_seq 1 (pc' := 15) (L' := [some (.int a0)]) (S' := [.int (Int32.ofInt 0)]) (h' := h) zp_119 rfl ?_
    exact zQ_retI zp_119 rfl (H.1 c1)
  · refine zQ_seq 2 (pc' := 7) (L' := [some (.int a0)]) (S' := [.int (Int32.ofInt 15), .int a0]) (h' := h) zp_119 rfl ?_
    refine zQ_ic zp_119 rfl (t := 14) rfl (i := a0.toInt) (j := (15 : Int)) rfl kc_15 (fun c2 => ?_) (fun c2 => ?_)
    · refine zQ_seq 1 (pc' := 15) (L' := [some (.int a0)]) (S' := [.int (Int32.ofInt 0)]) (h' := h) zp_119 rfl ?_
      exact zQ_retI zp_119 rfl ((H.2 c1).1 c2)
    · refine zQ_seq 1 (pc' := 11) (L' := [some (.int a0)]) (S' := [.int (Int32.ofInt 1)]) (h' := h) zp_119 rfl ?_
      refine zQ_goto zp_119 rfl (t := 15) rfl ?_
      exact zQ_retI zp_119 rfl ((H.2 c1).2 c2)
theorem s_120 {h : zH} {Q : Option Value → zH → Prop} (a0 : Int32) (H : ((a0.toInt = 0 → Q (some (.int (Int32.ofInt 1))) h) ∧ (¬ (a0.toInt = 0) → ((¬ a0.toInt = (1 : Int) → Q (some (.int (Int32.ofInt 0))) h) ∧ (¬ (¬ a0.toInt = (1 : Int)) → Q (some (.int (Int32.ofInt 1))) h))))) : zqm 120 [.int a0] h Q := by
  refine zqm_of zp_120 (fun n => ?_)
  show zQ n 120 0 [some (.int a0)] [] h Q
  refine zQ_seq 1 (pc' := 1) (L' := [some (.int a0)]) (S' := [.int a0]) (h' := h) zp_120 rfl ?_
  refine zQ_if zp_120 rfl (t := 9) rfl (i := a0.toInt) rfl (fun c1 => ?_) (fun c1 => ?_)
  · refine zQ_seq 1 (pc' := 10) (L' := [some (.int a0)]) (S' := [.int (Int32.ofInt 1)]) (h' := h) zp_120 rfl ?_
    refine zQ_goto zp_120 rfl (t := 14) rfl ?_
    exact zQ_retI zp_120 rfl (H.1 c1)
  · refine zQ_seq 2 (pc' := 6) (L' := [some (.int a0)]) (S' := [.int (Int32.ofInt 1), .int a0]) (h' := h) zp_120 rfl ?_
    refine zQ_ic zp_120 rfl (t := 13) rfl (i := a0.toInt) (j := (1 : Int)) rfl kc_1 (fun c2 => ?_) (fun c2 => ?_)
    · refine zQ_seq 1 (pc' := 14) (L' := [some (.int a0)]) (S' := [.int (Int32.ofInt 0)]) (h' := h) zp_120 rfl ?_
      exact zQ_retI zp_120 rfl ((H.2 c1).1 c2)
    · refine zQ_seq 1 (pc' := 10) (L' := [some (.int a0)]) (S' := [.int (Int32.ofInt 1)]) (h' := h) zp_120 rfl ?_
      refine zQ_goto zp_120 rfl (t := 14) rfl ?_
      exact zQ_retI zp_120 rfl ((H.2 c1).2 c2)

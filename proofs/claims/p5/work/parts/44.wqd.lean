/-! segments: the class -/
theorem s_80 {h : zH} {Q : Option Value → zH → Prop} (a1 : Int32) (a2 : Int32) (a3 : Int32) (H : zqm 68 [.int a1] h (fun rv h1 => zri rv (fun v1 => ((v1.toInt = 0 → Q (some (.int (-1000001 : Int32))) h1) ∧ (¬ (v1.toInt = 0) → zqm 69 [.int a2] h1 (fun rv h3 => zri rv (fun v3 => ((v3.toInt = 0 → Q (some (.int (-1000001 : Int32))) h3) ∧ (¬ (v3.toInt = 0) → ((a3.toInt ≤ (40 : Int) → ((0 ≤ a3.toInt → zqm 74 [.ref 1, .int a1, .int a2, .int a3] h3 (fun _ h7 => zqm 115 [.ref 0, .int a3] h7 (fun rv h8 => zri rv (fun v8 => Q (some (.int v8)) h8)))) ∧ (¬ (0 ≤ a3.toInt) → zqm 114 [.ref 0, .int (Int32.ofInt 4)] h3 (fun rv h9 => zri rv (fun v9 => Q (some (.int v9)) h9))))) ∧ (¬ (a3.toInt ≤ (40 : Int)) → Q (some (.int (-1000001 : Int32))) h3))))))))))) : zqm 80 [.ref 0, .int a1, .int a2, .int a3] h Q := by
  refine zqm_of zp_80 (fun n => ?_)
  show zQ n 80 0 [some (.ref 0), some (.int a1), some (.int a2), some (.int a3)] [] h Q
  refine zQ_seq 1 (pc' := 1) (L' := [some (.ref 0), some (.int a1), some (.int a2), some (.int a3)]) (S' := [.int a1]) (h' := h) zp_80 rfl ?_
  refine zQ_csI (M' := 68) (as := [.int a1]) (S' := []) zp_80 rfl rfl rfl zp_68 (Or.inr rfl) rfl rfl (zqm_imp H (fun rv h1 r1 => zri_imp r1 (fun v1 r1' => ?_)))
  refine zQ_if zp_80 rfl (t := 20) rfl (i := v1.toInt) rfl (fun c2 => ?_) (fun c2 => ?_)
  · refine zQ_seq 1 (pc' := 22) (L' := [some (.ref 0), some (.int a1), some (.int a2), some (.int a3)]) (S' := [.int (-1000001 : Int32)]) (h' := h1) zp_80 rfl ?_
    exact zQ_retI zp_80 rfl (r1'.1 c2)
  · refine zQ_seq 1 (pc' := 8) (L' := [some (.ref 0), some (.int a1), some (.int a2), some (.int a3)]) (S' := [.int a2]) (h' := h1) zp_80 rfl ?_
    refine zQ_csI (M' := 69) (as := [.int a2]) (S' := []) zp_80 rfl rfl rfl zp_69 (Or.inr rfl) rfl rfl (zqm_imp (r1'.2 c2) (fun rv h3 r3 => zri_imp r3 (fun v3 r3' => ?_)))
    refine zQ_if zp_80 rfl (t := 20) rfl (i := v3.toInt) rfl (fun c4 => ?_) (fun c4 => ?_)
    · refine zQ_seq 1 (pc' := 22) (L' := [some (.ref 0), some (.int a1), some (.int a2), some (.int a3)]) (S' := [.int (-1000001 : Int32)]) (h' := h3) zp_80 rfl ?_
      exact zQ_retI zp_80 rfl (r3'.1 c4)
    · refine zQ_seq 2 (pc' := 17) (L' := [some (.ref 0), some (.int a1), some (.int a2), some (.int a3)]) (S' := [.int (Int32.ofInt 40), .int a3]) (h' := h3) zp_80 rfl ?_
      refine zQ_ic zp_80 rfl (t := 23) rfl (i := a3.toInt) (j := (40 : Int)) rfl kc_40 (fun c5 => ?_) (fun c5 => ?_)
      · refine zQ_seq 1 (pc' := 24) (L' := [some (.ref 0), some (.int a1), some (.int a2), some (.int a3)]) (S' := [.int a3]) (h' := h3) zp_80 rfl ?_
        refine zQ_if zp_80 rfl (t := 33) rfl (i := a3.toInt) rfl (fun c6 => ?_) (fun c6 => ?_)
        · refine zQ_seq 5 (pc' := 40) (L' := [some (.ref 0), some (.int a1), some (.int a2), some (.int a3)]) (S' := [.int a3, .int a2, .int a1, .ref 1]) (h' := h3) zp_80 rfl ?_
          refine zQ_cvV (M' := 74) (as := [.ref 1, .int a1, .int a2, .int a3]) (S' := []) zp_80 rfl rfl zp_74 rfl rfl rfl (zqm_imp (((r3'.2 c4).1 c5).1 c6) (fun rv h7 r7 => ?_))
          refine zQ_seq 2 (pc' := 45) (L' := [some (.ref 0), some (.int a1), some (.int a2), some (.int a3)]) (S' := [.int a3, .ref 0]) (h' := h7) zp_80 rfl ?_
          refine zQ_cvI (M' := 115) (as := [.ref 0, .int a3]) (S' := []) zp_80 rfl rfl zp_115 (Or.inl rfl) rfl rfl (zqm_imp r7 (fun rv h8 r8 => zri_imp r8 (fun v8 r8' => ?_)))
          exact zQ_retI zp_80 rfl r8'
        · refine zQ_seq 2 (pc' := 29) (L' := [some (.ref 0), some (.int a1), some (.int a2), some (.int a3)]) (S' := [.int (Int32.ofInt 4), .ref 0]) (h' := h3) zp_80 rfl ?_
          refine zQ_cvI (M' := 114) (as := [.ref 0, .int (Int32.ofInt 4)]) (S' := []) zp_80 rfl rfl zp_114 (Or.inl rfl) rfl rfl (zqm_imp (((r3'.2 c4).1 c5).2 c6) (fun rv h9 r9 => zri_imp r9 (fun v9 r9' => ?_)))
          exact zQ_retI zp_80 rfl r9'
      · refine zQ_seq 1 (pc' := 22) (L' := [some (.ref 0), some (.int a1), some (.int a2), some (.int a3)]) (S' := [.int (-1000001 : Int32)]) (h' := h3) zp_80 rfl ?_
        exact zQ_retI zp_80 rfl ((r3'.2 c4).2 c5)
theorem s_81 {h : zH} {Q : Option Value → zH → Prop} (a1 : Int32) (a2 : Int32) (a3 : Int32) (H : zqm 68 [.int a1] h (fun rv h1 => zri rv (fun v1 => ((¬ v1.toInt = 0 → zqm 116 [.ref 0, .int a1, .int a2, .int (Int32.ofInt 1)] h1 (fun rv h3 => zri rv (fun v3 => ((v3.toInt = 0 → zqm 77 [.ref 1, .int a1, .int a2, .int a3] h3 (fun rv h5 => zri rv (fun v5 => zqm 115 [.ref 0, .int v5] h5 (fun rv h6 => zri rv (fun v6 => Q (some (.int v6)) h6))))) ∧ (¬ (v3.toInt = 0) → Q (some (.int v3)) h3))))) ∧ (¬ (¬ v1.toInt = 0) → Q (some (.int (-1000001 : Int32))) h1))))) : zqm 81 [.ref 0, .int a1, .int a2, .int a3] h Q := by
  refine zqm_of zp_81 (fun n => ?_)
  show zQ n 81 0 [some (.ref 0), some (.int a1), some (.int a2), some (.int a3), none] [] h Q
  refine zQ_seq 1 (pc' := 1) (L' := [some (.ref 0), some (.int a1), some (.int a2), some (.int a3), none]) (S' := [.int a1]) (h' := h) zp_81 rfl ?_
  refine zQ_csI (M' := 68) (as := [.int a1]) (S' := []) zp_81 rfl rfl rfl zp_68 (Or.inr rfl) rfl rfl (zqm_imp H (fun rv h1 r1 => zri_imp r1 (fun v1 r1' => ?_)))
  refine zQ_if zp_81 rfl (t := 10) rfl (i := v1.toInt) rfl (fun c2 => ?_) (fun c2 => ?_)
  · refine zQ_seq 4 (pc' := 14) (L' := [some (.ref 0), some (.int a1), some (.int a2), some (.int a3), none]) (S' := [.int (Int32.ofInt 1), .int a2, .int a1, .ref 0]) (h' := h1) zp_81 rfl ?_
    refine zQ_cvI (M' := 116) (as := [.ref 0, .int a1, .int a2, .int (Int32.ofInt 1)]) (S' := []) zp_81 rfl rfl zp_116 (Or.inl rfl) rfl rfl (zqm_imp (r1'.1 c2) (fun rv h3 r3 => zri_imp r3 (fun v3 r3' => ?_)))
    refine zQ_seq 2 (pc' := 21) (L' := [some (.ref 0), some (.int a1), some (.int a2), some (.int a3), some (.int v3)]) (S' := [.int v3]) (h' := h3) zp_81 rfl ?_
    refine zQ_if zp_81 rfl (t := 29) rfl (i := v3.toInt) rfl (fun c4 => ?_) (fun c4 => ?_)
    · refine zQ_seq 6 (pc' := 37) (L' := [some (.ref 0), some (.int a1), some (.int a2), some (.int a3), some (.int v3)]) (S' := [.int a3, .int a2, .int a1, .ref 1, .ref 0]) (h' := h3) zp_81 rfl ?_
      refine zQ_cvI (M' := 77) (as := [.ref 1, .int a1, .int a2, .int a3]) (S' := [.ref 0]) zp_81 rfl rfl zp_77 (Or.inl rfl) rfl rfl (zqm_imp (r3'.1 c4) (fun rv h5 r5 => zri_imp r5 (fun v5 r5' => ?_)))
      refine zQ_cvI (M' := 115) (as := [.ref 0, .int v5]) (S' := []) zp_81 rfl rfl zp_115 (Or.inl rfl) rfl rfl (zqm_imp r5' (fun rv h6 r6 => zri_imp r6 (fun v6 r6' => ?_)))
      exact zQ_retI zp_81 rfl r6'
    · refine zQ_seq 1 (pc' := 26) (L' := [some (.ref 0), some (.int a1), some (.int a2), some (.int a3), some (.int v3)]) (S' := [.int v3]) (h' := h3) zp_81 rfl ?_
      refine zQ_goto zp_81 rfl (t := 43) rfl ?_
      exact zQ_retI zp_81 rfl (r3'.2 c4)
  · refine zQ_seq 1 (pc' := 9) (L' := [some (.ref 0), some (.int a1), some (.int a2), some (.int a3), none]) (S' := [.int (-1000001 : Int32)]) (h' := h1) zp_81 rfl ?_
    exact zQ_retI zp_81 rfl (r1'.2 c2)
theorem s_82 {h : zH} {Q : Option Value → zH → Prop} (a1 : Int32) (a2 : Int32) (a3 : Int32) (a4 : Int32) (a5 : Int32) (H : zqm 68 [.int a1] h (fun rv h1 => zri rv (fun v1 => ((v1.toInt = 0 → Q (some (.int (-1000001 : Int32))) h1) ∧ (¬ (v1.toInt = 0) → zqm 68 [.int a3] h1 (fun rv h3 => zri rv (fun v3 => ((¬ v3.toInt = 0 → zqm 70 [.ref 1, .int a1] h3 (fun rv h5 => zri rv (fun v5 => ((¬ v5.toInt = 0 → zqm 114 [.ref 0, .int (Int32.ofInt 1)] h5 (fun rv h7 => zri rv (fun v7 => Q (some (.int v7)) h7))) ∧ (¬ (¬ v5.toInt = 0) → zqm 70 [.ref 1, .int a3] h5 (fun rv h8 => zri rv (fun v8 => ((v8.toInt = 0 → zqm 72 [.ref 1, .int a1, .int a3] h8 (fun rv h10 => zri rv (fun v10 => ((¬ v10.toInt = 0 → zqm 71 [.ref 1, .int a1, .int a2, .int a5] h10 (fun rv h12 => zri rv (fun v12 => ((v12.toInt = 0 → zqm 114 [.ref 0, .int (Int32.ofInt 2)] h12 (fun rv h14 => zri rv (fun v14 => Q (some (.int v14)) h14))) ∧ (¬ (v12.toInt = 0) → zqm 71 [.ref 1, .int a3, .int a4, .int a5] h12 (fun rv h15 => zri rv (fun v15 => ((¬ v15.toInt = 0 → zqm 79 [.ref 1, .int a1, .int a2, .int a3, .int a4, .int a5] h15 (fun _ h17 => zqm 115 [.ref 0, .int a5] h17 (fun rv h18 => zri rv (fun v18 => Q (some (.int v18)) h18)))) ∧ (¬ (¬ v15.toInt = 0) → zqm 114 [.ref 0, .int (Int32.ofInt 2)] h15 (fun rv h19 => zri rv (fun v19 => Q (some (.int v19)) h19))))))))))) ∧ (¬ (¬ v10.toInt = 0) → zqm 114 [.ref 0, .int (Int32.ofInt 5)] h10 (fun rv h20 => zri rv (fun v20 => Q (some (.int v20)) h20))))))) ∧ (¬ (v8.toInt = 0) → zqm 114 [.ref 0, .int (Int32.ofInt 1)] h8 (fun rv h21 => zri rv (fun v21 => Q (some (.int v21)) h21))))))))))) ∧ (¬ (¬ v3.toInt = 0) → Q (some (.int (-1000001 : Int32))) h3))))))))) : zqm 82 [.ref 0, .int a1, .int a2, .int a3, .int a4, .int a5] h Q := by
  refine zqm_of zp_82 (fun n => ?_)
  show zQ n 82 0 [some (.ref 0), some (.int a1), some (.int a2), some (.int a3), some (.int a4), some (.int a5)] [] h Q
  refine zQ_seq 1 (pc' := 1) (L' := [some (.ref 0), some (.int a1), some (.int a2), some (.int a3), some (.int a4), some (.int a5)]) (S' := [.int a1]) (h' := h) zp_82 rfl ?_
  refine zQ_csI (M' := 68) (as := [.int a1]) (S' := []) zp_82 rfl rfl rfl zp_68 (Or.inr rfl) rfl rfl (zqm_imp H (fun rv h1 r1 => zri_imp r1 (fun v1 r1' => ?_)))
  refine zQ_if zp_82 rfl (t := 14) rfl (i := v1.toInt) rfl (fun c2 => ?_) (fun c2 => ?_)
  · refine zQ_seq 1 (pc' := 16) (L' := [some (.ref 0), some (.int a1), some (.int a2), some (.int a3), some (.int a4), some (.int a5)]) (S' := [.int (-1000001 : Int32)]) (h' := h1) zp_82 rfl ?_
    exact zQ_retI zp_82 rfl (r1'.1 c2)
  · refine zQ_seq 1 (pc' := 8) (L' := [some (.ref 0), some (.int a1), some (.int a2), some (.int a3), some (.int a4), some (.int a5)]) (S' := [.int a3]) (h' := h1) zp_82 rfl ?_
    refine zQ_csI (M' := 68) (as := [.int a3]) (S' := []) zp_82 rfl rfl rfl zp_68 (Or.inr rfl) rfl rfl (zqm_imp (r1'.2 c2) (fun rv h3 r3 => zri_imp r3 (fun v3 r3' => ?_)))
    refine zQ_if zp_82 rfl (t := 17) rfl (i := v3.toInt) rfl (fun c4 => ?_) (fun c4 => ?_)
    · refine zQ_seq 3 (pc' := 22) (L' := [some (.ref 0), some (.int a1), some (.int a2), some (.int a3), some (.int a4), some (.int a5)]) (S' := [.int a1, .ref 1]) (h' := h3) zp_82 rfl ?_
      refine zQ_cvI (M' := 70) (as := [.ref 1, .int a1]) (S' := []) zp_82 rfl rfl zp_70 (Or.inr rfl) rfl rfl (zqm_imp (r3'.1 c4) (fun rv h5 r5 => zri_imp r5 (fun v5 r5' => ?_)))
      refine zQ_if zp_82 rfl (t := 39) rfl (i := v5.toInt) rfl (fun c6 => ?_) (fun c6 => ?_)
      · refine zQ_seq 2 (pc' := 41) (L' := [some (.ref 0), some (.int a1), some (.int a2), some (.int a3), some (.int a4), some (.int a5)]) (S' := [.int (Int32.ofInt 1), .ref 0]) (h' := h5) zp_82 rfl ?_
        refine zQ_cvI (M' := 114) (as := [.ref 0, .int (Int32.ofInt 1)]) (S' := []) zp_82 rfl rfl zp_114 (Or.inl rfl) rfl rfl (zqm_imp (r5'.1 c6) (fun rv h7 r7 => zri_imp r7 (fun v7 r7' => ?_)))
        exact zQ_retI zp_82 rfl r7'
      · refine zQ_seq 3 (pc' := 33) (L' := [some (.ref 0), some (.int a1), some (.int a2), some (.int a3), some (.int a4), some (.int a5)]) (S' := [.int a3, .ref 1]) (h' := h5) zp_82 rfl ?_
        refine zQ_cvI (M' := 70) (as := [.ref 1, .int a3]) (S' := []) zp_82 rfl rfl zp_70 (Or.inr rfl) rfl rfl (zqm_imp (r5'.2 c6) (fun rv h8 r8 => zri_imp r8 (fun v8 r8' => ?_)))
        refine zQ_if zp_82 rfl (t := 45) rfl (i := v8.toInt) rfl (fun c9 => ?_) (fun c9 => ?_)
        · refine zQ_seq 4 (pc' := 51) (L' := [some (.ref 0), some (.int a1), some (.int a2), some (.int a3), some (.int a4), some (.int a5)]) (S' := [.int a3, .int a1, .ref 1]) (h' := h8) zp_82 rfl ?_
          refine zQ_cvI (M' := 72) (as := [.ref 1, .int a1, .int a3]) (S' := []) zp_82 rfl rfl zp_72 (Or.inr rfl) rfl rfl (zqm_imp (r8'.1 c9) (fun rv h10 r10 => zri_imp r10 (fun v10 r10' => ?_)))
          refine zQ_if zp_82 rfl (t := 63) rfl (i := v10.toInt) rfl (fun c11 => ?_) (fun c11 => ?_)
          · refine zQ_seq 5 (pc' := 71) (L' := [some (.ref 0), some (.int a1), some (.int a2), some (.int a3), some (.int a4), some (.int a5)]) (S' := [.int a5, .int a2, .int a1, .ref 1]) (h' := h10) zp_82 rfl ?_
            refine zQ_cvI (M' := 71) (as := [.ref 1, .int a1, .int a2, .int a5]) (S' := []) zp_82 rfl rfl zp_71 (Or.inr rfl) rfl rfl (zqm_imp (r10'.1 c11) (fun rv h12 r12 => zri_imp r12 (fun v12 r12' => ?_)))
            refine zQ_if zp_82 rfl (t := 92) rfl (i := v12.toInt) rfl (fun c13 => ?_) (fun c13 => ?_)
            · refine zQ_seq 2 (pc' := 94) (L' := [some (.ref 0), some (.int a1), some (.int a2), some (.int a3), some (.int a4), some (.int a5)]) (S' := [.int (Int32.ofInt 2), .ref 0]) (h' := h12) zp_82 rfl ?_
              refine zQ_cvI (M' := 114) (as := [.ref 0, .int (Int32.ofInt 2)]) (S' := []) zp_82 rfl rfl zp_114 (Or.inl rfl) rfl rfl (zqm_imp (r12'.1 c13) (fun rv h14 r14 => zri_imp r14 (fun v14 r14' => ?_)))
              exact zQ_retI zp_82 rfl r14'
            · refine zQ_seq 5 (pc' := 86) (L' := [some (.ref 0), some (.int a1), some (.int a2), some (.int a3), some (.int a4), some (.int a5)]) (S' := [.int a5, .int a4, .int a3, .ref 1]) (h' := h12) zp_82 rfl ?_
              refine zQ_cvI (M' := 71) (as := [.ref 1, .int a3, .int a4, .int a5]) (S' := []) zp_82 rfl rfl zp_71 (Or.inr rfl) rfl rfl (zqm_imp (r12'.2 c13) (fun rv h15 r15 => zri_imp r15 (fun v15 r15' => ?_)))
              refine zQ_if zp_82 rfl (t := 98) rfl (i := v15.toInt) rfl (fun c16 => ?_) (fun c16 => ?_)
              · refine zQ_seq 7 (pc' := 109) (L' := [some (.ref 0), some (.int a1), some (.int a2), some (.int a3), some (.int a4), some (.int a5)]) (S' := [.int a5, .int a4, .int a3, .int a2, .int a1, .ref 1]) (h' := h15) zp_82 rfl ?_
                refine zQ_cvV (M' := 79) (as := [.ref 1, .int a1, .int a2, .int a3, .int a4, .int a5]) (S' := []) zp_82 rfl rfl zp_79 rfl rfl rfl (zqm_imp (r15'.1 c16) (fun rv h17 r17 => ?_))
                refine zQ_seq 2 (pc' := 115) (L' := [some (.ref 0), some (.int a1), some (.int a2), some (.int a3), some (.int a4), some (.int a5)]) (S' := [.int a5, .ref 0]) (h' := h17) zp_82 rfl ?_
                refine zQ_cvI (M' := 115) (as := [.ref 0, .int a5]) (S' := []) zp_82 rfl rfl zp_115 (Or.inl rfl) rfl rfl (zqm_imp r17 (fun rv h18 r18 => zri_imp r18 (fun v18 r18' => ?_)))
                exact zQ_retI zp_82 rfl r18'
              · refine zQ_seq 2 (pc' := 94) (L' := [some (.ref 0), some (.int a1), some (.int a2), some (.int a3), some (.int a4), some (.int a5)]) (S' := [.int (Int32.ofInt 2), .ref 0]) (h' := h15) zp_82 rfl ?_
                refine zQ_cvI (M' := 114) (as := [.ref 0, .int (Int32.ofInt 2)]) (S' := []) zp_82 rfl rfl zp_114 (Or.inl rfl) rfl rfl (zqm_imp (r15'.2 c16) (fun rv h19 r19 => zri_imp r19 (fun v19 r19' => ?_)))
                exact zQ_retI zp_82 rfl r19'
          · refine zQ_seq 2 (pc' := 59) (L' := [some (.ref 0), some (.int a1), some (.int a2), some (.int a3), some (.int a4), some (.int a5)]) (S' := [.int (Int32.ofInt 5), .ref 0]) (h' := h10) zp_82 rfl ?_
            refine zQ_cvI (M' := 114) (as := [.ref 0, .int (Int32.ofInt 5)]) (S' := []) zp_82 rfl rfl zp_114 (Or.inl rfl) rfl rfl (zqm_imp (r10'.2 c11) (fun rv h20 r20 => zri_imp r20 (fun v20 r20' => ?_)))
            exact zQ_retI zp_82 rfl r20'
        · refine zQ_seq 2 (pc' := 41) (L' := [some (.ref 0), some (.int a1), some (.int a2), some (.int a3), some (.int a4), some (.int a5)]) (S' := [.int (Int32.ofInt 1), .ref 0]) (h' := h8) zp_82 rfl ?_
          refine zQ_cvI (M' := 114) (as := [.ref 0, .int (Int32.ofInt 1)]) (S' := []) zp_82 rfl rfl zp_114 (Or.inl rfl) rfl rfl (zqm_imp (r8'.2 c9) (fun rv h21 r21 => zri_imp r21 (fun v21 r21' => ?_)))
          exact zQ_retI zp_82 rfl r21'
    · refine zQ_seq 1 (pc' := 16) (L' := [some (.ref 0), some (.int a1), some (.int a2), some (.int a3), some (.int a4), some (.int a5)]) (S' := [.int (-1000001 : Int32)]) (h' := h3) zp_82 rfl ?_
      exact zQ_retI zp_82 rfl (r3'.2 c4)
theorem s_83 {h : zH} {Q : Option Value → zH → Prop} (a1 : Int32) (H : zqm 68 [.int a1] h (fun rv h1 => zri rv (fun v1 => ((¬ v1.toInt = 0 → zqm 70 [.ref 1, .int a1] h1 (fun rv h3 => zri rv (fun v3 => ((v3.toInt = 0 → zqm 75 [.ref 1, .int a1] h3 (fun rv h5 => zri rv (fun v5 => zqm 115 [.ref 0, .int v5] h5 (fun rv h6 => zri rv (fun v6 => Q (some (.int v6)) h6))))) ∧ (¬ (v3.toInt = 0) → zqm 114 [.ref 0, .int (Int32.ofInt 1)] h3 (fun rv h7 => zri rv (fun v7 => Q (some (.int v7)) h7))))))) ∧ (¬ (¬ v1.toInt = 0) → Q (some (.int (-1000001 : Int32))) h1))))) : zqm 83 [.ref 0, .int a1] h Q := by
  refine zqm_of zp_83 (fun n => ?_)
  show zQ n 83 0 [some (.ref 0), some (.int a1)] [] h Q
  refine zQ_seq 1 (pc' := 1) (L' := [some (.ref 0), some (.int a1)]) (S' := [.int a1]) (h' := h) zp_83 rfl ?_
  refine zQ_csI (M' := 68) (as := [.int a1]) (S' := []) zp_83 rfl rfl rfl zp_68 (Or.inr rfl) rfl rfl (zqm_imp H (fun rv h1 r1 => zri_imp r1 (fun v1 r1' => ?_)))
  refine zQ_if zp_83 rfl (t := 10) rfl (i := v1.toInt) rfl (fun c2 => ?_) (fun c2 => ?_)
  · refine zQ_seq 3 (pc' := 15) (L' := [some (.ref 0), some (.int a1)]) (S' := [.int a1, .ref 1]) (h' := h1) zp_83 rfl ?_
    refine zQ_cvI (M' := 70) (as := [.ref 1, .int a1]) (S' := []) zp_83 rfl rfl zp_70 (Or.inr rfl) rfl rfl (zqm_imp (r1'.1 c2) (fun rv h3 r3 => zri_imp r3 (fun v3 r3' => ?_)))
    refine zQ_if zp_83 rfl (t := 29) rfl (i := v3.toInt) rfl (fun c4 => ?_) (fun c4 => ?_)
    · refine zQ_seq 4 (pc' := 35) (L' := [some (.ref 0), some (.int a1)]) (S' := [.int a1, .ref 1, .ref 0]) (h' := h3) zp_83 rfl ?_
      refine zQ_cvI (M' := 75) (as := [.ref 1, .int a1]) (S' := [.ref 0]) zp_83 rfl rfl zp_75 (Or.inl rfl) rfl rfl (zqm_imp (r3'.1 c4) (fun rv h5 r5 => zri_imp r5 (fun v5 r5' => ?_)))
      refine zQ_cvI (M' := 115) (as := [.ref 0, .int v5]) (S' := []) zp_83 rfl rfl zp_115 (Or.inl rfl) rfl rfl (zqm_imp r5' (fun rv h6 r6 => zri_imp r6 (fun v6 r6' => ?_)))
      exact zQ_retI zp_83 rfl r6'
    · refine zQ_seq 2 (pc' := 23) (L' := [some (.ref 0), some (.int a1)]) (S' := [.int (Int32.ofInt 1), .ref 0]) (h' := h3) zp_83 rfl ?_
      refine zQ_cvI (M' := 114) (as := [.ref 0, .int (Int32.ofInt 1)]) (S' := []) zp_83 rfl rfl zp_114 (Or.inl rfl) rfl rfl (zqm_imp (r3'.2 c4) (fun rv h7 r7 => zri_imp r7 (fun v7 r7' => ?_)))
      refine zQ_goto zp_83 rfl (t := 41) rfl ?_
      exact zQ_retI zp_83 rfl r7'
  · refine zQ_seq 1 (pc' := 9) (L' := [some (.ref 0), some (.int a1)]) (S' := [.int (-1000001 : Int32)]) (h' := h1) zp_83 rfl ?_
    exact zQ_retI zp_83 rfl (r1'.2 c2)
theorem s_114 {h : zH} {Q : Option Value → zH → Prop} (a1 : Int32) (H : Q (some (.int ((-1000010 : Int32) - a1))) (zSet h 0 11 a1)) : zqm 114 [.ref 0, .int a1] h Q := by
  refine zqm_of zp_114 (fun n => ?_)
  show zQ n 114 0 [some (.ref 0), some (.int a1)] [] h Q
  refine zQ_seq 6 (pc' := 10) (L' := [some (.ref 0), some (.int a1)]) (S' := [.int ((-1000010 : Int32) - a1)]) (h' := (zSet h 0 11 a1)) zp_114 rfl ?_
  exact zQ_retI zp_114 rfl H
theorem s_115 {h : zH} {Q : Option Value → zH → Prop} (a1 : Int32) (H : Q (some (.int a1)) (zSet h 0 11 (Int32.ofInt 0))) : zqm 115 [.ref 0, .int a1] h Q := by
  refine zqm_of zp_115 (fun n => ?_)
  show zQ n 115 0 [some (.ref 0), some (.int a1)] [] h Q
  refine zQ_seq 4 (pc' := 6) (L' := [some (.ref 0), some (.int a1)]) (S' := [.int a1]) (h' := (zSet h 0 11 (Int32.ofInt 0))) zp_115 rfl ?_
  exact zQ_retI zp_115 rfl H
theorem s_116 {h : zH} {Q : Option Value → zH → Prop} (a1 : Int32) (a2 : Int32) (a3 : Int32) (H : zqm 70 [.ref 1, .int a1] h (fun rv h1 => zri rv (fun v1 => ((v1.toInt = 0 → zqm 71 [.ref 1, .int a1, .int a2, .int a3] h1 (fun rv h3 => zri rv (fun v3 => ((v3.toInt = 0 → zqm 114 [.ref 0, .int (Int32.ofInt 2)] h3 (fun rv h5 => zri rv (fun v5 => Q (some (.int v5)) h5))) ∧ (¬ (v3.toInt = 0) → Q (some (.int (Int32.ofInt 0))) h3))))) ∧ (¬ (v1.toInt = 0) → zqm 114 [.ref 0, .int (Int32.ofInt 1)] h1 (fun rv h6 => zri rv (fun v6 => Q (some (.int v6)) h6))))))) : zqm 116 [.ref 0, .int a1, .int a2, .int a3] h Q := by
  refine zqm_of zp_116 (fun n => ?_)
  show zQ n 116 0 [some (.ref 0), some (.int a1), some (.int a2), some (.int a3)] [] h Q
  refine zQ_seq 3 (pc' := 5) (L' := [some (.ref 0), some (.int a1), some (.int a2), some (.int a3)]) (S' := [.int a1, .ref 1]) (h' := h) zp_116 rfl ?_
  refine zQ_cvI (M' := 70) (as := [.ref 1, .int a1]) (S' := []) zp_116 rfl rfl zp_70 (Or.inr rfl) rfl rfl (zqm_imp H (fun rv h1 r1 => zri_imp r1 (fun v1 r1' => ?_)))
  refine zQ_if zp_116 rfl (t := 17) rfl (i := v1.toInt) rfl (fun c2 => ?_) (fun c2 => ?_)
  · refine zQ_seq 5 (pc' := 24) (L' := [some (.ref 0), some (.int a1), some (.int a2), some (.int a3)]) (S' := [.int a3, .int a2, .int a1, .ref 1]) (h' := h1) zp_116 rfl ?_
    refine zQ_cvI (M' := 71) (as := [.ref 1, .int a1, .int a2, .int a3]) (S' := []) zp_116 rfl rfl zp_71 (Or.inr rfl) rfl rfl (zqm_imp (r1'.1 c2) (fun rv h3 r3 => zri_imp r3 (fun v3 r3' => ?_)))
    refine zQ_if zp_116 rfl (t := 34) rfl (i := v3.toInt) rfl (fun c4 => ?_) (fun c4 => ?_)
    · refine zQ_seq 2 (pc' := 36) (L' := [some (.ref 0), some (.int a1), some (.int a2), some (.int a3)]) (S' := [.int (Int32.ofInt 2), .ref 0]) (h' := h3) zp_116 rfl ?_
      refine zQ_cvI (M' := 114) (as := [.ref 0, .int (Int32.ofInt 2)]) (S' := []) zp_116 rfl rfl zp_114 (Or.inl rfl) rfl rfl (zqm_imp (r3'.1 c4) (fun rv h5 r5 => zri_imp r5 (fun v5 r5' => ?_)))
      exact zQ_retI zp_116 rfl r5'
    · refine zQ_seq 1 (pc' := 31) (L' := [some (.ref 0), some (.int a1), some (.int a2), some (.int a3)]) (S' := [.int (Int32.ofInt 0)]) (h' := h3) zp_116 rfl ?_
      refine zQ_goto zp_116 rfl (t := 39) rfl ?_
      exact zQ_retI zp_116 rfl (r3'.2 c4)
  · refine zQ_seq 2 (pc' := 13) (L' := [some (.ref 0), some (.int a1), some (.int a2), some (.int a3)]) (S' := [.int (Int32.ofInt 1), .ref 0]) (h' := h1) zp_116 rfl ?_
    refine zQ_cvI (M' := 114) (as := [.ref 0, .int (Int32.ofInt 1)]) (S' := []) zp_116 rfl rfl zp_114 (Or.inl rfl) rfl rfl (zqm_imp (r1'.2 c2) (fun rv h6 r6 => zri_imp r6 (fun v6 r6' => ?_)))
    exact zQ_retI zp_116 rfl r6'

/-! segments: the class, its parts -/
theorem s_68 {h : zH} {Q : Option Value → zH → Prop} (a0 : Int32) (H : ((a0.toInt < 0 → Q (some (.int (Int32.ofInt 0))) h) ∧ (¬ (a0.toInt < 0) → (((8 : Int) ≤ a0.toInt → Q (some (.int (Int32.ofInt 0))) h) ∧ (¬ ((8 : Int) ≤ a0.toInt) → Q (some (.int (Int32.ofInt 1))) h))))) : zqm 68 [.int a0] h Q := by
  refine zqm_of zp_68 (fun n => ?_)
  show zQ n 68 0 [some (.int a0)] [] h Q
  refine zQ_seq 1 (pc' := 1) (L' := [some (.int a0)]) (S' := [.int a0]) (h' := h) zp_68 rfl ?_
  refine zQ_if zp_68 rfl (t := 14) rfl (i := a0.toInt) rfl (fun c1 => ?_) (fun c1 => ?_)
  · refine zQ_seq 1 (pc' := 15) (L' := [some (.int a0)]) (S' := [.int (Int32.ofInt 0)]) (h' := h) zp_68 rfl ?_
    exact zQ_retI zp_68 rfl (H.1 c1)
  · refine zQ_seq 2 (pc' := 7) (L' := [some (.int a0)]) (S' := [.int (Int32.ofInt 8), .int a0]) (h' := h) zp_68 rfl ?_
    refine zQ_ic zp_68 rfl (t := 14) rfl (i := a0.toInt) (j := (8 : Int)) rfl kc_8 (fun c2 => ?_) (fun c2 => ?_)
    · refine zQ_seq 1 (pc' := 15) (L' := [some (.int a0)]) (S' := [.int (Int32.ofInt 0)]) (h' := h) zp_68 rfl ?_
      exact zQ_retI zp_68 rfl ((H.2 c1).1 c2)
    · refine zQ_seq 1 (pc' := 11) (L' := [some (.int a0)]) (S' := [.int (Int32.ofInt 1)]) (h' := h) zp_68 rfl ?_
      refine zQ_goto zp_68 rfl (t := 15) rfl ?_
      exact zQ_retI zp_68 rfl ((H.2 c1).2 c2)
theorem s_69 {h : zH} {Q : Option Value → zH → Prop} (a0 : Int32) (H : ((a0.toInt < 0 → Q (some (.int (Int32.ofInt 0))) h) ∧ (¬ (a0.toInt < 0) → (((3 : Int) ≤ a0.toInt → Q (some (.int (Int32.ofInt 0))) h) ∧ (¬ ((3 : Int) ≤ a0.toInt) → Q (some (.int (Int32.ofInt 1))) h))))) : zqm 69 [.int a0] h Q := by
  refine zqm_of zp_69 (fun n => ?_)
  show zQ n 69 0 [some (.int a0)] [] h Q
  refine zQ_seq 1 (pc' := 1) (L' := [some (.int a0)]) (S' := [.int a0]) (h' := h) zp_69 rfl ?_
  refine zQ_if zp_69 rfl (t := 13) rfl (i := a0.toInt) rfl (fun c1 => ?_) (fun c1 => ?_)
  · refine zQ_seq 1 (pc' := 14) (L' := [some (.int a0)]) (S' := [.int (Int32.ofInt 0)]) (h' := h) zp_69 rfl ?_
    exact zQ_retI zp_69 rfl (H.1 c1)
  · refine zQ_seq 2 (pc' := 6) (L' := [some (.int a0)]) (S' := [.int (Int32.ofInt 3), .int a0]) (h' := h) zp_69 rfl ?_
    refine zQ_ic zp_69 rfl (t := 13) rfl (i := a0.toInt) (j := (3 : Int)) rfl kc_3 (fun c2 => ?_) (fun c2 => ?_)
    · refine zQ_seq 1 (pc' := 14) (L' := [some (.int a0)]) (S' := [.int (Int32.ofInt 0)]) (h' := h) zp_69 rfl ?_
      exact zQ_retI zp_69 rfl ((H.2 c1).1 c2)
    · refine zQ_seq 1 (pc' := 10) (L' := [some (.int a0)]) (S' := [.int (Int32.ofInt 1)]) (h' := h) zp_69 rfl ?_
      refine zQ_goto zp_69 rfl (t := 14) rfl ?_
      exact zQ_retI zp_69 rfl ((H.2 c1).2 c2)
theorem s_70 {h : zH} {Q : Option Value → zH → Prop} (a1 : Int32) (H : zqm 68 [.int a1] h (fun rv h1 => zri rv (fun v1 => ((v1.toInt = 0 → Q (some (.int (Int32.ofInt 1))) h1) ∧ (¬ (v1.toInt = 0) → (0 ≤ a1.toInt → a1.toInt < 8 → ((0 ≤ (h1.1 12 a1.toInt.toNat).toInt → Q (some (.int (Int32.ofInt 0))) h1) ∧ (¬ (0 ≤ (h1.1 12 a1.toInt.toNat).toInt) → Q (some (.int (Int32.ofInt 1))) h1)))))))) : zqm 70 [.ref 1, .int a1] h Q := by
  refine zqm_of zp_70 (fun n => ?_)
  show zQ n 70 0 [some (.ref 1), some (.int a1)] [] h Q
  refine zQ_seq 1 (pc' := 1) (L' := [some (.ref 1), some (.int a1)]) (S' := [.int a1]) (h' := h) zp_70 rfl ?_
  refine zQ_csI (M' := 68) (as := [.int a1]) (S' := []) zp_70 rfl rfl rfl zp_68 (Or.inr rfl) rfl rfl (zqm_imp H (fun rv h1 r1 => zri_imp r1 (fun v1 r1' => ?_)))
  refine zQ_if zp_70 rfl (t := 16) rfl (i := v1.toInt) rfl (fun c2 => ?_) (fun c2 => ?_)
  · refine zQ_seq 1 (pc' := 17) (L' := [some (.ref 1), some (.int a1)]) (S' := [.int (Int32.ofInt 1)]) (h' := h1) zp_70 rfl ?_
    refine zQ_goto zp_70 rfl (t := 21) rfl ?_
    exact zQ_retI zp_70 rfl (r1'.1 c2)
  · refine zQ_seq 3 (pc' := 12) (L' := [some (.ref 1), some (.int a1)]) (S' := [.int a1, .ref 12]) (h' := h1) zp_70 rfl ?_
    refine zQ_ial (N := 8) (f := h1.1 12) zp_70 rfl rfl rfl (fun b3 b3' => ?_)
    refine zQ_if zp_70 rfl (t := 20) rfl (i := (h1.1 12 a1.toInt.toNat).toInt) rfl (fun c4 => ?_) (fun c4 => ?_)
    · refine zQ_seq 1 (pc' := 21) (L' := [some (.ref 1), some (.int a1)]) (S' := [.int (Int32.ofInt 0)]) (h' := h1) zp_70 rfl ?_
      exact zQ_retI zp_70 rfl (((r1'.2 c2) b3 b3').1 c4)
    · refine zQ_seq 1 (pc' := 17) (L' := [some (.ref 1), some (.int a1)]) (S' := [.int (Int32.ofInt 1)]) (h' := h1) zp_70 rfl ?_
      refine zQ_goto zp_70 rfl (t := 21) rfl ?_
      exact zQ_retI zp_70 rfl (((r1'.2 c2) b3 b3').2 c4)
theorem s_71 {h : zH} {Q : Option Value → zH → Prop} (a1 : Int32) (a2 : Int32) (a3 : Int32) (H : zqm 68 [.int a1] h (fun rv h1 => zri rv (fun v1 => ((v1.toInt = 0 → Q (some (.int (Int32.ofInt 0))) h1) ∧ (¬ (v1.toInt = 0) → ((a2.toInt < 0 → Q (some (.int (Int32.ofInt 0))) h1) ∧ (¬ (a2.toInt < 0) → ((a3.toInt < 0 → Q (some (.int (Int32.ofInt 0))) h1) ∧ (¬ (a3.toInt < 0) → (0 ≤ a1.toInt → a1.toInt < 8 → (((h1.1 12 a1.toInt.toNat).toInt < a2.toInt → Q (some (.int (Int32.ofInt 0))) h1) ∧ (¬ ((h1.1 12 a1.toInt.toNat).toInt < a2.toInt) → (0 ≤ a1.toInt → a1.toInt < 8 → ((((h1.1 12 a1.toInt.toNat) - a2).toInt < a3.toInt → Q (some (.int (Int32.ofInt 0))) h1) ∧ (¬ (((h1.1 12 a1.toInt.toNat) - a2).toInt < a3.toInt) → Q (some (.int (Int32.ofInt 1))) h1))))))))))))))) : zqm 71 [.ref 1, .int a1, .int a2, .int a3] h Q := by
  refine zqm_of zp_71 (fun n => ?_)
  show zQ n 71 0 [some (.ref 1), some (.int a1), some (.int a2), some (.int a3)] [] h Q
  refine zQ_seq 1 (pc' := 1) (L' := [some (.ref 1), some (.int a1), some (.int a2), some (.int a3)]) (S' := [.int a1]) (h' := h) zp_71 rfl ?_
  refine zQ_csI (M' := 68) (as := [.int a1]) (S' := []) zp_71 rfl rfl rfl zp_68 (Or.inr rfl) rfl rfl (zqm_imp H (fun rv h1 r1 => zri_imp r1 (fun v1 r1' => ?_)))
  refine zQ_if zp_71 rfl (t := 41) rfl (i := v1.toInt) rfl (fun c2 => ?_) (fun c2 => ?_)
  · refine zQ_seq 1 (pc' := 42) (L' := [some (.ref 1), some (.int a1), some (.int a2), some (.int a3)]) (S' := [.int (Int32.ofInt 0)]) (h' := h1) zp_71 rfl ?_
    exact zQ_retI zp_71 rfl (r1'.1 c2)
  · refine zQ_seq 1 (pc' := 8) (L' := [some (.ref 1), some (.int a1), some (.int a2), some (.int a3)]) (S' := [.int a2]) (h' := h1) zp_71 rfl ?_
    refine zQ_if zp_71 rfl (t := 41) rfl (i := a2.toInt) rfl (fun c3 => ?_) (fun c3 => ?_)
    · refine zQ_seq 1 (pc' := 42) (L' := [some (.ref 1), some (.int a1), some (.int a2), some (.int a3)]) (S' := [.int (Int32.ofInt 0)]) (h' := h1) zp_71 rfl ?_
      exact zQ_retI zp_71 rfl ((r1'.2 c2).1 c3)
    · refine zQ_seq 1 (pc' := 12) (L' := [some (.ref 1), some (.int a1), some (.int a2), some (.int a3)]) (S' := [.int a3]) (h' := h1) zp_71 rfl ?_
      refine zQ_if zp_71 rfl (t := 41) rfl (i := a3.toInt) rfl (fun c4 => ?_) (fun c4 => ?_)
      · refine zQ_seq 1 (pc' := 42) (L' := [some (.ref 1), some (.int a1), some (.int a2), some (.int a3)]) (S' := [.int (Int32.ofInt 0)]) (h' := h1) zp_71 rfl ?_
        exact zQ_retI zp_71 rfl (((r1'.2 c2).2 c3).1 c4)
      · refine zQ_seq 4 (pc' := 21) (L' := [some (.ref 1), some (.int a1), some (.int a2), some (.int a3)]) (S' := [.int a1, .ref 12, .int a2]) (h' := h1) zp_71 rfl ?_
        refine zQ_ial (N := 8) (f := h1.1 12) zp_71 rfl rfl rfl (fun b5 b5' => ?_)
        refine zQ_ic zp_71 rfl (t := 41) rfl (i := a2.toInt) (j := (h1.1 12 a1.toInt.toNat).toInt) rfl rfl (fun c6 => ?_) (fun c6 => ?_)
        · refine zQ_seq 1 (pc' := 42) (L' := [some (.ref 1), some (.int a1), some (.int a2), some (.int a3)]) (S' := [.int (Int32.ofInt 0)]) (h' := h1) zp_71 rfl ?_
          exact zQ_retI zp_71 rfl (((((r1'.2 c2).2 c3).2 c4) b5 b5').1 c6)
        · refine zQ_seq 4 (pc' := 31) (L' := [some (.ref 1), some (.int a1), some (.int a2), some (.int a3)]) (S' := [.int a1, .ref 12, .int a3]) (h' := h1) zp_71 rfl ?_
          refine zQ_ial (N := 8) (f := h1.1 12) zp_71 rfl rfl rfl (fun b7 b7' => ?_)
          refine zQ_seq 2 (pc' := 34) (L' := [some (.ref 1), some (.int a1), some (.int a2), some (.int a3)]) (S' := [.int ((h1.1 12 a1.toInt.toNat) - a2), .int a3]) (h' := h1) zp_71 rfl ?_
          refine zQ_ic zp_71 rfl (t := 41) rfl (i := a3.toInt) (j := ((h1.1 12 a1.toInt.toNat) - a2).toInt) rfl rfl (fun c8 => ?_) (fun c8 => ?_)
          · refine zQ_seq 1 (pc' := 42) (L' := [some (.ref 1), some (.int a1), some (.int a2), some (.int a3)]) (S' := [.int (Int32.ofInt 0)]) (h' := h1) zp_71 rfl ?_
            exact zQ_retI zp_71 rfl (((((((r1'.2 c2).2 c3).2 c4) b5 b5').2 c6) b7 b7').1 c8)
          · refine zQ_seq 1 (pc' := 38) (L' := [some (.ref 1), some (.int a1), some (.int a2), some (.int a3)]) (S' := [.int (Int32.ofInt 1)]) (h' := h1) zp_71 rfl ?_
            refine zQ_goto zp_71 rfl (t := 42) rfl ?_
            exact zQ_retI zp_71 rfl (((((((r1'.2 c2).2 c3).2 c4) b5 b5').2 c6) b7 b7').2 c8)
theorem s_72 {h : zH} {Q : Option Value → zH → Prop} (a1 : Int32) (a2 : Int32) (H : zqm 68 [.int a1] h (fun rv h1 => zri rv (fun v1 => ((v1.toInt = 0 → Q (some (.int (Int32.ofInt 0))) h1) ∧ (¬ (v1.toInt = 0) → zqm 68 [.int a2] h1 (fun rv h3 => zri rv (fun v3 => ((v3.toInt = 0 → Q (some (.int (Int32.ofInt 0))) h3) ∧ (¬ (v3.toInt = 0) → (0 ≤ a1.toInt → a1.toInt < 8 → (0 ≤ a2.toInt → a2.toInt < 8 → ((¬ (h3.1 11 a1.toInt.toNat).toInt = (h3.1 11 a2.toInt.toNat).toInt → Q (some (.int (Int32.ofInt 0))) h3) ∧ (¬ (¬ (h3.1 11 a1.toInt.toNat).toInt = (h3.1 11 a2.toInt.toNat).toInt) → Q (some (.int (Int32.ofInt 1))) h3))))))))))))) : zqm 72 [.ref 1, .int a1, .int a2] h Q := by
  refine zqm_of zp_72 (fun n => ?_)
  show zQ n 72 0 [some (.ref 1), some (.int a1), some (.int a2)] [] h Q
  refine zQ_seq 1 (pc' := 1) (L' := [some (.ref 1), some (.int a1), some (.int a2)]) (S' := [.int a1]) (h' := h) zp_72 rfl ?_
  refine zQ_csI (M' := 68) (as := [.int a1]) (S' := []) zp_72 rfl rfl rfl zp_68 (Or.inr rfl) rfl rfl (zqm_imp H (fun rv h1 r1 => zri_imp r1 (fun v1 r1' => ?_)))
  refine zQ_if zp_72 rfl (t := 33) rfl (i := v1.toInt) rfl (fun c2 => ?_) (fun c2 => ?_)
  · refine zQ_seq 1 (pc' := 34) (L' := [some (.ref 1), some (.int a1), some (.int a2)]) (S' := [.int (Int32.ofInt 0)]) (h' := h1) zp_72 rfl ?_
    exact zQ_retI zp_72 rfl (r1'.1 c2)
  · refine zQ_seq 1 (pc' := 8) (L' := [some (.ref 1), some (.int a1), some (.int a2)]) (S' := [.int a2]) (h' := h1) zp_72 rfl ?_
    refine zQ_csI (M' := 68) (as := [.int a2]) (S' := []) zp_72 rfl rfl rfl zp_68 (Or.inr rfl) rfl rfl (zqm_imp (r1'.2 c2) (fun rv h3 r3 => zri_imp r3 (fun v3 r3' => ?_)))
    refine zQ_if zp_72 rfl (t := 33) rfl (i := v3.toInt) rfl (fun c4 => ?_) (fun c4 => ?_)
    · refine zQ_seq 1 (pc' := 34) (L' := [some (.ref 1), some (.int a1), some (.int a2)]) (S' := [.int (Int32.ofInt 0)]) (h' := h3) zp_72 rfl ?_
      exact zQ_retI zp_72 rfl (r3'.1 c4)
    · refine zQ_seq 3 (pc' := 19) (L' := [some (.ref 1), some (.int a1), some (.int a2)]) (S' := [.int a1, .ref 11]) (h' := h3) zp_72 rfl ?_
      refine zQ_ial (N := 8) (f := h3.1 11) zp_72 rfl rfl rfl (fun b5 b5' => ?_)
      refine zQ_seq 3 (pc' := 25) (L' := [some (.ref 1), some (.int a1), some (.int a2)]) (S' := [.int a2, .ref 11, .int (h3.1 11 a1.toInt.toNat)]) (h' := h3) zp_72 rfl ?_
      refine zQ_ial (N := 8) (f := h3.1 11) zp_72 rfl rfl rfl (fun b6 b6' => ?_)
      refine zQ_ic zp_72 rfl (t := 33) rfl (i := (h3.1 11 a1.toInt.toNat).toInt) (j := (h3.1 11 a2.toInt.toNat).toInt) rfl rfl (fun c7 => ?_) (fun c7 => ?_)
      · refine zQ_seq 1 (pc' := 34) (L' := [some (.ref 1), some (.int a1), some (.int a2)]) (S' := [.int (Int32.ofInt 0)]) (h' := h3) zp_72 rfl ?_
        exact zQ_retI zp_72 rfl ((((r3'.2 c4) b5 b5') b6 b6').1 c7)
      · refine zQ_seq 1 (pc' := 30) (L' := [some (.ref 1), some (.int a1), some (.int a2)]) (S' := [.int (Int32.ofInt 1)]) (h' := h3) zp_72 rfl ?_
        refine zQ_goto zp_72 rfl (t := 34) rfl ?_
        exact zQ_retI zp_72 rfl ((((r3'.2 c4) b5 b5') b6 b6').2 c7)
theorem s_74 {h : zH} {Q : Option Value → zH → Prop} (a1 : Int32) (a2 : Int32) (a3 : Int32) (H : (∀ n, zqm 68 [.int a1] h (fun rv h1 => zri rv (fun v1 => ((v1.toInt = 0 → Q none h1) ∧ (¬ (v1.toInt = 0) → ((a3.toInt < 0 → Q none h1) ∧ (¬ (a3.toInt < 0) → ((a3.toInt ≤ (40 : Int) → (0 ≤ a1.toInt → a1.toInt < 8 → (0 ≤ a1.toInt → a1.toInt < 8 → zQ n 74 35 [some (.ref 1), some (.int a1), some (.int a2), some (.int a3), some (.int (Int32.ofInt 0))] [] (zSet (zSet h1 11 a1.toInt.toNat a2) 12 a1.toInt.toNat a3) Q))) ∧ (¬ (a3.toInt ≤ (40 : Int)) → Q none h1)))))))))) : zqm 74 [.ref 1, .int a1, .int a2, .int a3] h Q := by
  refine zqm_of zp_74 (fun n => ?_)
  have H := H n
  show zQ n 74 0 [some (.ref 1), some (.int a1), some (.int a2), some (.int a3), none] [] h Q
  refine zQ_seq 1 (pc' := 1) (L' := [some (.ref 1), some (.int a1), some (.int a2), some (.int a3), none]) (S' := [.int a1]) (h' := h) zp_74 rfl ?_
  refine zQ_csI (M' := 68) (as := [.int a1]) (S' := []) zp_74 rfl rfl rfl zp_68 (Or.inr rfl) rfl rfl (zqm_imp H (fun rv h1 r1 => zri_imp r1 (fun v1 r1' => ?_)))
  refine zQ_if zp_74 rfl (t := 17) rfl (i := v1.toInt) rfl (fun c2 => ?_) (fun c2 => ?_)
  · exact zQ_retV zp_74 rfl (r1'.1 c2)
  · refine zQ_seq 1 (pc' := 8) (L' := [some (.ref 1), some (.int a1), some (.int a2), some (.int a3), none]) (S' := [.int a3]) (h' := h1) zp_74 rfl ?_
    refine zQ_if zp_74 rfl (t := 17) rfl (i := a3.toInt) rfl (fun c3 => ?_) (fun c3 => ?_)
    · exact zQ_retV zp_74 rfl ((r1'.2 c2).1 c3)
    · refine zQ_seq 2 (pc' := 14) (L' := [some (.ref 1), some (.int a1), some (.int a2), some (.int a3), none]) (S' := [.int (Int32.ofInt 40), .int a3]) (h' := h1) zp_74 rfl ?_
      refine zQ_ic zp_74 rfl (t := 18) rfl (i := a3.toInt) (j := (40 : Int)) rfl kc_40 (fun c4 => ?_) (fun c4 => ?_)
      · refine zQ_seq 4 (pc' := 24) (L' := [some (.ref 1), some (.int a1), some (.int a2), some (.int a3), none]) (S' := [.int a2, .int a1, .ref 11]) (h' := h1) zp_74 rfl ?_
        refine zQ_ias (N := 8) zp_74 rfl rfl rfl (fun b5 b5' => ?_)
        refine zQ_seq 4 (pc' := 31) (L' := [some (.ref 1), some (.int a1), some (.int a2), some (.int a3), none]) (S' := [.int a3, .int a1, .ref 12]) (h' := (zSet h1 11 a1.toInt.toNat a2)) zp_74 rfl ?_
        refine zQ_ias (N := 8) zp_74 rfl rfl rfl (fun b6 b6' => ?_)
        refine zQ_seq 2 (pc' := 35) (L' := [some (.ref 1), some (.int a1), some (.int a2), some (.int a3), some (.int (Int32.ofInt 0))]) (S' := []) (h' := (zSet (zSet h1 11 a1.toInt.toNat a2) 12 a1.toInt.toNat a3)) zp_74 rfl ?_
        exact (((((r1'.2 c2).2 c3).1 c4) b5 b5') b6 b6')
      · exact zQ_retV zp_74 rfl (((r1'.2 c2).2 c3).2 c4)
theorem s_74_35 {n : Nat} {h : zH} {Q : Option Value → zH → Prop} (x1 : Int32) (x2 : Int32) (x3 : Int32) (x4 : Int32) (H : ((x3.toInt ≤ x4.toInt → Q none h) ∧ (¬ (x3.toInt ≤ x4.toInt) → (0 ≤ x1.toInt → x1.toInt < 8 → (0 ≤ x4.toInt → x4.toInt < 40 → zQ n 74 35 [some (.ref 1), some (.int x1), some (.int x2), some (.int x3), some (.int (x4 + Int32.ofInt 1))] [] (zSet h (3 + x1.toInt.toNat) x4.toInt.toNat (Int32.ofInt 0)) Q))))) : zQ (n + 1) 74 35 [some (.ref 1), some (.int x1), some (.int x2), some (.int x3), some (.int x4)] [] h Q := by
  refine zQ_seqL 1 (pc' := 38) (L' := [some (.ref 1), some (.int x1), some (.int x2), some (.int x3), some (.int x4)]) (S' := [.int x3, .int x4]) (h' := h) zp_74 rfl ?_
  refine zQ_ic zp_74 rfl (t := 57) rfl (i := x4.toInt) (j := x3.toInt) rfl rfl (fun c1 => ?_) (fun c1 => ?_)
  · exact zQ_retV zp_74 rfl (H.1 c1)
  · refine zQ_seq 3 (pc' := 46) (L' := [some (.ref 1), some (.int x1), some (.int x2), some (.int x3), some (.int x4)]) (S' := [.int x1, .ref 2]) (h' := h) zp_74 rfl ?_
    refine zQ_row zp_74 rfl (fun b2 b2' b2'' => ?_)
    refine zQ_seq 2 (pc' := 50) (L' := [some (.ref 1), some (.int x1), some (.int x2), some (.int x3), some (.int x4)]) (S' := [.int (Int32.ofInt 0), .int x4, .ref (3 + x1.toInt.toNat)]) (h' := h) zp_74 rfl ?_
    refine zQ_ias (N := 40) zp_74 rfl b2'' rfl (fun b3 b3' => ?_)
    refine zQ_seq 1 (pc' := 54) (L' := [some (.ref 1), some (.int x1), some (.int x2), some (.int x3), some (.int (x4 + Int32.ofInt 1))]) (S' := []) (h' := (zSet h (3 + x1.toInt.toNat) x4.toInt.toNat (Int32.ofInt 0))) zp_74 rfl ?_
    refine zQ_goto zp_74 rfl (t := 35) rfl ?_
    exact (((H.2 c1) b2 b2') b3 b3')
theorem s_75 {h : zH} {Q : Option Value → zH → Prop} (a1 : Int32) (H : zqm 70 [.ref 1, .int a1] h (fun rv h1 => zri rv (fun v1 => ((v1.toInt = 0 → (0 ≤ a1.toInt → a1.toInt < 8 → (0 ≤ a1.toInt → a1.toInt < 8 → Q (some (.int (h1.1 12 a1.toInt.toNat))) (zSet h1 12 a1.toInt.toNat (Int32.ofInt (-1)))))) ∧ (¬ (v1.toInt = 0) → Q (some (.int (Int32.ofInt 0))) h1))))) : zqm 75 [.ref 1, .int a1] h Q := by
  refine zqm_of zp_75 (fun n => ?_)
  show zQ n 75 0 [some (.ref 1), some (.int a1), none] [] h Q
  refine zQ_seq 2 (pc' := 2) (L' := [some (.ref 1), some (.int a1), none]) (S' := [.int a1, .ref 1]) (h' := h) zp_75 rfl ?_
  refine zQ_cvI (M' := 70) (as := [.ref 1, .int a1]) (S' := []) zp_75 rfl rfl zp_70 (Or.inr rfl) rfl rfl (zqm_imp H (fun rv h1 r1 => zri_imp r1 (fun v1 r1' => ?_)))
  refine zQ_if zp_75 rfl (t := 10) rfl (i := v1.toInt) rfl (fun c2 => ?_) (fun c2 => ?_)
  · refine zQ_seq 3 (pc' := 15) (L' := [some (.ref 1), some (.int a1), none]) (S' := [.int a1, .ref 12]) (h' := h1) zp_75 rfl ?_
    refine zQ_ial (N := 8) (f := h1.1 12) zp_75 rfl rfl rfl (fun b3 b3' => ?_)
    refine zQ_seq 5 (pc' := 23) (L' := [some (.ref 1), some (.int a1), some (.int (h1.1 12 a1.toInt.toNat))]) (S' := [.int (Int32.ofInt (-1)), .int a1, .ref 12]) (h' := h1) zp_75 rfl ?_
    refine zQ_ias (N := 8) zp_75 rfl rfl rfl (fun b4 b4' => ?_)
    refine zQ_seq 1 (pc' := 25) (L' := [some (.ref 1), some (.int a1), some (.int (h1.1 12 a1.toInt.toNat))]) (S' := [.int (h1.1 12 a1.toInt.toNat)]) (h' := (zSet h1 12 a1.toInt.toNat (Int32.ofInt (-1)))) zp_75 rfl ?_
    exact zQ_retI zp_75 rfl (((r1'.1 c2) b3 b3') b4 b4')
  · refine zQ_seq 1 (pc' := 9) (L' := [some (.ref 1), some (.int a1), none]) (S' := [.int (Int32.ofInt 0)]) (h' := h1) zp_75 rfl ?_
    exact zQ_retI zp_75 rfl (r1'.2 c2)
theorem s_77 {h : zH} {Q : Option Value → zH → Prop} (a1 : Int32) (a2 : Int32) (a3 : Int32) (H : zqm 71 [.ref 1, .int a1, .int a2, .int (Int32.ofInt 1)] h (fun rv h1 => zri rv (fun v1 => ((¬ v1.toInt = 0 → (0 ≤ a1.toInt → a1.toInt < 8 → (0 ≤ a1.toInt → a1.toInt < 8 → zqm 78 [.int (h1.1 11 a1.toInt.toNat), .int a3] h1 (fun rv h5 => zri rv (fun v5 => (0 ≤ a2.toInt → a2.toInt < 40 → (0 ≤ a1.toInt → a1.toInt < 8 → (0 ≤ a2.toInt → a2.toInt < 40 → Q (some (.int ((zSet h5 (3 + a1.toInt.toNat) a2.toInt.toNat v5).1 (3 + a1.toInt.toNat) a2.toInt.toNat))) (zSet h5 (3 + a1.toInt.toNat) a2.toInt.toNat v5))))))))) ∧ (¬ (¬ v1.toInt = 0) → Q (some (.int (Int32.ofInt 0))) h1))))) : zqm 77 [.ref 1, .int a1, .int a2, .int a3] h Q := by
  refine zqm_of zp_77 (fun n => ?_)
  show zQ n 77 0 [some (.ref 1), some (.int a1), some (.int a2), some (.int a3)] [] h Q
  refine zQ_seq 4 (pc' := 4) (L' := [some (.ref 1), some (.int a1), some (.int a2), some (.int a3)]) (S' := [.int (Int32.ofInt 1), .int a2, .int a1, .ref 1]) (h' := h) zp_77 rfl ?_
  refine zQ_cvI (M' := 71) (as := [.ref 1, .int a1, .int a2, .int (Int32.ofInt 1)]) (S' := []) zp_77 rfl rfl zp_71 (Or.inr rfl) rfl rfl (zqm_imp H (fun rv h1 r1 => zri_imp r1 (fun v1 r1' => ?_)))
  refine zQ_if zp_77 rfl (t := 12) rfl (i := v1.toInt) rfl (fun c2 => ?_) (fun c2 => ?_)
  · refine zQ_seq 3 (pc' := 17) (L' := [some (.ref 1), some (.int a1), some (.int a2), some (.int a3)]) (S' := [.int a1, .ref 2]) (h' := h1) zp_77 rfl ?_
    refine zQ_row zp_77 rfl (fun b3 b3' b3'' => ?_)
    refine zQ_seq 4 (pc' := 24) (L' := [some (.ref 1), some (.int a1), some (.int a2), some (.int a3)]) (S' := [.int a1, .ref 11, .int a2, .ref (3 + a1.toInt.toNat)]) (h' := h1) zp_77 rfl ?_
    refine zQ_ial (N := 8) (f := h1.1 11) zp_77 rfl rfl rfl (fun b4 b4' => ?_)
    refine zQ_seq 1 (pc' := 26) (L' := [some (.ref 1), some (.int a1), some (.int a2), some (.int a3)]) (S' := [.int a3, .int (h1.1 11 a1.toInt.toNat), .int a2, .ref (3 + a1.toInt.toNat)]) (h' := h1) zp_77 rfl ?_
    refine zQ_csI (M' := 78) (as := [.int (h1.1 11 a1.toInt.toNat), .int a3]) (S' := [.int a2, .ref (3 + a1.toInt.toNat)]) zp_77 rfl rfl rfl zp_78 (Or.inl rfl) rfl rfl (zqm_imp (((r1'.1 c2) b3 b3') b4 b4') (fun rv h5 r5 => zri_imp r5 (fun v5 r5' => ?_)))
    refine zQ_ias (N := 40) zp_77 rfl b3'' rfl (fun b6 b6' => ?_)
    refine zQ_seq 3 (pc' := 35) (L' := [some (.ref 1), some (.int a1), some (.int a2), some (.int a3)]) (S' := [.int a1, .ref 2]) (h' := (zSet h5 (3 + a1.toInt.toNat) a2.toInt.toNat v5)) zp_77 rfl ?_
    refine zQ_row zp_77 rfl (fun b7 b7' b7'' => ?_)
    refine zQ_seq 1 (pc' := 37) (L' := [some (.ref 1), some (.int a1), some (.int a2), some (.int a3)]) (S' := [.int a2, .ref (3 + a1.toInt.toNat)]) (h' := (zSet h5 (3 + a1.toInt.toNat) a2.toInt.toNat v5)) zp_77 rfl ?_
    refine zQ_ial (N := 40) (f := (zSet h5 (3 + a1.toInt.toNat) a2.toInt.toNat v5).1 (3 + a1.toInt.toNat)) zp_77 rfl (wk_row b7'') rfl (fun b8 b8' => ?_)
    exact zQ_retI zp_77 rfl (((r5' b6 b6') b7 b7') b8 b8')
  · refine zQ_seq 1 (pc' := 11) (L' := [some (.ref 1), some (.int a1), some (.int a2), some (.int a3)]) (S' := [.int (Int32.ofInt 0)]) (h' := h1) zp_77 rfl ?_
    exact zQ_retI zp_77 rfl (r1'.2 c2)
theorem s_78 {h : zH} {Q : Option Value → zH → Prop} (a0 : Int32) (a1 : Int32) (H : ((¬ a0.toInt = 0 → ((¬ a0.toInt = (1 : Int) → Q (some (.int a1)) h) ∧ (¬ (¬ a0.toInt = (1 : Int)) → Q (some (.int (a1.toInt16.toInt32))) h))) ∧ (¬ (¬ a0.toInt = 0) → Q (some (.int (a1.toInt8.toInt32))) h))) : zqm 78 [.int a0, .int a1] h Q := by
  refine zqm_of zp_78 (fun n => ?_)
  show zQ n 78 0 [some (.int a0), some (.int a1)] [] h Q
  refine zQ_seq 1 (pc' := 1) (L' := [some (.int a0), some (.int a1)]) (S' := [.int a0]) (h' := h) zp_78 rfl ?_
  refine zQ_if zp_78 rfl (t := 7) rfl (i := a0.toInt) rfl (fun c1 => ?_) (fun c1 => ?_)
  · refine zQ_seq 2 (pc' := 9) (L' := [some (.int a0), some (.int a1)]) (S' := [.int (Int32.ofInt 1), .int a0]) (h' := h) zp_78 rfl ?_
    refine zQ_ic zp_78 rfl (t := 17) rfl (i := a0.toInt) (j := (1 : Int)) rfl kc_1 (fun c2 => ?_) (fun c2 => ?_)
    · refine zQ_seq 1 (pc' := 18) (L' := [some (.int a0), some (.int a1)]) (S' := [.int a1]) (h' := h) zp_78 rfl ?_
      exact zQ_retI zp_78 rfl ((H.1 c1).1 c2)
    · refine zQ_seq 2 (pc' := 14) (L' := [some (.int a0), some (.int a1)]) (S' := [.int (a1.toInt16.toInt32)]) (h' := h) zp_78 rfl ?_
      refine zQ_goto zp_78 rfl (t := 18) rfl ?_
      exact zQ_retI zp_78 rfl ((H.1 c1).2 c2)
  · refine zQ_seq 2 (pc' := 6) (L' := [some (.int a0), some (.int a1)]) (S' := [.int (a1.toInt8.toInt32)]) (h' := h) zp_78 rfl ?_
    exact zQ_retI zp_78 rfl (H.2 c1)
theorem s_79 {h : zH} {Q : Option Value → zH → Prop} (a1 : Int32) (a2 : Int32) (a3 : Int32) (a4 : Int32) (a5 : Int32) (H : zqm 71 [.ref 1, .int a1, .int a2, .int a5] h (fun rv h1 => zri rv (fun v1 => ((v1.toInt = 0 → Q none h1) ∧ (¬ (v1.toInt = 0) → zqm 71 [.ref 1, .int a3, .int a4, .int a5] h1 (fun rv h3 => zri rv (fun v3 => ((v3.toInt = 0 → Q none h3) ∧ (¬ (v3.toInt = 0) → (0 ≤ a1.toInt → a1.toInt < 8 → (0 ≤ a3.toInt → a3.toInt < 8 → (0 ≤ a2.toInt → 0 ≤ a4.toInt → 0 ≤ a5.toInt → a2.toInt + a5.toInt ≤ 40 → a4.toInt + a5.toInt ≤ 40 → Q none (zCpy h3 (3 + a1.toInt.toNat) (3 + a3.toInt.toNat) a2.toInt.toNat a4.toInt.toNat a5.toInt.toNat))))))))))))) : zqm 79 [.ref 1, .int a1, .int a2, .int a3, .int a4, .int a5] h Q := by
  refine zqm_of zp_79 (fun n => ?_)
  show zQ n 79 0 [some (.ref 1), some (.int a1), some (.int a2), some (.int a3), some (.int a4), some (.int a5)] [] h Q
  refine zQ_seq 4 (pc' := 5) (L' := [some (.ref 1), some (.int a1), some (.int a2), some (.int a3), some (.int a4), some (.int a5)]) (S' := [.int a5, .int a2, .int a1, .ref 1]) (h' := h) zp_79 rfl ?_
  refine zQ_cvI (M' := 71) (as := [.ref 1, .int a1, .int a2, .int a5]) (S' := []) zp_79 rfl rfl zp_71 (Or.inr rfl) rfl rfl (zqm_imp H (fun rv h1 r1 => zri_imp r1 (fun v1 r1' => ?_)))
  refine zQ_if zp_79 rfl (t := 43) rfl (i := v1.toInt) rfl (fun c2 => ?_) (fun c2 => ?_)
  · exact zQ_retV zp_79 rfl (r1'.1 c2)
  · refine zQ_seq 4 (pc' := 17) (L' := [some (.ref 1), some (.int a1), some (.int a2), some (.int a3), some (.int a4), some (.int a5)]) (S' := [.int a5, .int a4, .int a3, .ref 1]) (h' := h1) zp_79 rfl ?_
    refine zQ_cvI (M' := 71) (as := [.ref 1, .int a3, .int a4, .int a5]) (S' := []) zp_79 rfl rfl zp_71 (Or.inr rfl) rfl rfl (zqm_imp (r1'.2 c2) (fun rv h3 r3 => zri_imp r3 (fun v3 r3' => ?_)))
    refine zQ_if zp_79 rfl (t := 43) rfl (i := v3.toInt) rfl (fun c4 => ?_) (fun c4 => ?_)
    · exact zQ_retV zp_79 rfl (r3'.1 c4)
    · refine zQ_seq 3 (pc' := 28) (L' := [some (.ref 1), some (.int a1), some (.int a2), some (.int a3), some (.int a4), some (.int a5)]) (S' := [.int a1, .ref 2]) (h' := h3) zp_79 rfl ?_
      refine zQ_row zp_79 rfl (fun b5 b5' b5'' => ?_)
      refine zQ_seq 4 (pc' := 35) (L' := [some (.ref 1), some (.int a1), some (.int a2), some (.int a3), some (.int a4), some (.int a5)]) (S' := [.int a3, .ref 2, .int a2, .ref (3 + a1.toInt.toNat)]) (h' := h3) zp_79 rfl ?_
      refine zQ_row zp_79 rfl (fun b6 b6' b6'' => ?_)
      refine zQ_seq 2 (pc' := 40) (L' := [some (.ref 1), some (.int a1), some (.int a2), some (.int a3), some (.int a4), some (.int a5)]) (S' := [.int a5, .int a4, .ref (3 + a3.toInt.toNat), .int a2, .ref (3 + a1.toInt.toNat)]) (h' := h3) zp_79 rfl ?_
      refine zQ_copy (n0 := 40) (n1 := 40) (i := a2.toInt) (j := a4.toInt) (l := a5.toInt) zp_79 rfl rfl b5'' b6'' rfl rfl rfl (fun b7 b7' b7'' b7''' b7'''' => ?_)
      exact zQ_retV zp_79 rfl ((((r3'.2 c4) b5 b5') b6 b6') b7 b7' b7'' b7''' b7'''')

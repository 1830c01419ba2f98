/-! segments: the class, its parts -/
theorem s_0 {h : zH} {Q : Option Value → zH → Prop} (H : Q none (zSet (zSet h 48 3 (Int32.ofInt 0)) 48 4 (Int32.ofInt 0))) : zqm 0 [.ref 48] h Q := by
  refine zqm_of zp_0 (fun n => ?_)
  show zQ n 0 0 [some (.ref 48)] [] h Q
  refine zQ_seq 6 (pc' := 10) (L' := [some (.ref 48)]) (S' := []) (h' := (zSet (zSet h 48 3 (Int32.ofInt 0)) 48 4 (Int32.ofInt 0))) zp_0 rfl ?_
  exact zQ_retV zp_0 rfl H
theorem s_1 {h : zH} {Q : Option Value → zH → Prop} (H : (((h.1 48 3).toInt < 0 → Q none h) ∧ (¬ ((h.1 48 3).toInt < 0) → (((h.1 48 3).toInt < (24 : Int) → (0 ≤ (h.1 48 3).toInt → (h.1 48 3).toInt < 24 → (0 ≤ (h.1 48 3).toInt → (h.1 48 3).toInt < 24 → (0 ≤ (h.1 48 3).toInt → (h.1 48 3).toInt < 24 → zqm 221 [.int ((h.1 48 4) + (Int32.ofInt 1)), .int (Int32.ofInt 24)] (zSet (zSet (zSet (zSet h 49 (h.1 48 3).toInt.toNat (h.1 15 3)) 50 (h.1 48 3).toInt.toNat (h.1 15 4)) 51 (h.1 48 3).toInt.toNat (h.1 15 5)) 48 3 (((h.1 48 3) + (Int32.ofInt 1)) - ((h.1 48 3) + (Int32.ofInt 1)) / (Int32.ofInt 24) * (Int32.ofInt 24))) (fun rv h6 => zri rv (fun v6 => Q none (zSet h6 48 4 v6))))))) ∧ (¬ ((h.1 48 3).toInt < (24 : Int)) → Q none h))))) : zqm 1 [.ref 48, .ref 15] h Q := by
  refine zqm_of zp_1 (fun n => ?_)
  show zQ n 1 0 [some (.ref 48), some (.ref 15)] [] h Q
  refine zQ_seq 2 (pc' := 4) (L' := [some (.ref 48), some (.ref 15)]) (S' := [.int (h.1 48 3)]) (h' := h) zp_1 rfl ?_
  refine zQ_if zp_1 rfl (t := 16) rfl (i := (h.1 48 3).toInt) rfl (fun c1 => ?_) (fun c1 => ?_)
  · exact zQ_retV zp_1 rfl (H.1 c1)
  · refine zQ_seq 3 (pc' := 13) (L' := [some (.ref 48), some (.ref 15)]) (S' := [.int (Int32.ofInt 24), .int (h.1 48 3)]) (h' := h) zp_1 rfl ?_
    refine zQ_ic zp_1 rfl (t := 17) rfl (i := (h.1 48 3).toInt) (j := (24 : Int)) rfl kc_24 (fun c2 => ?_) (fun c2 => ?_)
    · refine zQ_seq 6 (pc' := 29) (L' := [some (.ref 48), some (.ref 15)]) (S' := [.int (h.1 15 3), .int (h.1 48 3), .ref 49]) (h' := h) zp_1 rfl ?_
      refine zQ_ias (N := 24) zp_1 rfl rfl rfl (fun b3 b3' => ?_)
      refine zQ_seq 6 (pc' := 42) (L' := [some (.ref 48), some (.ref 15)]) (S' := [.int (h.1 15 4), .int (h.1 48 3), .ref 50]) (h' := (zSet h 49 (h.1 48 3).toInt.toNat (h.1 15 3))) zp_1 rfl ?_
      refine zQ_ias (N := 24) zp_1 rfl rfl rfl (fun b4 b4' => ?_)
      refine zQ_seq 6 (pc' := 55) (L' := [some (.ref 48), some (.ref 15)]) (S' := [.int (h.1 15 5), .int (h.1 48 3), .ref 51]) (h' := (zSet (zSet h 49 (h.1 48 3).toInt.toNat (h.1 15 3)) 50 (h.1 48 3).toInt.toNat (h.1 15 4))) zp_1 rfl ?_
      refine zQ_ias (N := 24) zp_1 rfl rfl rfl (fun b5 b5' => ?_)
      refine zQ_seq 6 (pc' := 65) (L' := [some (.ref 48), some (.ref 15)]) (S' := [.int (Int32.ofInt 24), .int ((h.1 48 3) + (Int32.ofInt 1)), .ref 48]) (h' := (zSet (zSet (zSet h 49 (h.1 48 3).toInt.toNat (h.1 15 3)) 50 (h.1 48 3).toInt.toNat (h.1 15 4)) 51 (h.1 48 3).toInt.toNat (h.1 15 5))) zp_1 rfl ?_
      refine zQ_rem zp_1 rfl (fun _ => ?_)
      refine zQ_seq 7 (pc' := 78) (L' := [some (.ref 48), some (.ref 15)]) (S' := [.int (Int32.ofInt 24), .int ((h.1 48 4) + (Int32.ofInt 1)), .ref 48]) (h' := (zSet (zSet (zSet (zSet h 49 (h.1 48 3).toInt.toNat (h.1 15 3)) 50 (h.1 48 3).toInt.toNat (h.1 15 4)) 51 (h.1 48 3).toInt.toNat (h.1 15 5)) 48 3 (((h.1 48 3) + (Int32.ofInt 1)) - ((h.1 48 3) + (Int32.ofInt 1)) / (Int32.ofInt 24) * (Int32.ofInt 24)))) zp_1 rfl ?_
      refine zQ_csI (M' := 221) (as := [.int ((h.1 48 4) + (Int32.ofInt 1)), .int (Int32.ofInt 24)]) (S' := [.ref 48]) zp_1 rfl rfl rfl zp_221 (Or.inl rfl) rfl rfl (zqm_imp (((((H.2 c1).1 c2) b3 b3') b4 b4') b5 b5') (fun rv h6 r6 => zri_imp r6 (fun v6 r6' => ?_)))
      refine zQ_seq 1 (pc' := 84) (L' := [some (.ref 48), some (.ref 15)]) (S' := []) (h' := (zSet h6 48 4 v6)) zp_1 rfl ?_
      exact zQ_retV zp_1 rfl r6'
    · exact zQ_retV zp_1 rfl ((H.2 c1).2 c2)
theorem s_2 {h : zH} {Q : Option Value → zH → Prop} (H : (((h.1 48 4).toInt = 0 → Q none h) ∧ (¬ ((h.1 48 4).toInt = 0) → ((0 ≤ ((((h.1 48 3) + (Int32.ofInt 24)) - (Int32.ofInt 1)) - (((h.1 48 3) + (Int32.ofInt 24)) - (Int32.ofInt 1)) / (Int32.ofInt 24) * (Int32.ofInt 24)).toInt → (0 ≤ ((((h.1 48 3) + (Int32.ofInt 24)) - (Int32.ofInt 1)) - (((h.1 48 3) + (Int32.ofInt 24)) - (Int32.ofInt 1)) / (Int32.ofInt 24) * (Int32.ofInt 24)).toInt → ((((h.1 48 3) + (Int32.ofInt 24)) - (Int32.ofInt 1)) - (((h.1 48 3) + (Int32.ofInt 24)) - (Int32.ofInt 1)) / (Int32.ofInt 24) * (Int32.ofInt 24)).toInt < 24 → (0 ≤ ((((h.1 48 3) + (Int32.ofInt 24)) - (Int32.ofInt 1)) - (((h.1 48 3) + (Int32.ofInt 24)) - (Int32.ofInt 1)) / (Int32.ofInt 24) * (Int32.ofInt 24)).toInt → ((((h.1 48 3) + (Int32.ofInt 24)) - (Int32.ofInt 1)) - (((h.1 48 3) + (Int32.ofInt 24)) - (Int32.ofInt 1)) / (Int32.ofInt 24) * (Int32.ofInt 24)).toInt < 24 → (0 ≤ ((((h.1 48 3) + (Int32.ofInt 24)) - (Int32.ofInt 1)) - (((h.1 48 3) + (Int32.ofInt 24)) - (Int32.ofInt 1)) / (Int32.ofInt 24) * (Int32.ofInt 24)).toInt → ((((h.1 48 3) + (Int32.ofInt 24)) - (Int32.ofInt 1)) - (((h.1 48 3) + (Int32.ofInt 24)) - (Int32.ofInt 1)) / (Int32.ofInt 24) * (Int32.ofInt 24)).toInt < 24 → Q none (zSet (zSet (zSet (zSet (zSet h 15 3 (h.1 49 ((((h.1 48 3) + (Int32.ofInt 24)) - (Int32.ofInt 1)) - (((h.1 48 3) + (Int32.ofInt 24)) - (Int32.ofInt 1)) / (Int32.ofInt 24) * (Int32.ofInt 24)).toInt.toNat)) 15 4 (h.1 50 ((((h.1 48 3) + (Int32.ofInt 24)) - (Int32.ofInt 1)) - (((h.1 48 3) + (Int32.ofInt 24)) - (Int32.ofInt 1)) / (Int32.ofInt 24) * (Int32.ofInt 24)).toInt.toNat)) 15 5 (h.1 51 ((((h.1 48 3) + (Int32.ofInt 24)) - (Int32.ofInt 1)) - (((h.1 48 3) + (Int32.ofInt 24)) - (Int32.ofInt 1)) / (Int32.ofInt 24) * (Int32.ofInt 24)).toInt.toNat)) 48 3 ((((h.1 48 3) + (Int32.ofInt 24)) - (Int32.ofInt 1)) - (((h.1 48 3) + (Int32.ofInt 24)) - (Int32.ofInt 1)) / (Int32.ofInt 24) * (Int32.ofInt 24))) 48 4 ((h.1 48 4) - (Int32.ofInt 1))))))) ∧ (¬ (0 ≤ ((((h.1 48 3) + (Int32.ofInt 24)) - (Int32.ofInt 1)) - (((h.1 48 3) + (Int32.ofInt 24)) - (Int32.ofInt 1)) / (Int32.ofInt 24) * (Int32.ofInt 24)).toInt) → Q none h))))) : zqm 2 [.ref 48, .ref 15] h Q := by
  refine zqm_of zp_2 (fun n => ?_)
  show zQ n 2 0 [some (.ref 48), some (.ref 15), none] [] h Q
  refine zQ_seq 7 (pc' := 11) (L' := [some (.ref 48), some (.ref 15), none]) (S' := [.int (Int32.ofInt 24), .int (((h.1 48 3) + (Int32.ofInt 24)) - (Int32.ofInt 1))]) (h' := h) zp_2 rfl ?_
  refine zQ_rem zp_2 rfl (fun _ => ?_)
  refine zQ_seq 3 (pc' := 17) (L' := [some (.ref 48), some (.ref 15), some (.int ((((h.1 48 3) + (Int32.ofInt 24)) - (Int32.ofInt 1)) - (((h.1 48 3) + (Int32.ofInt 24)) - (Int32.ofInt 1)) / (Int32.ofInt 24) * (Int32.ofInt 24)))]) (S' := [.int (h.1 48 4)]) (h' := h) zp_2 rfl ?_
  refine zQ_if zp_2 rfl (t := 24) rfl (i := (h.1 48 4).toInt) rfl (fun c1 => ?_) (fun c1 => ?_)
  · exact zQ_retV zp_2 rfl (H.1 c1)
  · refine zQ_seq 1 (pc' := 21) (L' := [some (.ref 48), some (.ref 15), some (.int ((((h.1 48 3) + (Int32.ofInt 24)) - (Int32.ofInt 1)) - (((h.1 48 3) + (Int32.ofInt 24)) - (Int32.ofInt 1)) / (Int32.ofInt 24) * (Int32.ofInt 24)))]) (S' := [.int ((((h.1 48 3) + (Int32.ofInt 24)) - (Int32.ofInt 1)) - (((h.1 48 3) + (Int32.ofInt 24)) - (Int32.ofInt 1)) / (Int32.ofInt 24) * (Int32.ofInt 24))]) (h' := h) zp_2 rfl ?_
    refine zQ_if zp_2 rfl (t := 25) rfl (i := ((((h.1 48 3) + (Int32.ofInt 24)) - (Int32.ofInt 1)) - (((h.1 48 3) + (Int32.ofInt 24)) - (Int32.ofInt 1)) / (Int32.ofInt 24) * (Int32.ofInt 24)).toInt) rfl (fun c2 => ?_) (fun c2 => ?_)
    · refine zQ_seq 4 (pc' := 31) (L' := [some (.ref 48), some (.ref 15), some (.int ((((h.1 48 3) + (Int32.ofInt 24)) - (Int32.ofInt 1)) - (((h.1 48 3) + (Int32.ofInt 24)) - (Int32.ofInt 1)) / (Int32.ofInt 24) * (Int32.ofInt 24)))]) (S' := [.int ((((h.1 48 3) + (Int32.ofInt 24)) - (Int32.ofInt 1)) - (((h.1 48 3) + (Int32.ofInt 24)) - (Int32.ofInt 1)) / (Int32.ofInt 24) * (Int32.ofInt 24)), .ref 49, .ref 15]) (h' := h) zp_2 rfl ?_
      refine zQ_ial (N := 24) (f := h.1 49) zp_2 rfl rfl rfl (fun b3 b3' => ?_)
      refine zQ_seq 5 (pc' := 41) (L' := [some (.ref 48), some (.ref 15), some (.int ((((h.1 48 3) + (Int32.ofInt 24)) - (Int32.ofInt 1)) - (((h.1 48 3) + (Int32.ofInt 24)) - (Int32.ofInt 1)) / (Int32.ofInt 24) * (Int32.ofInt 24)))]) (S' := [.int ((((h.1 48 3) + (Int32.ofInt 24)) - (Int32.ofInt 1)) - (((h.1 48 3) + (Int32.ofInt 24)) - (Int32.ofInt 1)) / (Int32.ofInt 24) * (Int32.ofInt 24)), .ref 50, .ref 15]) (h' := (zSet h 15 3 (h.1 49 ((((h.1 48 3) + (Int32.ofInt 24)) - (Int32.ofInt 1)) - (((h.1 48 3) + (Int32.ofInt 24)) - (Int32.ofInt 1)) / (Int32.ofInt 24) * (Int32.ofInt 24)).toInt.toNat))) zp_2 rfl ?_
      refine zQ_ial (N := 24) (f := (zSet h 15 3 (h.1 49 ((((h.1 48 3) + (Int32.ofInt 24)) - (Int32.ofInt 1)) - (((h.1 48 3) + (Int32.ofInt 24)) - (Int32.ofInt 1)) / (Int32.ofInt 24) * (Int32.ofInt 24)).toInt.toNat)).1 50) zp_2 rfl rfl rfl (fun b4 b4' => ?_)
      refine zQ_seq 5 (pc' := 51) (L' := [some (.ref 48), some (.ref 15), some (.int ((((h.1 48 3) + (Int32.ofInt 24)) - (Int32.ofInt 1)) - (((h.1 48 3) + (Int32.ofInt 24)) - (Int32.ofInt 1)) / (Int32.ofInt 24) * (Int32.ofInt 24)))]) (S' := [.int ((((h.1 48 3) + (Int32.ofInt 24)) - (Int32.ofInt 1)) - (((h.1 48 3) + (Int32.ofInt 24)) - (Int32.ofInt 1)) / (Int32.ofInt 24) * (Int32.ofInt 24)), .ref 51, .ref 15]) (h' := (zSet (zSet h 15 3 (h.1 49 ((((h.1 48 3) + (Int32.ofInt 24)) - (Int32.ofInt 1)) - (((h.1 48 3) + (Int32.ofInt 24)) - (Int32.ofInt 1)) / (Int32.ofInt 24) * (Int32.ofInt 24)).toInt.toNat)) 15 4 (h.1 50 ((((h.1 48 3) + (Int32.ofInt 24)) - (Int32.ofInt 1)) - (((h.1 48 3) + (Int32.ofInt 24)) - (Int32.ofInt 1)) / (Int32.ofInt 24) * (Int32.ofInt 24)).toInt.toNat))) zp_2 rfl ?_
      refine zQ_ial (N := 24) (f := (zSet (zSet h 15 3 (h.1 49 ((((h.1 48 3) + (Int32.ofInt 24)) - (Int32.ofInt 1)) - (((h.1 48 3) + (Int32.ofInt 24)) - (Int32.ofInt 1)) / (Int32.ofInt 24) * (Int32.ofInt 24)).toInt.toNat)) 15 4 (h.1 50 ((((h.1 48 3) + (Int32.ofInt 24)) - (Int32.ofInt 1)) - (((h.1 48 3) + (Int32.ofInt 24)) - (Int32.ofInt 1)) / (Int32.ofInt 24) * (Int32.ofInt 24)).toInt.toNat)).1 51) zp_2 rfl rfl rfl (fun b5 b5' => ?_)
      refine zQ_seq 10 (pc' := 70) (L' := [some (.ref 48), some (.ref 15), some (.int ((((h.1 48 3) + (Int32.ofInt 24)) - (Int32.ofInt 1)) - (((h.1 48 3) + (Int32.ofInt 24)) - (Int32.ofInt 1)) / (Int32.ofInt 24) * (Int32.ofInt 24)))]) (S' := []) (h' := (zSet (zSet (zSet (zSet (zSet h 15 3 (h.1 49 ((((h.1 48 3) + (Int32.ofInt 24)) - (Int32.ofInt 1)) - (((h.1 48 3) + (Int32.ofInt 24)) - (Int32.ofInt 1)) / (Int32.ofInt 24) * (Int32.ofInt 24)).toInt.toNat)) 15 4 (h.1 50 ((((h.1 48 3) + (Int32.ofInt 24)) - (Int32.ofInt 1)) - (((h.1 48 3) + (Int32.ofInt 24)) - (Int32.ofInt 1)) / (Int32.ofInt 24) * (Int32.ofInt 24)).toInt.toNat)) 15 5 (h.1 51 ((((h.1 48 3) + (Int32.ofInt 24)) - (Int32.ofInt 1)) - (((h.1 48 3) + (Int32.ofInt 24)) - (Int32.ofInt 1)) / (Int32.ofInt 24) * (Int32.ofInt 24)).toInt.toNat)) 48 3 ((((h.1 48 3) + (Int32.ofInt 24)) - (Int32.ofInt 1)) - (((h.1 48 3) + (Int32.ofInt 24)) - (Int32.ofInt 1)) / (Int32.ofInt 24) * (Int32.ofInt 24))) 48 4 ((h.1 48 4) - (Int32.ofInt 1)))) zp_2 rfl ?_
      exact zQ_retV zp_2 rfl (((((H.2 c1).1 c2) b3 b3') b4 b4') b5 b5')
    · exact zQ_retV zp_2 rfl ((H.2 c1).2 c2)
theorem s_3 {h : zH} {Q : Option Value → zH → Prop} (a0 : Int32) (a1 : Int32) (H : (∀ n, zQ n 3 4 [some (.int a0), some (.int a1), some (.int a0), some (.int (Int32.ofInt 0))] [] h Q)) : zqm 3 [.int a0, .int a1] h Q := by
  refine zqm_of zp_3 (fun n => ?_)
  have H := H n
  show zQ n 3 0 [some (.int a0), some (.int a1), none, none] [] h Q
  refine zQ_seq 4 (pc' := 4) (L' := [some (.int a0), some (.int a1), some (.int a0), some (.int (Int32.ofInt 0))]) (S' := []) (h' := h) zp_3 rfl ?_
  exact H
theorem s_3_4 {n : Nat} {h : zH} {Q : Option Value → zH → Prop} (x0 : Int32) (x1 : Int32) (x2 : Int32) (x3 : Int32) (H : (((6 : Int) ≤ x3.toInt → ((¬ x2.toInt = x1.toInt → Q (some (.int (Int32.ofInt 0))) h) ∧ (¬ (¬ x2.toInt = x1.toInt) → Q (some (.int (Int32.ofInt 1))) h))) ∧ (¬ ((6 : Int) ≤ x3.toInt) → ((x2.toInt ≤ 0 → ((¬ x2.toInt = x1.toInt → Q (some (.int (Int32.ofInt 0))) h) ∧ (¬ (¬ x2.toInt = x1.toInt) → Q (some (.int (Int32.ofInt 1))) h))) ∧ (¬ (x2.toInt ≤ 0) → (((6 : Int) ≤ x2.toInt → ((¬ x2.toInt = x1.toInt → Q (some (.int (Int32.ofInt 0))) h) ∧ (¬ (¬ x2.toInt = x1.toInt) → Q (some (.int (Int32.ofInt 1))) h))) ∧ (¬ ((6 : Int) ≤ x2.toInt) → ((¬ x2.toInt = x1.toInt → (0 ≤ x2.toInt → x2.toInt < 6 → zQ n 3 4 [some (.int x0), some (.int x1), some (.int (zs0 x2.toInt.toNat)), some (.int (x3 + Int32.ofInt 1))] [] h Q)) ∧ (¬ (¬ x2.toInt = x1.toInt) → Q (some (.int (Int32.ofInt 1))) h))))))))) : zQ (n + 1) 3 4 [some (.int x0), some (.int x1), some (.int x2), some (.int x3)] [] h Q := by
  refine zQ_seqL 1 (pc' := 7) (L' := [some (.int x0), some (.int x1), some (.int x2), some (.int x3)]) (S' := [.int (Int32.ofInt 6), .int x3]) (h' := h) zp_3 rfl ?_
  refine zQ_ic zp_3 rfl (t := 39) rfl (i := x3.toInt) (j := (6 : Int)) rfl kc_6 (fun c1 => ?_) (fun c1 => ?_)
  · refine zQ_seq 2 (pc' := 41) (L' := [some (.int x0), some (.int x1), some (.int x2), some (.int x3)]) (S' := [.int x1, .int x2]) (h' := h) zp_3 rfl ?_
    refine zQ_ic zp_3 rfl (t := 48) rfl (i := x2.toInt) (j := x1.toInt) rfl rfl (fun c2 => ?_) (fun c2 => ?_)
    · refine zQ_seq 1 (pc' := 49) (L' := [some (.int x0), some (.int x1), some (.int x2), some (.int x3)]) (S' := [.int (Int32.ofInt 0)]) (h' := h) zp_3 rfl ?_
      exact zQ_retI zp_3 rfl ((H.1 c1).1 c2)
    · refine zQ_seq 1 (pc' := 45) (L' := [some (.int x0), some (.int x1), some (.int x2), some (.int x3)]) (S' := [.int (Int32.ofInt 1)]) (h' := h) zp_3 rfl ?_
      refine zQ_goto zp_3 rfl (t := 49) rfl ?_
      exact zQ_retI zp_3 rfl ((H.1 c1).2 c2)
  · refine zQ_seq 1 (pc' := 11) (L' := [some (.int x0), some (.int x1), some (.int x2), some (.int x3)]) (S' := [.int x2]) (h' := h) zp_3 rfl ?_
    refine zQ_if zp_3 rfl (t := 39) rfl (i := x2.toInt) rfl (fun c3 => ?_) (fun c3 => ?_)
    · refine zQ_seq 2 (pc' := 41) (L' := [some (.int x0), some (.int x1), some (.int x2), some (.int x3)]) (S' := [.int x1, .int x2]) (h' := h) zp_3 rfl ?_
      refine zQ_ic zp_3 rfl (t := 48) rfl (i := x2.toInt) (j := x1.toInt) rfl rfl (fun c4 => ?_) (fun c4 => ?_)
      · refine zQ_seq 1 (pc' := 49) (L' := [some (.int x0), some (.int x1), some (.int x2), some (.int x3)]) (S' := [.int (Int32.ofInt 0)]) (h' := h) zp_3 rfl ?_
        exact zQ_retI zp_3 rfl (((H.2 c1).1 c3).1 c4)
      · refine zQ_seq 1 (pc' := 45) (L' := [some (.int x0), some (.int x1), some (.int x2), some (.int x3)]) (S' := [.int (Int32.ofInt 1)]) (h' := h) zp_3 rfl ?_
        refine zQ_goto zp_3 rfl (t := 49) rfl ?_
        exact zQ_retI zp_3 rfl (((H.2 c1).1 c3).2 c4)
    · refine zQ_seq 2 (pc' := 17) (L' := [some (.int x0), some (.int x1), some (.int x2), some (.int x3)]) (S' := [.int (Int32.ofInt 6), .int x2]) (h' := h) zp_3 rfl ?_
      refine zQ_ic zp_3 rfl (t := 39) rfl (i := x2.toInt) (j := (6 : Int)) rfl kc_6 (fun c5 => ?_) (fun c5 => ?_)
      · refine zQ_seq 2 (pc' := 41) (L' := [some (.int x0), some (.int x1), some (.int x2), some (.int x3)]) (S' := [.int x1, .int x2]) (h' := h) zp_3 rfl ?_
        refine zQ_ic zp_3 rfl (t := 48) rfl (i := x2.toInt) (j := x1.toInt) rfl rfl (fun c6 => ?_) (fun c6 => ?_)
        · refine zQ_seq 1 (pc' := 49) (L' := [some (.int x0), some (.int x1), some (.int x2), some (.int x3)]) (S' := [.int (Int32.ofInt 0)]) (h' := h) zp_3 rfl ?_
          exact zQ_retI zp_3 rfl ((((H.2 c1).2 c3).1 c5).1 c6)
        · refine zQ_seq 1 (pc' := 45) (L' := [some (.int x0), some (.int x1), some (.int x2), some (.int x3)]) (S' := [.int (Int32.ofInt 1)]) (h' := h) zp_3 rfl ?_
          refine zQ_goto zp_3 rfl (t := 49) rfl ?_
          exact zQ_retI zp_3 rfl ((((H.2 c1).2 c3).1 c5).2 c6)
      · refine zQ_seq 2 (pc' := 22) (L' := [some (.int x0), some (.int x1), some (.int x2), some (.int x3)]) (S' := [.int x1, .int x2]) (h' := h) zp_3 rfl ?_
        refine zQ_ic zp_3 rfl (t := 27) rfl (i := x2.toInt) (j := x1.toInt) rfl rfl (fun c7 => ?_) (fun c7 => ?_)
        · refine zQ_seq 2 (pc' := 31) (L' := [some (.int x0), some (.int x1), some (.int x2), some (.int x3)]) (S' := [.int x2, .ref 900]) (h' := h) zp_3 rfl ?_
          refine zQ_ial (N := 6) (f := zs0) zp_3 rfl rfl rfl (fun b8 b8' => ?_)
          refine zQ_seq 2 (pc' := 36) (L' := [some (.int x0), some (.int x1), some (.int (zs0 x2.toInt.toNat)), some (.int (x3 + Int32.ofInt 1))]) (S' := []) (h' := h) zp_3 rfl ?_
          refine zQ_goto zp_3 rfl (t := 4) rfl ?_
          exact (((((H.2 c1).2 c3).2 c5).1 c7) b8 b8')
        · refine zQ_seq 1 (pc' := 26) (L' := [some (.int x0), some (.int x1), some (.int x2), some (.int x3)]) (S' := [.int (Int32.ofInt 1)]) (h' := h) zp_3 rfl ?_
          exact zQ_retI zp_3 rfl ((((H.2 c1).2 c3).2 c5).2 c7)
theorem s_4 {h : zH} {Q : Option Value → zH → Prop} (a2 : Int32) (a3 : Int32) (H : ((¬ a3.toInt = 0 → zqm 9 [.ref 15, .int a2] (zSet h 52 1 (Int32.ofInt 0)) (fun rv h2 => zri rv (fun v2 => zqm 6 [.ref 52, .ref 15, .int a2, .int v2, .int (Int32.ofInt 0)] h2 (fun rv h3 => zri rv (fun v3 => Q (some (.int v3)) h3))))) ∧ (¬ (¬ a3.toInt = 0) → zqm 8 [.ref 15, .int a2] (zSet h 52 1 (Int32.ofInt 0)) (fun rv h4 => zri rv (fun v4 => zqm 6 [.ref 52, .ref 15, .int a2, .int v4, .int (Int32.ofInt 0)] h4 (fun rv h5 => zri rv (fun v5 => Q (some (.int v5)) h5))))))) : zqm 4 [.ref 52, .ref 15, .int a2, .int a3] h Q := by
  refine zqm_of zp_4 (fun n => ?_)
  show zQ n 4 0 [some (.ref 52), some (.ref 15), some (.int a2), some (.int a3)] [] h Q
  refine zQ_seq 7 (pc' := 9) (L' := [some (.ref 52), some (.ref 15), some (.int a2), some (.int a3)]) (S' := [.int a3, .int a2, .ref 15, .ref 52]) (h' := (zSet h 52 1 (Int32.ofInt 0))) zp_4 rfl ?_
  refine zQ_if zp_4 rfl (t := 20) rfl (i := a3.toInt) rfl (fun c1 => ?_) (fun c1 => ?_)
  · refine zQ_seq 2 (pc' := 22) (L' := [some (.ref 52), some (.ref 15), some (.int a2), some (.int a3)]) (S' := [.int a2, .ref 15, .int a2, .ref 15, .ref 52]) (h' := (zSet h 52 1 (Int32.ofInt 0))) zp_4 rfl ?_
    refine zQ_csI (M' := 9) (as := [.ref 15, .int a2]) (S' := [.int a2, .ref 15, .ref 52]) zp_4 rfl rfl rfl zp_9 (Or.inl rfl) rfl rfl (zqm_imp (H.1 c1) (fun rv h2 r2 => zri_imp r2 (fun v2 r2' => ?_)))
    refine zQ_seq 1 (pc' := 26) (L' := [some (.ref 52), some (.ref 15), some (.int a2), some (.int a3)]) (S' := [.int (Int32.ofInt 0), .int v2, .int a2, .ref 15, .ref 52]) (h' := h2) zp_4 rfl ?_
    refine zQ_cvI (M' := 6) (as := [.ref 52, .ref 15, .int a2, .int v2, .int (Int32.ofInt 0)]) (S' := []) zp_4 rfl rfl zp_6 (Or.inl rfl) rfl rfl (zqm_imp r2' (fun rv h3 r3 => zri_imp r3 (fun v3 r3' => ?_)))
    exact zQ_retI zp_4 rfl r3'
  · refine zQ_seq 2 (pc' := 14) (L' := [some (.ref 52), some (.ref 15), some (.int a2), some (.int a3)]) (S' := [.int a2, .ref 15, .int a2, .ref 15, .ref 52]) (h' := (zSet h 52 1 (Int32.ofInt 0))) zp_4 rfl ?_
    refine zQ_csI (M' := 8) (as := [.ref 15, .int a2]) (S' := [.int a2, .ref 15, .ref 52]) zp_4 rfl rfl rfl zp_8 (Or.inl rfl) rfl rfl (zqm_imp (H.2 c1) (fun rv h4 r4 => zri_imp r4 (fun v4 r4' => ?_)))
    refine zQ_goto zp_4 rfl (t := 25) rfl ?_
    refine zQ_seq 1 (pc' := 26) (L' := [some (.ref 52), some (.ref 15), some (.int a2), some (.int a3)]) (S' := [.int (Int32.ofInt 0), .int v4, .int a2, .ref 15, .ref 52]) (h' := h4) zp_4 rfl ?_
    refine zQ_cvI (M' := 6) (as := [.ref 52, .ref 15, .int a2, .int v4, .int (Int32.ofInt 0)]) (S' := []) zp_4 rfl rfl zp_6 (Or.inl rfl) rfl rfl (zqm_imp r4' (fun rv h5 r5 => zri_imp r5 (fun v5 r5' => ?_)))
    exact zQ_retI zp_4 rfl r5'
theorem s_5 {h : zH} {Q : Option Value → zH → Prop} (a1 : Int32) (H : ((a1.toInt < 0 → Q (some (.int (-1000000 : Int32))) h) ∧ (¬ (a1.toInt < 0) → (((h.1 52 1).toInt ≤ a1.toInt → Q (some (.int (-1000000 : Int32))) h) ∧ (¬ ((h.1 52 1).toInt ≤ a1.toInt) → (((16 : Int) ≤ a1.toInt → Q (some (.int (-1000000 : Int32))) h) ∧ (¬ ((16 : Int) ≤ a1.toInt) → (0 ≤ a1.toInt → a1.toInt < 16 → Q (some (.int (h.1 53 a1.toInt.toNat))) h)))))))) : zqm 5 [.ref 52, .int a1] h Q := by
  refine zqm_of zp_5 (fun n => ?_)
  show zQ n 5 0 [some (.ref 52), some (.int a1)] [] h Q
  refine zQ_seq 1 (pc' := 1) (L' := [some (.ref 52), some (.int a1)]) (S' := [.int a1]) (h' := h) zp_5 rfl ?_
  refine zQ_if zp_5 rfl (t := 27) rfl (i := a1.toInt) rfl (fun c1 => ?_) (fun c1 => ?_)
  · refine zQ_seq 1 (pc' := 29) (L' := [some (.ref 52), some (.int a1)]) (S' := [.int (-1000000 : Int32)]) (h' := h) zp_5 rfl ?_
    exact zQ_retI zp_5 rfl (H.1 c1)
  · refine zQ_seq 3 (pc' := 9) (L' := [some (.ref 52), some (.int a1)]) (S' := [.int (h.1 52 1), .int a1]) (h' := h) zp_5 rfl ?_
    refine zQ_ic zp_5 rfl (t := 27) rfl (i := a1.toInt) (j := (h.1 52 1).toInt) rfl rfl (fun c2 => ?_) (fun c2 => ?_)
    · refine zQ_seq 1 (pc' := 29) (L' := [some (.ref 52), some (.int a1)]) (S' := [.int (-1000000 : Int32)]) (h' := h) zp_5 rfl ?_
      exact zQ_retI zp_5 rfl ((H.2 c1).1 c2)
    · refine zQ_seq 2 (pc' := 15) (L' := [some (.ref 52), some (.int a1)]) (S' := [.int (Int32.ofInt 16), .int a1]) (h' := h) zp_5 rfl ?_
      refine zQ_ic zp_5 rfl (t := 27) rfl (i := a1.toInt) (j := (16 : Int)) rfl kc_16 (fun c3 => ?_) (fun c3 => ?_)
      · refine zQ_seq 1 (pc' := 29) (L' := [some (.ref 52), some (.int a1)]) (S' := [.int (-1000000 : Int32)]) (h' := h) zp_5 rfl ?_
        exact zQ_retI zp_5 rfl (((H.2 c1).2 c2).1 c3)
      · refine zQ_seq 3 (pc' := 23) (L' := [some (.ref 52), some (.int a1)]) (S' := [.int a1, .ref 53]) (h' := h) zp_5 rfl ?_
        refine zQ_ial (N := 16) (f := h.1 53) zp_5 rfl rfl rfl (fun b4 b4' => ?_)
        refine zQ_goto zp_5 rfl (t := 29) rfl ?_
        exact zQ_retI zp_5 rfl ((((H.2 c1).2 c2).2 c3) b4 b4')
theorem s_6 {h : zH} {Q : Option Value → zH → Prop} (a2 : Int32) (a3 : Int32) (a4 : Int32) (H : (((12 : Int) < a4.toInt → Q (some (.int (Int32.ofInt 0))) h) ∧ (¬ ((12 : Int) < a4.toInt) → zqm 20 [.ref 15, .int a2] h (fun rv h2 => zri rv (fun v2 => ((¬ v2.toInt = 0 → zqm 7 [.ref 52, .int a3] h2 (fun _ h4 => ((a3.toInt = 10 → zqm 25 [.ref 15] h4 (fun rv h6 => zri rv (fun v6 => zqm 17 [.ref 15, .int a2, .int v6] h6 (fun rv h7 => zri rv (fun v7 => Q (some (.int v7)) h7))))) ∧ ((a3.toInt = 11 → zqm 6 [.ref 52, .ref 15, .int a2, .int (Int32.ofInt 10), .int (a4 + (Int32.ofInt 1))] h4 (fun rv h8 => zri rv (fun v8 => zqm 9 [.ref 15, .int a2] h8 (fun rv h9 => zri rv (fun v9 => zqm 6 [.ref 52, .ref 15, .int a2, .int v9, .int (a4 + (Int32.ofInt 1))] h9 (fun rv h10 => zri rv (fun v10 => Q (some (.int (v8 + v10))) h10))))))) ∧ ((a3.toInt = 12 → zqm 6 [.ref 52, .ref 15, .int a2, .int (Int32.ofInt 11), .int (a4 + (Int32.ofInt 1))] h4 (fun rv h11 => zri rv (fun v11 => Q (some (.int (-v11))) h11))) ∧ ((a3.toInt = 13 → zqm 6 [.ref 52, .ref 15, .int a2, .int (Int32.ofInt 10), .int (a4 + (Int32.ofInt 1))] h4 (fun rv h12 => zri rv (fun v12 => Q (some (.int (v12 - (Int32.ofInt 100)))) h12))) ∧ ((a3.toInt = 14 → zqm 6 [.ref 52, .ref 15, .int a2, .int (Int32.ofInt 13), .int (a4 + (Int32.ofInt 1))] h4 (fun rv h13 => zri rv (fun v13 => Q (some (.int ((Int32.ofInt 2) * v13))) h13))) ∧ ((a3.toInt = 15 → Q (some (.int (Int32.ofInt 0))) h4) ∧ ((a3.toInt = 16 → Q (some (.int (Int32.ofInt 0))) h4) ∧ ((a3.toInt = 17 → Q (some (.int (Int32.ofInt 0))) h4) ∧ ((a3.toInt = 18 → Q (some (.int (Int32.ofInt 0))) h4) ∧ ((a3.toInt = 19 → Q (some (.int (Int32.ofInt 0))) h4) ∧ ((a3.toInt = 20 → Q (some (.int a2)) h4) ∧ ((a3.toInt = 21 → zqm 6 [.ref 52, .ref 15, .int a2, .int (Int32.ofInt 20), .int (a4 + (Int32.ofInt 1))] h4 (fun rv h14 => zri rv (fun v14 => (0 ≤ a2.toInt → a2.toInt < 4 → Q (some (.int (v14 + (h14.1 19 a2.toInt.toNat)))) h14)))) ∧ ((a3.toInt = 22 → zqm 6 [.ref 52, .ref 15, .int a2, .int (Int32.ofInt 21), .int (a4 + (Int32.ofInt 1))] h4 (fun rv h16 => zri rv (fun v16 => Q (some (.int (v16 - (Int32.ofInt 1000)))) h16))) ∧ ((a3.toInt = 23 → zqm 6 [.ref 52, .ref 15, .int a2, .int (Int32.ofInt 20), .int (a4 + (Int32.ofInt 1))] h4 (fun rv h17 => zri rv (fun v17 => zqm 8 [.ref 15, .int a2] h17 (fun rv h18 => zri rv (fun v18 => zqm 6 [.ref 52, .ref 15, .int a2, .int v18, .int (a4 + (Int32.ofInt 1))] h18 (fun rv h19 => zri rv (fun v19 => Q (some (.int (v17 - v19))) h19))))))) ∧ ((a3.toInt = 24 → zqm 6 [.ref 52, .ref 15, .int a2, .int (Int32.ofInt 21), .int (a4 + (Int32.ofInt 1))] h4 (fun rv h20 => zri rv (fun v20 => Q (some (.int ((Int32.ofInt 2) * v20))) h20))) ∧ ((a3.toInt < 10 ∨ 24 < a3.toInt) → Q (some (.int (Int32.ofInt 0))) h4)))))))))))))))))) ∧ (¬ (¬ v2.toInt = 0) → Q (some (.int (Int32.ofInt 0))) h2))))))) : zqm 6 [.ref 52, .ref 15, .int a2, .int a3, .int a4] h Q := by
  refine zqm_of zp_6 (fun n => ?_)
  show zQ n 6 0 [some (.ref 52), some (.ref 15), some (.int a2), some (.int a3), some (.int a4), none] [] h Q
  refine zQ_seq 2 (pc' := 4) (L' := [some (.ref 52), some (.ref 15), some (.int a2), some (.int a3), some (.int a4), none]) (S' := [.int (Int32.ofInt 12), .int a4]) (h' := h) zp_6 rfl ?_
  refine zQ_ic zp_6 rfl (t := 15) rfl (i := a4.toInt) (j := (12 : Int)) rfl kc_12 (fun c1 => ?_) (fun c1 => ?_)
  · refine zQ_seq 1 (pc' := 16) (L' := [some (.ref 52), some (.ref 15), some (.int a2), some (.int a3), some (.int a4), none]) (S' := [.int (Int32.ofInt 0)]) (h' := h) zp_6 rfl ?_
    exact zQ_retI zp_6 rfl (H.1 c1)
  · refine zQ_seq 2 (pc' := 9) (L' := [some (.ref 52), some (.ref 15), some (.int a2), some (.int a3), some (.int a4), none]) (S' := [.int a2, .ref 15]) (h' := h) zp_6 rfl ?_
    refine zQ_cvI (M' := 20) (as := [.ref 15, .int a2]) (S' := []) zp_6 rfl rfl zp_20 (Or.inr rfl) rfl rfl (zqm_imp (H.2 c1) (fun rv h2 r2 => zri_imp r2 (fun v2 r2' => ?_)))
    refine zQ_if zp_6 rfl (t := 17) rfl (i := v2.toInt) rfl (fun c3 => ?_) (fun c3 => ?_)
    · refine zQ_seq 2 (pc' := 19) (L' := [some (.ref 52), some (.ref 15), some (.int a2), some (.int a3), some (.int a4), none]) (S' := [.int a3, .ref 52]) (h' := h2) zp_6 rfl ?_
      refine zQ_cvV (M' := 7) (as := [.ref 52, .int a3]) (S' := []) zp_6 rfl rfl zp_7 rfl rfl rfl (zqm_imp (r2'.1 c3) (fun rv h4 r4 => ?_))
      refine zQ_seq 5 (pc' := 29) (L' := [some (.ref 52), some (.ref 15), some (.int a2), some (.int a3), some (.int a4), some (.int (a4 + (Int32.ofInt 1)))]) (S' := [.int a3]) (h' := h4) zp_6 rfl ?_
      refine zQ_tsw zp_6 rfl (fun t ht => ?_)
      rcases (by omega : a3.toInt = 10 ∨ a3.toInt = 11 ∨ a3.toInt = 12 ∨ a3.toInt = 13 ∨ a3.toInt = 14 ∨ a3.toInt = 15 ∨ a3.toInt = 16 ∨ a3.toInt = 17 ∨ a3.toInt = 18 ∨ a3.toInt = 19 ∨ a3.toInt = 20 ∨ a3.toInt = 21 ∨ a3.toInt = 22 ∨ a3.toInt = 23 ∨ a3.toInt = 24 ∨ (a3.toInt < 10 ∨ 24 < a3.toInt)) with c5 | c5 | c5 | c5 | c5 | c5 | c5 | c5 | c5 | c5 | c5 | c5 | c5 | c5 | c5 | c5
      · have e : (some 104 : Option Nat) = some t := by rw [c5] at ht; exact ht
        cases e
        refine zQ_seq 3 (pc' := 107) (L' := [some (.ref 52), some (.ref 15), some (.int a2), some (.int a3), some (.int a4), some (.int (a4 + (Int32.ofInt 1)))]) (S' := [.ref 15, .int a2, .ref 15]) (h' := h4) zp_6 rfl ?_
        refine zQ_cvI (M' := 25) (as := [.ref 15]) (S' := [.int a2, .ref 15]) zp_6 rfl rfl zp_25 (Or.inl rfl) rfl rfl (zqm_imp (r4.1 c5) (fun rv h6 r6 => zri_imp r6 (fun v6 r6' => ?_)))
        refine zQ_cvI (M' := 17) (as := [.ref 15, .int a2, .int v6]) (S' := []) zp_6 rfl rfl zp_17 (Or.inl rfl) rfl rfl (zqm_imp r6' (fun rv h7 r7 => zri_imp r7 (fun v7 r7' => ?_)))
        exact zQ_retI zp_6 rfl r7'
      · have e : (some 114 : Option Nat) = some t := by rw [c5] at ht; exact ht
        cases e
        refine zQ_seq 5 (pc' := 121) (L' := [some (.ref 52), some (.ref 15), some (.int a2), some (.int a3), some (.int a4), some (.int (a4 + (Int32.ofInt 1)))]) (S' := [.int (a4 + (Int32.ofInt 1)), .int (Int32.ofInt 10), .int a2, .ref 15, .ref 52]) (h' := h4) zp_6 rfl ?_
        refine zQ_cvI (M' := 6) (as := [.ref 52, .ref 15, .int a2, .int (Int32.ofInt 10), .int (a4 + (Int32.ofInt 1))]) (S' := []) zp_6 rfl rfl zp_6 (Or.inl rfl) rfl rfl (zqm_imp (r4.2.1 c5) (fun rv h8 r8 => zri_imp r8 (fun v8 r8' => ?_)))
        refine zQ_seq 5 (pc' := 129) (L' := [some (.ref 52), some (.ref 15), some (.int a2), some (.int a3), some (.int a4), some (.int (a4 + (Int32.ofInt 1)))]) (S' := [.int a2, .ref 15, .int a2, .ref 15, .ref 52, .int v8]) (h' := h8) zp_6 rfl ?_
        refine zQ_csI (M' := 9) (as := [.ref 15, .int a2]) (S' := [.int a2, .ref 15, .ref 52, .int v8]) zp_6 rfl rfl rfl zp_9 (Or.inl rfl) rfl rfl (zqm_imp r8' (fun rv h9 r9 => zri_imp r9 (fun v9 r9' => ?_)))
        refine zQ_seq 1 (pc' := 134) (L' := [some (.ref 52), some (.ref 15), some (.int a2), some (.int a3), some (.int a4), some (.int (a4 + (Int32.ofInt 1)))]) (S' := [.int (a4 + (Int32.ofInt 1)), .int v9, .int a2, .ref 15, .ref 52, .int v8]) (h' := h9) zp_6 rfl ?_
        refine zQ_cvI (M' := 6) (as := [.ref 52, .ref 15, .int a2, .int v9, .int (a4 + (Int32.ofInt 1))]) (S' := [.int v8]) zp_6 rfl rfl zp_6 (Or.inl rfl) rfl rfl (zqm_imp r9' (fun rv h10 r10 => zri_imp r10 (fun v10 r10' => ?_)))
        refine zQ_seq 1 (pc' := 138) (L' := [some (.ref 52), some (.ref 15), some (.int a2), some (.int a3), some (.int a4), some (.int (a4 + (Int32.ofInt 1)))]) (S' := [.int (v8 + v10)]) (h' := h10) zp_6 rfl ?_
        exact zQ_retI zp_6 rfl r10'
      · have e : (some 139 : Option Nat) = some t := by rw [c5] at ht; exact ht
        cases e
        refine zQ_seq 5 (pc' := 146) (L' := [some (.ref 52), some (.ref 15), some (.int a2), some (.int a3), some (.int a4), some (.int (a4 + (Int32.ofInt 1)))]) (S' := [.int (a4 + (Int32.ofInt 1)), .int (Int32.ofInt 11), .int a2, .ref 15, .ref 52]) (h' := h4) zp_6 rfl ?_
        refine zQ_cvI (M' := 6) (as := [.ref 52, .ref 15, .int a2, .int (Int32.ofInt 11), .int (a4 + (Int32.ofInt 1))]) (S' := []) zp_6 rfl rfl zp_6 (Or.inl rfl) rfl rfl (zqm_imp (r4.2.2.1 c5) (fun rv h11 r11 => zri_imp r11 (fun v11 r11' => ?_)))
        refine zQ_seq 1 (pc' := 150) (L' := [some (.ref 52), some (.ref 15), some (.int a2), some (.int a3), some (.int a4), some (.int (a4 + (Int32.ofInt 1)))]) (S' := [.int (-v11)]) (h' := h11) zp_6 rfl ?_
        exact zQ_retI zp_6 rfl r11'
      · have e : (some 151 : Option Nat) = some t := by rw [c5] at ht; exact ht
        cases e
        refine zQ_seq 5 (pc' := 158) (L' := [some (.ref 52), some (.ref 15), some (.int a2), some (.int a3), some (.int a4), some (.int (a4 + (Int32.ofInt 1)))]) (S' := [.int (a4 + (Int32.ofInt 1)), .int (Int32.ofInt 10), .int a2, .ref 15, .ref 52]) (h' := h4) zp_6 rfl ?_
        refine zQ_cvI (M' := 6) (as := [.ref 52, .ref 15, .int a2, .int (Int32.ofInt 10), .int (a4 + (Int32.ofInt 1))]) (S' := []) zp_6 rfl rfl zp_6 (Or.inl rfl) rfl rfl (zqm_imp (r4.2.2.2.1 c5) (fun rv h12 r12 => zri_imp r12 (fun v12 r12' => ?_)))
        refine zQ_seq 2 (pc' := 164) (L' := [some (.ref 52), some (.ref 15), some (.int a2), some (.int a3), some (.int a4), some (.int (a4 + (Int32.ofInt 1)))]) (S' := [.int (v12 - (Int32.ofInt 100))]) (h' := h12) zp_6 rfl ?_
        exact zQ_retI zp_6 rfl r12'
      · have e : (some 165 : Option Nat) = some t := by rw [c5] at ht; exact ht
        cases e
        refine zQ_seq 6 (pc' := 173) (L' := [some (.ref 52), some (.ref 15), some (.int a2), some (.int a3), some (.int a4), some (.int (a4 + (Int32.ofInt 1)))]) (S' := [.int (a4 + (Int32.ofInt 1)), .int (Int32.ofInt 13), .int a2, .ref 15, .ref 52, .int (Int32.ofInt 2)]) (h' := h4) zp_6 rfl ?_
        refine zQ_cvI (M' := 6) (as := [.ref 52, .ref 15, .int a2, .int (Int32.ofInt 13), .int (a4 + (Int32.ofInt 1))]) (S' := [.int (Int32.ofInt 2)]) zp_6 rfl rfl zp_6 (Or.inl rfl) rfl rfl (zqm_imp (r4.2.2.2.2.1 c5) (fun rv h13 r13 => zri_imp r13 (fun v13 r13' => ?_)))
        refine zQ_seq 1 (pc' := 177) (L' := [some (.ref 52), some (.ref 15), some (.int a2), some (.int a3), some (.int a4), some (.int (a4 + (Int32.ofInt 1)))]) (S' := [.int ((Int32.ofInt 2) * v13)]) (h' := h13) zp_6 rfl ?_
        exact zQ_retI zp_6 rfl r13'
      · have e : (some 251 : Option Nat) = some t := by rw [c5] at ht; exact ht
        cases e
        refine zQ_seq 1 (pc' := 252) (L' := [some (.ref 52), some (.ref 15), some (.int a2), some (.int a3), some (.int a4), some (.int (a4 + (Int32.ofInt 1)))]) (S' := [.int (Int32.ofInt 0)]) (h' := h4) zp_6 rfl ?_
        exact zQ_retI zp_6 rfl (r4.2.2.2.2.2.1 c5)
      · have e : (some 251 : Option Nat) = some t := by rw [c5] at ht; exact ht
        cases e
        refine zQ_seq 1 (pc' := 252) (L' := [some (.ref 52), some (.ref 15), some (.int a2), some (.int a3), some (.int a4), some (.int (a4 + (Int32.ofInt 1)))]) (S' := [.int (Int32.ofInt 0)]) (h' := h4) zp_6 rfl ?_
        exact zQ_retI zp_6 rfl (r4.2.2.2.2.2.2.1 c5)
      · have e : (some 251 : Option Nat) = some t := by rw [c5] at ht; exact ht
        cases e
        refine zQ_seq 1 (pc' := 252) (L' := [some (.ref 52), some (.ref 15), some (.int a2), some (.int a3), some (.int a4), some (.int (a4 + (Int32.ofInt 1)))]) (S' := [.int (Int32.ofInt 0)]) (h' := h4) zp_6 rfl ?_
        exact zQ_retI zp_6 rfl (r4.2.2.2.2.2.2.2.1 c5)
      · have e : (some 251 : Option Nat) = some t := by rw [c5] at ht; exact ht
        cases e
        refine zQ_seq 1 (pc' := 252) (L' := [some (.ref 52), some (.ref 15), some (.int a2), some (.int a3), some (.int a4), some (.int (a4 + (Int32.ofInt 1)))]) (S' := [.int (Int32.ofInt 0)]) (h' := h4) zp_6 rfl ?_
        exact zQ_retI zp_6 rfl (r4.2.2.2.2.2.2.2.2.1 c5)
      · have e : (some 251 : Option Nat) = some t := by rw [c5] at ht; exact ht
        cases e
        refine zQ_seq 1 (pc' := 252) (L' := [some (.ref 52), some (.ref 15), some (.int a2), some (.int a3), some (.int a4), some (.int (a4 + (Int32.ofInt 1)))]) (S' := [.int (Int32.ofInt 0)]) (h' := h4) zp_6 rfl ?_
        exact zQ_retI zp_6 rfl (r4.2.2.2.2.2.2.2.2.2.1 c5)
      · have e : (some 178 : Option Nat) = some t := by rw [c5] at ht; exact ht
        cases e
        refine zQ_seq 1 (pc' := 179) (L' := [some (.ref 52), some (.ref 15), some (.int a2), some (.int a3), some (.int a4), some (.int (a4 + (Int32.ofInt 1)))]) (S' := [.int a2]) (h' := h4) zp_6 rfl ?_
        exact zQ_retI zp_6 rfl (r4.2.2.2.2.2.2.2.2.2.2.1 c5)
      · have e : (some 180 : Option Nat) = some t := by rw [c5] at ht; exact ht
        cases e
        refine zQ_seq 5 (pc' := 187) (L' := [some (.ref 52), some (.ref 15), some (.int a2), some (.int a3), some (.int a4), some (.int (a4 + (Int32.ofInt 1)))]) (S' := [.int (a4 + (Int32.ofInt 1)), .int (Int32.ofInt 20), .int a2, .ref 15, .ref 52]) (h' := h4) zp_6 rfl ?_
        refine zQ_cvI (M' := 6) (as := [.ref 52, .ref 15, .int a2, .int (Int32.ofInt 20), .int (a4 + (Int32.ofInt 1))]) (S' := []) zp_6 rfl rfl zp_6 (Or.inl rfl) rfl rfl (zqm_imp (r4.2.2.2.2.2.2.2.2.2.2.2.1 c5) (fun rv h14 r14 => zri_imp r14 (fun v14 r14' => ?_)))
        refine zQ_seq 3 (pc' := 195) (L' := [some (.ref 52), some (.ref 15), some (.int a2), some (.int a3), some (.int a4), some (.int (a4 + (Int32.ofInt 1)))]) (S' := [.int a2, .ref 19, .int v14]) (h' := h14) zp_6 rfl ?_
        refine zQ_ial (N := 4) (f := h14.1 19) zp_6 rfl rfl rfl (fun b15 b15' => ?_)
        refine zQ_seq 1 (pc' := 197) (L' := [some (.ref 52), some (.ref 15), some (.int a2), some (.int a3), some (.int a4), some (.int (a4 + (Int32.ofInt 1)))]) (S' := [.int (v14 + (h14.1 19 a2.toInt.toNat))]) (h' := h14) zp_6 rfl ?_
        exact zQ_retI zp_6 rfl (r14' b15 b15')
      · have e : (some 198 : Option Nat) = some t := by rw [c5] at ht; exact ht
        cases e
        refine zQ_seq 5 (pc' := 205) (L' := [some (.ref 52), some (.ref 15), some (.int a2), some (.int a3), some (.int a4), some (.int (a4 + (Int32.ofInt 1)))]) (S' := [.int (a4 + (Int32.ofInt 1)), .int (Int32.ofInt 21), .int a2, .ref 15, .ref 52]) (h' := h4) zp_6 rfl ?_
        refine zQ_cvI (M' := 6) (as := [.ref 52, .ref 15, .int a2, .int (Int32.ofInt 21), .int (a4 + (Int32.ofInt 1))]) (S' := []) zp_6 rfl rfl zp_6 (Or.inl rfl) rfl rfl (zqm_imp (r4.2.2.2.2.2.2.2.2.2.2.2.2.1 c5) (fun rv h16 r16 => zri_imp r16 (fun v16 r16' => ?_)))
        refine zQ_seq 2 (pc' := 212) (L' := [some (.ref 52), some (.ref 15), some (.int a2), some (.int a3), some (.int a4), some (.int (a4 + (Int32.ofInt 1)))]) (S' := [.int (v16 - (Int32.ofInt 1000))]) (h' := h16) zp_6 rfl ?_
        exact zQ_retI zp_6 rfl r16'
      · have e : (some 213 : Option Nat) = some t := by rw [c5] at ht; exact ht
        cases e
        refine zQ_seq 5 (pc' := 220) (L' := [some (.ref 52), some (.ref 15), some (.int a2), some (.int a3), some (.int a4), some (.int (a4 + (Int32.ofInt 1)))]) (S' := [.int (a4 + (Int32.ofInt 1)), .int (Int32.ofInt 20), .int a2, .ref 15, .ref 52]) (h' := h4) zp_6 rfl ?_
        refine zQ_cvI (M' := 6) (as := [.ref 52, .ref 15, .int a2, .int (Int32.ofInt 20), .int (a4 + (Int32.ofInt 1))]) (S' := []) zp_6 rfl rfl zp_6 (Or.inl rfl) rfl rfl (zqm_imp (r4.2.2.2.2.2.2.2.2.2.2.2.2.2.1 c5) (fun rv h17 r17 => zri_imp r17 (fun v17 r17' => ?_)))
        refine zQ_seq 5 (pc' := 228) (L' := [some (.ref 52), some (.ref 15), some (.int a2), some (.int a3), some (.int a4), some (.int (a4 + (Int32.ofInt 1)))]) (S' := [.int a2, .ref 15, .int a2, .ref 15, .ref 52, .int v17]) (h' := h17) zp_6 rfl ?_
        refine zQ_csI (M' := 8) (as := [.ref 15, .int a2]) (S' := [.int a2, .ref 15, .ref 52, .int v17]) zp_6 rfl rfl rfl zp_8 (Or.inl rfl) rfl rfl (zqm_imp r17' (fun rv h18 r18 => zri_imp r18 (fun v18 r18' => ?_)))
        refine zQ_seq 1 (pc' := 233) (L' := [some (.ref 52), some (.ref 15), some (.int a2), some (.int a3), some (.int a4), some (.int (a4 + (Int32.ofInt 1)))]) (S' := [.int (a4 + (Int32.ofInt 1)), .int v18, .int a2, .ref 15, .ref 52, .int v17]) (h' := h18) zp_6 rfl ?_
        refine zQ_cvI (M' := 6) (as := [.ref 52, .ref 15, .int a2, .int v18, .int (a4 + (Int32.ofInt 1))]) (S' := [.int v17]) zp_6 rfl rfl zp_6 (Or.inl rfl) rfl rfl (zqm_imp r18' (fun rv h19 r19 => zri_imp r19 (fun v19 r19' => ?_)))
        refine zQ_seq 1 (pc' := 237) (L' := [some (.ref 52), some (.ref 15), some (.int a2), some (.int a3), some (.int a4), some (.int (a4 + (Int32.ofInt 1)))]) (S' := [.int (v17 - v19)]) (h' := h19) zp_6 rfl ?_
        exact zQ_retI zp_6 rfl r19'
      · have e : (some 238 : Option Nat) = some t := by rw [c5] at ht; exact ht
        cases e
        refine zQ_seq 6 (pc' := 246) (L' := [some (.ref 52), some (.ref 15), some (.int a2), some (.int a3), some (.int a4), some (.int (a4 + (Int32.ofInt 1)))]) (S' := [.int (a4 + (Int32.ofInt 1)), .int (Int32.ofInt 21), .int a2, .ref 15, .ref 52, .int (Int32.ofInt 2)]) (h' := h4) zp_6 rfl ?_
        refine zQ_cvI (M' := 6) (as := [.ref 52, .ref 15, .int a2, .int (Int32.ofInt 21), .int (a4 + (Int32.ofInt 1))]) (S' := [.int (Int32.ofInt 2)]) zp_6 rfl rfl zp_6 (Or.inl rfl) rfl rfl (zqm_imp (r4.2.2.2.2.2.2.2.2.2.2.2.2.2.2.1 c5) (fun rv h20 r20 => zri_imp r20 (fun v20 r20' => ?_)))
        refine zQ_seq 1 (pc' := 250) (L' := [some (.ref 52), some (.ref 15), some (.int a2), some (.int a3), some (.int a4), some (.int (a4 + (Int32.ofInt 1)))]) (S' := [.int ((Int32.ofInt 2) * v20)]) (h' := h20) zp_6 rfl ?_
        exact zQ_retI zp_6 rfl r20'
      · have e : (some 251 : Option Nat) = some t := by rw [zTsw_d (t' := 251) rfl c5 ht]
        cases e
        refine zQ_seq 1 (pc' := 252) (L' := [some (.ref 52), some (.ref 15), some (.int a2), some (.int a3), some (.int a4), some (.int (a4 + (Int32.ofInt 1)))]) (S' := [.int (Int32.ofInt 0)]) (h' := h4) zp_6 rfl ?_
        exact zQ_retI zp_6 rfl (r4.2.2.2.2.2.2.2.2.2.2.2.2.2.2.2 c5)
    · refine zQ_seq 1 (pc' := 16) (L' := [some (.ref 52), some (.ref 15), some (.int a2), some (.int a3), some (.int a4), none]) (S' := [.int (Int32.ofInt 0)]) (h' := h2) zp_6 rfl ?_
      exact zQ_retI zp_6 rfl (r2'.2 c3)
theorem s_7 {h : zH} {Q : Option Value → zH → Prop} (a1 : Int32) (H : (((16 : Int) ≤ (h.1 52 1).toInt → Q none h) ∧ (¬ ((16 : Int) ≤ (h.1 52 1).toInt) → (0 ≤ (h.1 52 1).toInt → (h.1 52 1).toInt < 16 → Q none (zSet (zSet h 53 (h.1 52 1).toInt.toNat a1) 52 1 ((h.1 52 1) + (Int32.ofInt 1))))))) : zqm 7 [.ref 52, .int a1] h Q := by
  refine zqm_of zp_7 (fun n => ?_)
  show zQ n 7 0 [some (.ref 52), some (.int a1)] [] h Q
  refine zQ_seq 3 (pc' := 6) (L' := [some (.ref 52), some (.int a1)]) (S' := [.int (Int32.ofInt 16), .int (h.1 52 1)]) (h' := h) zp_7 rfl ?_
  refine zQ_ic zp_7 rfl (t := 29) rfl (i := (h.1 52 1).toInt) (j := (16 : Int)) rfl kc_16 (fun c1 => ?_) (fun c1 => ?_)
  · exact zQ_retV zp_7 rfl (H.1 c1)
  · refine zQ_seq 5 (pc' := 18) (L' := [some (.ref 52), some (.int a1)]) (S' := [.int a1, .int (h.1 52 1), .ref 53]) (h' := h) zp_7 rfl ?_
    refine zQ_ias (N := 16) zp_7 rfl rfl rfl (fun b2 b2' => ?_)
    refine zQ_seq 6 (pc' := 29) (L' := [some (.ref 52), some (.int a1)]) (S' := []) (h' := (zSet (zSet h 53 (h.1 52 1).toInt.toNat a1) 52 1 ((h.1 52 1) + (Int32.ofInt 1)))) zp_7 rfl ?_
    exact zQ_retV zp_7 rfl ((H.2 c1) b2 b2')
theorem s_8 {h : zH} {Q : Option Value → zH → Prop} (a1 : Int32) (H : zqm 20 [.ref 15, .int a1] h (fun rv h1 => zri rv (fun v1 => ((v1.toInt = 0 → (((0 : Int) < 0 → Q (some (.int (Int32.ofInt 10))) h1) ∧ (¬ ((0 : Int) < 0) → (((6 : Int) ≤ (0 : Int) → Q (some (.int (Int32.ofInt 10))) h1) ∧ (¬ ((6 : Int) ≤ (0 : Int)) → Q (some (.int (zs1 0))) h1))))) ∧ (¬ (v1.toInt = 0) → (0 ≤ a1.toInt → a1.toInt < 4 → (((h1.1 17 a1.toInt.toNat).toInt < 0 → Q (some (.int (Int32.ofInt 10))) h1) ∧ (¬ ((h1.1 17 a1.toInt.toNat).toInt < 0) → (((6 : Int) ≤ (h1.1 17 a1.toInt.toNat).toInt → Q (some (.int (Int32.ofInt 10))) h1) ∧ (¬ ((6 : Int) ≤ (h1.1 17 a1.toInt.toNat).toInt) → (0 ≤ (h1.1 17 a1.toInt.toNat).toInt → (h1.1 17 a1.toInt.toNat).toInt < 6 → Q (some (.int (zs1 (h1.1 17 a1.toInt.toNat).toInt.toNat))) h1))))))))))) : zqm 8 [.ref 15, .int a1] h Q := by
  refine zqm_of zp_8 (fun n => ?_)
  show zQ n 8 0 [some (.ref 15), some (.int a1), none] [] h Q
  refine zQ_seq 2 (pc' := 2) (L' := [some (.ref 15), some (.int a1), none]) (S' := [.int a1, .ref 15]) (h' := h) zp_8 rfl ?_
  refine zQ_cvI (M' := 20) (as := [.ref 15, .int a1]) (S' := []) zp_8 rfl rfl zp_20 (Or.inr rfl) rfl rfl (zqm_imp H (fun rv h1 r1 => zri_imp r1 (fun v1 r1' => ?_)))
  refine zQ_if zp_8 rfl (t := 17) rfl (i := v1.toInt) rfl (fun c2 => ?_) (fun c2 => ?_)
  · refine zQ_seq 3 (pc' := 20) (L' := [some (.ref 15), some (.int a1), some (.int (Int32.ofInt 0))]) (S' := [.int (Int32.ofInt 0)]) (h' := h1) zp_8 rfl ?_
    refine zQ_if zp_8 rfl (t := 37) rfl (i := (0 : Int)) kc_0 (fun c3 => ?_) (fun c3 => ?_)
    · refine zQ_seq 1 (pc' := 39) (L' := [some (.ref 15), some (.int a1), some (.int (Int32.ofInt 0))]) (S' := [.int (Int32.ofInt 10)]) (h' := h1) zp_8 rfl ?_
      exact zQ_retI zp_8 rfl ((r1'.1 c2).1 c3)
    · refine zQ_seq 2 (pc' := 26) (L' := [some (.ref 15), some (.int a1), some (.int (Int32.ofInt 0))]) (S' := [.int (Int32.ofInt 6), .int (Int32.ofInt 0)]) (h' := h1) zp_8 rfl ?_
      refine zQ_ic zp_8 rfl (t := 37) rfl (i := (0 : Int)) (j := (6 : Int)) kc_0 kc_6 (fun c4 => ?_) (fun c4 => ?_)
      · refine zQ_seq 1 (pc' := 39) (L' := [some (.ref 15), some (.int a1), some (.int (Int32.ofInt 0))]) (S' := [.int (Int32.ofInt 10)]) (h' := h1) zp_8 rfl ?_
        exact zQ_retI zp_8 rfl (((r1'.1 c2).2 c3).1 c4)
      · refine zQ_seq 2 (pc' := 33) (L' := [some (.ref 15), some (.int a1), some (.int (Int32.ofInt 0))]) (S' := [.int (Int32.ofInt 0), .ref 901]) (h' := h1) zp_8 rfl ?_
        refine zQ_ialk 0 (N := 6) (f := zs1) zp_8 rfl rfl kc_0 ?_
        refine zQ_goto zp_8 rfl (t := 39) rfl ?_
        exact zQ_retI zp_8 rfl (((r1'.1 c2).2 c3).2 c4)
  · refine zQ_seq 3 (pc' := 13) (L' := [some (.ref 15), some (.int a1), none]) (S' := [.int a1, .ref 17]) (h' := h1) zp_8 rfl ?_
    refine zQ_ial (N := 4) (f := h1.1 17) zp_8 rfl rfl rfl (fun b5 b5' => ?_)
    refine zQ_goto zp_8 rfl (t := 18) rfl ?_
    refine zQ_seq 2 (pc' := 20) (L' := [some (.ref 15), some (.int a1), some (.int (h1.1 17 a1.toInt.toNat))]) (S' := [.int (h1.1 17 a1.toInt.toNat)]) (h' := h1) zp_8 rfl ?_
    refine zQ_if zp_8 rfl (t := 37) rfl (i := (h1.1 17 a1.toInt.toNat).toInt) rfl (fun c6 => ?_) (fun c6 => ?_)
    · refine zQ_seq 1 (pc' := 39) (L' := [some (.ref 15), some (.int a1), some (.int (h1.1 17 a1.toInt.toNat))]) (S' := [.int (Int32.ofInt 10)]) (h' := h1) zp_8 rfl ?_
      exact zQ_retI zp_8 rfl (((r1'.2 c2) b5 b5').1 c6)
    · refine zQ_seq 2 (pc' := 26) (L' := [some (.ref 15), some (.int a1), some (.int (h1.1 17 a1.toInt.toNat))]) (S' := [.int (Int32.ofInt 6), .int (h1.1 17 a1.toInt.toNat)]) (h' := h1) zp_8 rfl ?_
      refine zQ_ic zp_8 rfl (t := 37) rfl (i := (h1.1 17 a1.toInt.toNat).toInt) (j := (6 : Int)) rfl kc_6 (fun c7 => ?_) (fun c7 => ?_)
      · refine zQ_seq 1 (pc' := 39) (L' := [some (.ref 15), some (.int a1), some (.int (h1.1 17 a1.toInt.toNat))]) (S' := [.int (Int32.ofInt 10)]) (h' := h1) zp_8 rfl ?_
        exact zQ_retI zp_8 rfl ((((r1'.2 c2) b5 b5').2 c6).1 c7)
      · refine zQ_seq 2 (pc' := 33) (L' := [some (.ref 15), some (.int a1), some (.int (h1.1 17 a1.toInt.toNat))]) (S' := [.int (h1.1 17 a1.toInt.toNat), .ref 901]) (h' := h1) zp_8 rfl ?_
        refine zQ_ial (N := 6) (f := zs1) zp_8 rfl rfl rfl (fun b8 b8' => ?_)
        refine zQ_goto zp_8 rfl (t := 39) rfl ?_
        exact zQ_retI zp_8 rfl (((((r1'.2 c2) b5 b5').2 c6).2 c7) b8 b8')
theorem s_9 {h : zH} {Q : Option Value → zH → Prop} (a1 : Int32) (H : zqm 20 [.ref 15, .int a1] h (fun rv h1 => zri rv (fun v1 => ((v1.toInt = 0 → (((0 : Int) < 0 → Q (some (.int (Int32.ofInt 20))) h1) ∧ (¬ ((0 : Int) < 0) → (((6 : Int) ≤ (0 : Int) → Q (some (.int (Int32.ofInt 20))) h1) ∧ (¬ ((6 : Int) ≤ (0 : Int)) → Q (some (.int (zs2 0))) h1))))) ∧ (¬ (v1.toInt = 0) → (0 ≤ a1.toInt → a1.toInt < 4 → (((h1.1 17 a1.toInt.toNat).toInt < 0 → Q (some (.int (Int32.ofInt 20))) h1) ∧ (¬ ((h1.1 17 a1.toInt.toNat).toInt < 0) → (((6 : Int) ≤ (h1.1 17 a1.toInt.toNat).toInt → Q (some (.int (Int32.ofInt 20))) h1) ∧ (¬ ((6 : Int) ≤ (h1.1 17 a1.toInt.toNat).toInt) → (0 ≤ (h1.1 17 a1.toInt.toNat).toInt → (h1.1 17 a1.toInt.toNat).toInt < 6 → Q (some (.int (zs2 (h1.1 17 a1.toInt.toNat).toInt.toNat))) h1))))))))))) : zqm 9 [.ref 15, .int a1] h Q := by
  refine zqm_of zp_9 (fun n => ?_)
  show zQ n 9 0 [some (.ref 15), some (.int a1), none] [] h Q
  refine zQ_seq 2 (pc' := 2) (L' := [some (.ref 15), some (.int a1), none]) (S' := [.int a1, .ref 15]) (h' := h) zp_9 rfl ?_
  refine zQ_cvI (M' := 20) (as := [.ref 15, .int a1]) (S' := []) zp_9 rfl rfl zp_20 (Or.inr rfl) rfl rfl (zqm_imp H (fun rv h1 r1 => zri_imp r1 (fun v1 r1' => ?_)))
  refine zQ_if zp_9 rfl (t := 17) rfl (i := v1.toInt) rfl (fun c2 => ?_) (fun c2 => ?_)
  · refine zQ_seq 3 (pc' := 20) (L' := [some (.ref 15), some (.int a1), some (.int (Int32.ofInt 0))]) (S' := [.int (Int32.ofInt 0)]) (h' := h1) zp_9 rfl ?_
    refine zQ_if zp_9 rfl (t := 37) rfl (i := (0 : Int)) kc_0 (fun c3 => ?_) (fun c3 => ?_)
    · refine zQ_seq 1 (pc' := 39) (L' := [some (.ref 15), some (.int a1), some (.int (Int32.ofInt 0))]) (S' := [.int (Int32.ofInt 20)]) (h' := h1) zp_9 rfl ?_
      exact zQ_retI zp_9 rfl ((r1'.1 c2).1 c3)
    · refine zQ_seq 2 (pc' := 26) (L' := [some (.ref 15), some (.int a1), some (.int (Int32.ofInt 0))]) (S' := [.int (Int32.ofInt 6), .int (Int32.ofInt 0)]) (h' := h1) zp_9 rfl ?_
      refine zQ_ic zp_9 rfl (t := 37) rfl (i := (0 : Int)) (j := (6 : Int)) kc_0 kc_6 (fun c4 => ?_) (fun c4 => ?_)
      · refine zQ_seq 1 (pc' := 39) (L' := [some (.ref 15), some (.int a1), some (.int (Int32.ofInt 0))]) (S' := [.int (Int32.ofInt 20)]) (h' := h1) zp_9 rfl ?_
        exact zQ_retI zp_9 rfl (((r1'.1 c2).2 c3).1 c4)
      · refine zQ_seq 2 (pc' := 33) (L' := [some (.ref 15), some (.int a1), some (.int (Int32.ofInt 0))]) (S' := [.int (Int32.ofInt 0), .ref 902]) (h' := h1) zp_9 rfl ?_
        refine zQ_ialk 0 (N := 6) (f := zs2) zp_9 rfl rfl kc_0 ?_
        refine zQ_goto zp_9 rfl (t := 39) rfl ?_
        exact zQ_retI zp_9 rfl (((r1'.1 c2).2 c3).2 c4)
  · refine zQ_seq 3 (pc' := 13) (L' := [some (.ref 15), some (.int a1), none]) (S' := [.int a1, .ref 17]) (h' := h1) zp_9 rfl ?_
    refine zQ_ial (N := 4) (f := h1.1 17) zp_9 rfl rfl rfl (fun b5 b5' => ?_)
    refine zQ_goto zp_9 rfl (t := 18) rfl ?_
    refine zQ_seq 2 (pc' := 20) (L' := [some (.ref 15), some (.int a1), some (.int (h1.1 17 a1.toInt.toNat))]) (S' := [.int (h1.1 17 a1.toInt.toNat)]) (h' := h1) zp_9 rfl ?_
    refine zQ_if zp_9 rfl (t := 37) rfl (i := (h1.1 17 a1.toInt.toNat).toInt) rfl (fun c6 => ?_) (fun c6 => ?_)
    · refine zQ_seq 1 (pc' := 39) (L' := [some (.ref 15), some (.int a1), some (.int (h1.1 17 a1.toInt.toNat))]) (S' := [.int (Int32.ofInt 20)]) (h' := h1) zp_9 rfl ?_
      exact zQ_retI zp_9 rfl (((r1'.2 c2) b5 b5').1 c6)
    · refine zQ_seq 2 (pc' := 26) (L' := [some (.ref 15), some (.int a1), some (.int (h1.1 17 a1.toInt.toNat))]) (S' := [.int (Int32.ofInt 6), .int (h1.1 17 a1.toInt.toNat)]) (h' := h1) zp_9 rfl ?_
      refine zQ_ic zp_9 rfl (t := 37) rfl (i := (h1.1 17 a1.toInt.toNat).toInt) (j := (6 : Int)) rfl kc_6 (fun c7 => ?_) (fun c7 => ?_)
      · refine zQ_seq 1 (pc' := 39) (L' := [some (.ref 15), some (.int a1), some (.int (h1.1 17 a1.toInt.toNat))]) (S' := [.int (Int32.ofInt 20)]) (h' := h1) zp_9 rfl ?_
        exact zQ_retI zp_9 rfl ((((r1'.2 c2) b5 b5').2 c6).1 c7)
      · refine zQ_seq 2 (pc' := 33) (L' := [some (.ref 15), some (.int a1), some (.int (h1.1 17 a1.toInt.toNat))]) (S' := [.int (h1.1 17 a1.toInt.toNat), .ref 902]) (h' := h1) zp_9 rfl ?_
        refine zQ_ial (N := 6) (f := zs2) zp_9 rfl rfl rfl (fun b8 b8' => ?_)
        refine zQ_goto zp_9 rfl (t := 39) rfl ?_
        exact zQ_retI zp_9 rfl (((((r1'.2 c2) b5 b5').2 c6).2 c7) b8 b8')
theorem s_10 {h : zH} {Q : Option Value → zH → Prop} (H : (∀ n, zQ n 10 37 [some (.ref 23), some (.int (Int32.ofInt 0))] [] (zSet (zSet (zSet (zSet (zSet (zSet (zSet h 23 0 (Int32.ofInt 0)) 23 1 (Int32.ofInt 0)) 23 2 (Int32.ofInt 0)) 23 3 (Int32.ofInt 0)) 23 4 (Int32.ofInt 0)) 23 5 (Int32.ofInt 0)) 23 6 (Int32.ofInt 0)) Q)) : zqm 10 [.ref 23] h Q := by
  refine zqm_of zp_10 (fun n => ?_)
  have H := H n
  show zQ n 10 0 [some (.ref 23), none] [] h Q
  refine zQ_seq 2 (pc' := 2) (L' := [some (.ref 23), none]) (S' := [.int (Int32.ofInt 0), .ref 23]) (h' := h) zp_10 rfl ?_
  refine zQ_putb zp_10 rfl rfl rfl rfl ?_
  refine zQ_seq 20 (pc' := 37) (L' := [some (.ref 23), some (.int (Int32.ofInt 0))]) (S' := []) (h' := (zSet (zSet (zSet (zSet (zSet (zSet (zSet h 23 0 (Int32.ofInt 0)) 23 1 (Int32.ofInt 0)) 23 2 (Int32.ofInt 0)) 23 3 (Int32.ofInt 0)) 23 4 (Int32.ofInt 0)) 23 5 (Int32.ofInt 0)) 23 6 (Int32.ofInt 0))) zp_10 rfl ?_
  exact H
theorem s_10_37 {n : Nat} {h : zH} {Q : Option Value → zH → Prop} (x1 : Int32) (H : (((3 : Int) ≤ x1.toInt → Q none h) ∧ (¬ ((3 : Int) ≤ x1.toInt) → (0 ≤ x1.toInt → x1.toInt < 3 → zQ n 10 37 [some (.ref 23), some (.int (x1 + Int32.ofInt 1))] [] (zSet h 24 x1.toInt.toNat (Int32.ofInt 0)) Q)))) : zQ (n + 1) 10 37 [some (.ref 23), some (.int x1)] [] h Q := by
  refine zQ_seqL 1 (pc' := 39) (L' := [some (.ref 23), some (.int x1)]) (S' := [.int (Int32.ofInt 3), .int x1]) (h' := h) zp_10 rfl ?_
  refine zQ_ic zp_10 rfl (t := 55) rfl (i := x1.toInt) (j := (3 : Int)) rfl kc_3 (fun c1 => ?_) (fun c1 => ?_)
  · exact zQ_retV zp_10 rfl (H.1 c1)
  · refine zQ_seq 4 (pc' := 48) (L' := [some (.ref 23), some (.int x1)]) (S' := [.int (Int32.ofInt 0), .int x1, .ref 24]) (h' := h) zp_10 rfl ?_
    refine zQ_ias (N := 3) zp_10 rfl rfl rfl (fun b2 b2' => ?_)
    refine zQ_seq 1 (pc' := 52) (L' := [some (.ref 23), some (.int (x1 + Int32.ofInt 1))]) (S' := []) (h' := (zSet h 24 x1.toInt.toNat (Int32.ofInt 0))) zp_10 rfl ?_
    refine zQ_goto zp_10 rfl (t := 37) rfl ?_
    exact ((H.2 c1) b2 b2')
theorem s_11_15_23 {h : zH} {Q : Option Value → zH → Prop} (H : Q none (zCpy (zCpy (zCpy (zCpy (zCpy (zCpy (zCpy (zSet (zSet (zSet (zSet (zSet (zSet (zSet (zSet (zSet h 15 0 (h.1 23 0)) 15 1 (h.1 23 1)) 15 2 (h.1 23 2)) 15 3 (h.1 23 3)) 15 4 (h.1 23 4)) 15 5 (h.1 23 5)) 15 6 (h.1 23 6)) 15 7 (h.1 23 7)) 15 8 (h.1 23 8)) 24 16 0 0 3) 25 17 0 0 4) 26 18 0 0 4) 27 19 0 0 4) 28 20 0 0 4) 29 21 0 0 4) 30 22 0 0 4)) : zqm 11 [.ref 15, .ref 23] h Q := by
  refine zqm_of zp_11 (fun n => ?_)
  show zQ n 11 0 [some (.ref 15), some (.ref 23)] [] h Q
  refine zQ_seq 3 (pc' := 5) (L' := [some (.ref 15), some (.ref 23)]) (S' := [.int (h.1 23 0), .ref 15]) (h' := h) zp_11 rfl ?_
  refine zQ_putb zp_11 rfl rfl rfl rfl ?_
  refine zQ_seq 39 (pc' := 83) (L' := [some (.ref 15), some (.ref 23)]) (S' := [.int (Int32.ofInt 3), .int (Int32.ofInt 0), .ref 16, .int (Int32.ofInt 0), .ref 24]) (h' := (zSet (zSet (zSet (zSet (zSet (zSet (zSet (zSet (zSet h 15 0 (h.1 23 0)) 15 1 (h.1 23 1)) 15 2 (h.1 23 2)) 15 3 (h.1 23 3)) 15 4 (h.1 23 4)) 15 5 (h.1 23 5)) 15 6 (h.1 23 6)) 15 7 (h.1 23 7)) 15 8 (h.1 23 8))) zp_11 rfl ?_
  refine zQ_copy (n0 := 3) (n1 := 3) (i := (0 : Int)) (j := (0 : Int)) (l := (3 : Int)) zp_11 rfl rfl rfl rfl kc_0 kc_0 kc_3 (fun _ _ _ _ _ => ?_)
  refine zQ_seq 7 (pc' := 97) (L' := [some (.ref 15), some (.ref 23)]) (S' := [.int (Int32.ofInt 4), .int (Int32.ofInt 0), .ref 17, .int (Int32.ofInt 0), .ref 25]) (h' := (zCpy (zSet (zSet (zSet (zSet (zSet (zSet (zSet (zSet (zSet h 15 0 (h.1 23 0)) 15 1 (h.1 23 1)) 15 2 (h.1 23 2)) 15 3 (h.1 23 3)) 15 4 (h.1 23 4)) 15 5 (h.1 23 5)) 15 6 (h.1 23 6)) 15 7 (h.1 23 7)) 15 8 (h.1 23 8)) 24 16 0 0 3)) zp_11 rfl ?_
  refine zQ_copy (n0 := 4) (n1 := 4) (i := (0 : Int)) (j := (0 : Int)) (l := (4 : Int)) zp_11 rfl rfl rfl rfl kc_0 kc_0 kc_4 (fun _ _ _ _ _ => ?_)
  refine zQ_seq 7 (pc' := 111) (L' := [some (.ref 15), some (.ref 23)]) (S' := [.int (Int32.ofInt 4), .int (Int32.ofInt 0), .ref 18, .int (Int32.ofInt 0), .ref 26]) (h' := (zCpy (zCpy (zSet (zSet (zSet (zSet (zSet (zSet (zSet (zSet (zSet h 15 0 (h.1 23 0)) 15 1 (h.1 23 1)) 15 2 (h.1 23 2)) 15 3 (h.1 23 3)) 15 4 (h.1 23 4)) 15 5 (h.1 23 5)) 15 6 (h.1 23 6)) 15 7 (h.1 23 7)) 15 8 (h.1 23 8)) 24 16 0 0 3) 25 17 0 0 4)) zp_11 rfl ?_
  refine zQ_copy (n0 := 4) (n1 := 4) (i := (0 : Int)) (j := (0 : Int)) (l := (4 : Int)) zp_11 rfl rfl rfl rfl kc_0 kc_0 kc_4 (fun _ _ _ _ _ => ?_)
  refine zQ_seq 7 (pc' := 125) (L' := [some (.ref 15), some (.ref 23)]) (S' := [.int (Int32.ofInt 4), .int (Int32.ofInt 0), .ref 19, .int (Int32.ofInt 0), .ref 27]) (h' := (zCpy (zCpy (zCpy (zSet (zSet (zSet (zSet (zSet (zSet (zSet (zSet (zSet h 15 0 (h.1 23 0)) 15 1 (h.1 23 1)) 15 2 (h.1 23 2)) 15 3 (h.1 23 3)) 15 4 (h.1 23 4)) 15 5 (h.1 23 5)) 15 6 (h.1 23 6)) 15 7 (h.1 23 7)) 15 8 (h.1 23 8)) 24 16 0 0 3) 25 17 0 0 4) 26 18 0 0 4)) zp_11 rfl ?_
  refine zQ_copy (n0 := 4) (n1 := 4) (i := (0 : Int)) (j := (0 : Int)) (l := (4 : Int)) zp_11 rfl rfl rfl rfl kc_0 kc_0 kc_4 (fun _ _ _ _ _ => ?_)
  refine zQ_seq 7 (pc' := 139) (L' := [some (.ref 15), some (.ref 23)]) (S' := [.int (Int32.ofInt 4), .int (Int32.ofInt 0), .ref 20, .int (Int32.ofInt 0), .ref 28]) (h' := (zCpy (zCpy (zCpy (zCpy (zSet (zSet (zSet (zSet (zSet (zSet (zSet (zSet (zSet h 15 0 (h.1 23 0)) 15 1 (h.1 23 1)) 15 2 (h.1 23 2)) 15 3 (h.1 23 3)) 15 4 (h.1 23 4)) 15 5 (h.1 23 5)) 15 6 (h.1 23 6)) 15 7 (h.1 23 7)) 15 8 (h.1 23 8)) 24 16 0 0 3) 25 17 0 0 4) 26 18 0 0 4) 27 19 0 0 4)) zp_11 rfl ?_
  refine zQ_copy (n0 := 4) (n1 := 4) (i := (0 : Int)) (j := (0 : Int)) (l := (4 : Int)) zp_11 rfl rfl rfl rfl kc_0 kc_0 kc_4 (fun _ _ _ _ _ => ?_)
  refine zQ_seq 7 (pc' := 153) (L' := [some (.ref 15), some (.ref 23)]) (S' := [.int (Int32.ofInt 4), .int (Int32.ofInt 0), .ref 21, .int (Int32.ofInt 0), .ref 29]) (h' := (zCpy (zCpy (zCpy (zCpy (zCpy (zSet (zSet (zSet (zSet (zSet (zSet (zSet (zSet (zSet h 15 0 (h.1 23 0)) 15 1 (h.1 23 1)) 15 2 (h.1 23 2)) 15 3 (h.1 23 3)) 15 4 (h.1 23 4)) 15 5 (h.1 23 5)) 15 6 (h.1 23 6)) 15 7 (h.1 23 7)) 15 8 (h.1 23 8)) 24 16 0 0 3) 25 17 0 0 4) 26 18 0 0 4) 27 19 0 0 4) 28 20 0 0 4)) zp_11 rfl ?_
  refine zQ_copy (n0 := 4) (n1 := 4) (i := (0 : Int)) (j := (0 : Int)) (l := (4 : Int)) zp_11 rfl rfl rfl rfl kc_0 kc_0 kc_4 (fun _ _ _ _ _ => ?_)
  refine zQ_seq 7 (pc' := 167) (L' := [some (.ref 15), some (.ref 23)]) (S' := [.int (Int32.ofInt 4), .int (Int32.ofInt 0), .ref 22, .int (Int32.ofInt 0), .ref 30]) (h' := (zCpy (zCpy (zCpy (zCpy (zCpy (zCpy (zSet (zSet (zSet (zSet (zSet (zSet (zSet (zSet (zSet h 15 0 (h.1 23 0)) 15 1 (h.1 23 1)) 15 2 (h.1 23 2)) 15 3 (h.1 23 3)) 15 4 (h.1 23 4)) 15 5 (h.1 23 5)) 15 6 (h.1 23 6)) 15 7 (h.1 23 7)) 15 8 (h.1 23 8)) 24 16 0 0 3) 25 17 0 0 4) 26 18 0 0 4) 27 19 0 0 4) 28 20 0 0 4) 29 21 0 0 4)) zp_11 rfl ?_
  refine zQ_copy (n0 := 4) (n1 := 4) (i := (0 : Int)) (j := (0 : Int)) (l := (4 : Int)) zp_11 rfl rfl rfl rfl kc_0 kc_0 kc_4 (fun _ _ _ _ _ => ?_)
  exact zQ_retV zp_11 rfl H
theorem s_11_15_31 {h : zH} {Q : Option Value → zH → Prop} (H : Q none (zCpy (zCpy (zCpy (zCpy (zCpy (zCpy (zCpy (zSet (zSet (zSet (zSet (zSet (zSet (zSet (zSet (zSet h 15 0 (h.1 31 0)) 15 1 (h.1 31 1)) 15 2 (h.1 31 2)) 15 3 (h.1 31 3)) 15 4 (h.1 31 4)) 15 5 (h.1 31 5)) 15 6 (h.1 31 6)) 15 7 (h.1 31 7)) 15 8 (h.1 31 8)) 32 16 0 0 3) 33 17 0 0 4) 34 18 0 0 4) 35 19 0 0 4) 36 20 0 0 4) 37 21 0 0 4) 38 22 0 0 4)) : zqm 11 [.ref 15, .ref 31] h Q := by
  refine zqm_of zp_11 (fun n => ?_)
  show zQ n 11 0 [some (.ref 15), some (.ref 31)] [] h Q
  refine zQ_seq 3 (pc' := 5) (L' := [some (.ref 15), some (.ref 31)]) (S' := [.int (h.1 31 0), .ref 15]) (h' := h) zp_11 rfl ?_
  refine zQ_putb zp_11 rfl rfl rfl rfl ?_
  refine zQ_seq 39 (pc' := 83) (L' := [some (.ref 15), some (.ref 31)]) (S' := [.int (Int32.ofInt 3), .int (Int32.ofInt 0), .ref 16, .int (Int32.ofInt 0), .ref 32]) (h' := (zSet (zSet (zSet (zSet (zSet (zSet (zSet (zSet (zSet h 15 0 (h.1 31 0)) 15 1 (h.1 31 1)) 15 2 (h.1 31 2)) 15 3 (h.1 31 3)) 15 4 (h.1 31 4)) 15 5 (h.1 31 5)) 15 6 (h.1 31 6)) 15 7 (h.1 31 7)) 15 8 (h.1 31 8))) zp_11 rfl ?_
  refine zQ_copy (n0 := 3) (n1 := 3) (i := (0 : Int)) (j := (0 : Int)) (l := (3 : Int)) zp_11 rfl rfl rfl rfl kc_0 kc_0 kc_3 (fun _ _ _ _ _ => ?_)
  refine zQ_seq 7 (pc' := 97) (L' := [some (.ref 15), some (.ref 31)]) (S' := [.int (Int32.ofInt 4), .int (Int32.ofInt 0), .ref 17, .int (Int32.ofInt 0), .ref 33]) (h' := (zCpy (zSet (zSet (zSet (zSet (zSet (zSet (zSet (zSet (zSet h 15 0 (h.1 31 0)) 15 1 (h.1 31 1)) 15 2 (h.1 31 2)) 15 3 (h.1 31 3)) 15 4 (h.1 31 4)) 15 5 (h.1 31 5)) 15 6 (h.1 31 6)) 15 7 (h.1 31 7)) 15 8 (h.1 31 8)) 32 16 0 0 3)) zp_11 rfl ?_
  refine zQ_copy (n0 := 4) (n1 := 4) (i := (0 : Int)) (j := (0 : Int)) (l := (4 : Int)) zp_11 rfl rfl rfl rfl kc_0 kc_0 kc_4 (fun _ _ _ _ _ => ?_)
  refine zQ_seq 7 (pc' := 111) (L' := [some (.ref 15), some (.ref 31)]) (S' := [.int (Int32.ofInt 4), .int (Int32.ofInt 0), .ref 18, .int (Int32.ofInt 0), .ref 34]) (h' := (zCpy (zCpy (zSet (zSet (zSet (zSet (zSet (zSet (zSet (zSet (zSet h 15 0 (h.1 31 0)) 15 1 (h.1 31 1)) 15 2 (h.1 31 2)) 15 3 (h.1 31 3)) 15 4 (h.1 31 4)) 15 5 (h.1 31 5)) 15 6 (h.1 31 6)) 15 7 (h.1 31 7)) 15 8 (h.1 31 8)) 32 16 0 0 3) 33 17 0 0 4)) zp_11 rfl ?_
  refine zQ_copy (n0 := 4) (n1 := 4) (i := (0 : Int)) (j := (0 : Int)) (l := (4 : Int)) zp_11 rfl rfl rfl rfl kc_0 kc_0 kc_4 (fun _ _ _ _ _ => ?_)
  refine zQ_seq 7 (pc' := 125) (L' := [some (.ref 15), some (.ref 31)]) (S' := [.int (Int32.ofInt 4), .int (Int32.ofInt 0), .ref 19, .int (Int32.ofInt 0), .ref 35]) (h' := (zCpy (zCpy (zCpy (zSet (zSet (zSet (zSet (zSet (zSet (zSet (zSet (zSet h 15 0 (h.1 31 0)) 15 1 (h.1 31 1)) 15 2 (h.1 31 2)) 15 3 (h.1 31 3)) 15 4 (h.1 31 4)) 15 5 (h.1 31 5)) 15 6 (h.1 31 6)) 15 7 (h.1 31 7)) 15 8 (h.1 31 8)) 32 16 0 0 3) 33 17 0 0 4) 34 18 0 0 4)) zp_11 rfl ?_
  refine zQ_copy (n0 := 4) (n1 := 4) (i := (0 : Int)) (j := (0 : Int)) (l := (4 : Int)) zp_11 rfl rfl rfl rfl kc_0 kc_0 kc_4 (fun _ _ _ _ _ => ?_)
  refine zQ_seq 7 (pc' := 139) (L' := [some (.ref 15), some (.ref 31)]) (S' := [.int (Int32.ofInt 4), .int (Int32.ofInt 0), .ref 20, .int (Int32.ofInt 0), .ref 36]) (h' := (zCpy (zCpy (zCpy (zCpy (zSet (zSet (zSet (zSet (zSet (zSet (zSet (zSet (zSet h 15 0 (h.1 31 0)) 15 1 (h.1 31 1)) 15 2 (h.1 31 2)) 15 3 (h.1 31 3)) 15 4 (h.1 31 4)) 15 5 (h.1 31 5)) 15 6 (h.1 31 6)) 15 7 (h.1 31 7)) 15 8 (h.1 31 8)) 32 16 0 0 3) 33 17 0 0 4) 34 18 0 0 4) 35 19 0 0 4)) zp_11 rfl ?_
  refine zQ_copy (n0 := 4) (n1 := 4) (i := (0 : Int)) (j := (0 : Int)) (l := (4 : Int)) zp_11 rfl rfl rfl rfl kc_0 kc_0 kc_4 (fun _ _ _ _ _ => ?_)
  refine zQ_seq 7 (pc' := 153) (L' := [some (.ref 15), some (.ref 31)]) (S' := [.int (Int32.ofInt 4), .int (Int32.ofInt 0), .ref 21, .int (Int32.ofInt 0), .ref 37]) (h' := (zCpy (zCpy (zCpy (zCpy (zCpy (zSet (zSet (zSet (zSet (zSet (zSet (zSet (zSet (zSet h 15 0 (h.1 31 0)) 15 1 (h.1 31 1)) 15 2 (h.1 31 2)) 15 3 (h.1 31 3)) 15 4 (h.1 31 4)) 15 5 (h.1 31 5)) 15 6 (h.1 31 6)) 15 7 (h.1 31 7)) 15 8 (h.1 31 8)) 32 16 0 0 3) 33 17 0 0 4) 34 18 0 0 4) 35 19 0 0 4) 36 20 0 0 4)) zp_11 rfl ?_
  refine zQ_copy (n0 := 4) (n1 := 4) (i := (0 : Int)) (j := (0 : Int)) (l := (4 : Int)) zp_11 rfl rfl rfl rfl kc_0 kc_0 kc_4 (fun _ _ _ _ _ => ?_)
  refine zQ_seq 7 (pc' := 167) (L' := [some (.ref 15), some (.ref 31)]) (S' := [.int (Int32.ofInt 4), .int (Int32.ofInt 0), .ref 22, .int (Int32.ofInt 0), .ref 38]) (h' := (zCpy (zCpy (zCpy (zCpy (zCpy (zCpy (zSet (zSet (zSet (zSet (zSet (zSet (zSet (zSet (zSet h 15 0 (h.1 31 0)) 15 1 (h.1 31 1)) 15 2 (h.1 31 2)) 15 3 (h.1 31 3)) 15 4 (h.1 31 4)) 15 5 (h.1 31 5)) 15 6 (h.1 31 6)) 15 7 (h.1 31 7)) 15 8 (h.1 31 8)) 32 16 0 0 3) 33 17 0 0 4) 34 18 0 0 4) 35 19 0 0 4) 36 20 0 0 4) 37 21 0 0 4)) zp_11 rfl ?_
  refine zQ_copy (n0 := 4) (n1 := 4) (i := (0 : Int)) (j := (0 : Int)) (l := (4 : Int)) zp_11 rfl rfl rfl rfl kc_0 kc_0 kc_4 (fun _ _ _ _ _ => ?_)
  exact zQ_retV zp_11 rfl H
theorem s_11_15_39 {h : zH} {Q : Option Value → zH → Prop} (H : Q none (zCpy (zCpy (zCpy (zCpy (zCpy (zCpy (zCpy (zSet (zSet (zSet (zSet (zSet (zSet (zSet (zSet (zSet h 15 0 (h.1 39 0)) 15 1 (h.1 39 1)) 15 2 (h.1 39 2)) 15 3 (h.1 39 3)) 15 4 (h.1 39 4)) 15 5 (h.1 39 5)) 15 6 (h.1 39 6)) 15 7 (h.1 39 7)) 15 8 (h.1 39 8)) 40 16 0 0 3) 41 17 0 0 4) 42 18 0 0 4) 43 19 0 0 4) 44 20 0 0 4) 45 21 0 0 4) 46 22 0 0 4)) : zqm 11 [.ref 15, .ref 39] h Q := by
  refine zqm_of zp_11 (fun n => ?_)
  show zQ n 11 0 [some (.ref 15), some (.ref 39)] [] h Q
  refine zQ_seq 3 (pc' := 5) (L' := [some (.ref 15), some (.ref 39)]) (S' := [.int (h.1 39 0), .ref 15]) (h' := h) zp_11 rfl ?_
  refine zQ_putb zp_11 rfl rfl rfl rfl ?_
  refine zQ_seq 39 (pc' := 83) (L' := [some (.ref 15), some (.ref 39)]) (S' := [.int (Int32.ofInt 3), .int (Int32.ofInt 0), .ref 16, .int (Int32.ofInt 0), .ref 40]) (h' := (zSet (zSet (zSet (zSet (zSet (zSet (zSet (zSet (zSet h 15 0 (h.1 39 0)) 15 1 (h.1 39 1)) 15 2 (h.1 39 2)) 15 3 (h.1 39 3)) 15 4 (h.1 39 4)) 15 5 (h.1 39 5)) 15 6 (h.1 39 6)) 15 7 (h.1 39 7)) 15 8 (h.1 39 8))) zp_11 rfl ?_
  refine zQ_copy (n0 := 3) (n1 := 3) (i := (0 : Int)) (j := (0 : Int)) (l := (3 : Int)) zp_11 rfl rfl rfl rfl kc_0 kc_0 kc_3 (fun _ _ _ _ _ => ?_)
  refine zQ_seq 7 (pc' := 97) (L' := [some (.ref 15), some (.ref 39)]) (S' := [.int (Int32.ofInt 4), .int (Int32.ofInt 0), .ref 17, .int (Int32.ofInt 0), .ref 41]) (h' := (zCpy (zSet (zSet (zSet (zSet (zSet (zSet (zSet (zSet (zSet h 15 0 (h.1 39 0)) 15 1 (h.1 39 1)) 15 2 (h.1 39 2)) 15 3 (h.1 39 3)) 15 4 (h.1 39 4)) 15 5 (h.1 39 5)) 15 6 (h.1 39 6)) 15 7 (h.1 39 7)) 15 8 (h.1 39 8)) 40 16 0 0 3)) zp_11 rfl ?_
  refine zQ_copy (n0 := 4) (n1 := 4) (i := (0 : Int)) (j := (0 : Int)) (l := (4 : Int)) zp_11 rfl rfl rfl rfl kc_0 kc_0 kc_4 (fun _ _ _ _ _ => ?_)
  refine zQ_seq 7 (pc' := 111) (L' := [some (.ref 15), some (.ref 39)]) (S' := [.int (Int32.ofInt 4), .int (Int32.ofInt 0), .ref 18, .int (Int32.ofInt 0), .ref 42]) (h' := (zCpy (zCpy (zSet (zSet (zSet (zSet (zSet (zSet (zSet (zSet (zSet h 15 0 (h.1 39 0)) 15 1 (h.1 39 1)) 15 2 (h.1 39 2)) 15 3 (h.1 39 3)) 15 4 (h.1 39 4)) 15 5 (h.1 39 5)) 15 6 (h.1 39 6)) 15 7 (h.1 39 7)) 15 8 (h.1 39 8)) 40 16 0 0 3) 41 17 0 0 4)) zp_11 rfl ?_
  refine zQ_copy (n0 := 4) (n1 := 4) (i := (0 : Int)) (j := (0 : Int)) (l := (4 : Int)) zp_11 rfl rfl rfl rfl kc_0 kc_0 kc_4 (fun _ _ _ _ _ => ?_)
  refine zQ_seq 7 (pc' := 125) (L' := [some (.ref 15), some (.ref 39)]) (S' := [.int (Int32.ofInt 4), .int (Int32.ofInt 0), .ref 19, .int (Int32.ofInt 0), .ref 43]) (h' := (zCpy (zCpy (zCpy (zSet (zSet (zSet (zSet (zSet (zSet (zSet (zSet (zSet h 15 0 (h.1 39 0)) 15 1 (h.1 39 1)) 15 2 (h.1 39 2)) 15 3 (h.1 39 3)) 15 4 (h.1 39 4)) 15 5 (h.1 39 5)) 15 6 (h.1 39 6)) 15 7 (h.1 39 7)) 15 8 (h.1 39 8)) 40 16 0 0 3) 41 17 0 0 4) 42 18 0 0 4)) zp_11 rfl ?_
  refine zQ_copy (n0 := 4) (n1 := 4) (i := (0 : Int)) (j := (0 : Int)) (l := (4 : Int)) zp_11 rfl rfl rfl rfl kc_0 kc_0 kc_4 (fun _ _ _ _ _ => ?_)
  refine zQ_seq 7 (pc' := 139) (L' := [some (.ref 15), some (.ref 39)]) (S' := [.int (Int32.ofInt 4), .int (Int32.ofInt 0), .ref 20, .int (Int32.ofInt 0), .ref 44]) (h' := (zCpy (zCpy (zCpy (zCpy (zSet (zSet (zSet (zSet (zSet (zSet (zSet (zSet (zSet h 15 0 (h.1 39 0)) 15 1 (h.1 39 1)) 15 2 (h.1 39 2)) 15 3 (h.1 39 3)) 15 4 (h.1 39 4)) 15 5 (h.1 39 5)) 15 6 (h.1 39 6)) 15 7 (h.1 39 7)) 15 8 (h.1 39 8)) 40 16 0 0 3) 41 17 0 0 4) 42 18 0 0 4) 43 19 0 0 4)) zp_11 rfl ?_
  refine zQ_copy (n0 := 4) (n1 := 4) (i := (0 : Int)) (j := (0 : Int)) (l := (4 : Int)) zp_11 rfl rfl rfl rfl kc_0 kc_0 kc_4 (fun _ _ _ _ _ => ?_)
  refine zQ_seq 7 (pc' := 153) (L' := [some (.ref 15), some (.ref 39)]) (S' := [.int (Int32.ofInt 4), .int (Int32.ofInt 0), .ref 21, .int (Int32.ofInt 0), .ref 45]) (h' := (zCpy (zCpy (zCpy (zCpy (zCpy (zSet (zSet (zSet (zSet (zSet (zSet (zSet (zSet (zSet h 15 0 (h.1 39 0)) 15 1 (h.1 39 1)) 15 2 (h.1 39 2)) 15 3 (h.1 39 3)) 15 4 (h.1 39 4)) 15 5 (h.1 39 5)) 15 6 (h.1 39 6)) 15 7 (h.1 39 7)) 15 8 (h.1 39 8)) 40 16 0 0 3) 41 17 0 0 4) 42 18 0 0 4) 43 19 0 0 4) 44 20 0 0 4)) zp_11 rfl ?_
  refine zQ_copy (n0 := 4) (n1 := 4) (i := (0 : Int)) (j := (0 : Int)) (l := (4 : Int)) zp_11 rfl rfl rfl rfl kc_0 kc_0 kc_4 (fun _ _ _ _ _ => ?_)
  refine zQ_seq 7 (pc' := 167) (L' := [some (.ref 15), some (.ref 39)]) (S' := [.int (Int32.ofInt 4), .int (Int32.ofInt 0), .ref 22, .int (Int32.ofInt 0), .ref 46]) (h' := (zCpy (zCpy (zCpy (zCpy (zCpy (zCpy (zSet (zSet (zSet (zSet (zSet (zSet (zSet (zSet (zSet h 15 0 (h.1 39 0)) 15 1 (h.1 39 1)) 15 2 (h.1 39 2)) 15 3 (h.1 39 3)) 15 4 (h.1 39 4)) 15 5 (h.1 39 5)) 15 6 (h.1 39 6)) 15 7 (h.1 39 7)) 15 8 (h.1 39 8)) 40 16 0 0 3) 41 17 0 0 4) 42 18 0 0 4) 43 19 0 0 4) 44 20 0 0 4) 45 21 0 0 4)) zp_11 rfl ?_
  refine zQ_copy (n0 := 4) (n1 := 4) (i := (0 : Int)) (j := (0 : Int)) (l := (4 : Int)) zp_11 rfl rfl rfl rfl kc_0 kc_0 kc_4 (fun _ _ _ _ _ => ?_)
  exact zQ_retV zp_11 rfl H
theorem s_11_31_15 {h : zH} {Q : Option Value → zH → Prop} (H : Q none (zCpy (zCpy (zCpy (zCpy (zCpy (zCpy (zCpy (zSet (zSet (zSet (zSet (zSet (zSet (zSet (zSet (zSet h 31 0 (h.1 15 0)) 31 1 (h.1 15 1)) 31 2 (h.1 15 2)) 31 3 (h.1 15 3)) 31 4 (h.1 15 4)) 31 5 (h.1 15 5)) 31 6 (h.1 15 6)) 31 7 (h.1 15 7)) 31 8 (h.1 15 8)) 16 32 0 0 3) 17 33 0 0 4) 18 34 0 0 4) 19 35 0 0 4) 20 36 0 0 4) 21 37 0 0 4) 22 38 0 0 4)) : zqm 11 [.ref 31, .ref 15] h Q := by
  refine zqm_of zp_11 (fun n => ?_)
  show zQ n 11 0 [some (.ref 31), some (.ref 15)] [] h Q
  refine zQ_seq 3 (pc' := 5) (L' := [some (.ref 31), some (.ref 15)]) (S' := [.int (h.1 15 0), .ref 31]) (h' := h) zp_11 rfl ?_
  refine zQ_putb zp_11 rfl rfl rfl rfl ?_
  refine zQ_seq 39 (pc' := 83) (L' := [some (.ref 31), some (.ref 15)]) (S' := [.int (Int32.ofInt 3), .int (Int32.ofInt 0), .ref 32, .int (Int32.ofInt 0), .ref 16]) (h' := (zSet (zSet (zSet (zSet (zSet (zSet (zSet (zSet (zSet h 31 0 (h.1 15 0)) 31 1 (h.1 15 1)) 31 2 (h.1 15 2)) 31 3 (h.1 15 3)) 31 4 (h.1 15 4)) 31 5 (h.1 15 5)) 31 6 (h.1 15 6)) 31 7 (h.1 15 7)) 31 8 (h.1 15 8))) zp_11 rfl ?_
  refine zQ_copy (n0 := 3) (n1 := 3) (i := (0 : Int)) (j := (0 : Int)) (l := (3 : Int)) zp_11 rfl rfl rfl rfl kc_0 kc_0 kc_3 (fun _ _ _ _ _ => ?_)
  refine zQ_seq 7 (pc' := 97) (L' := [some (.ref 31), some (.ref 15)]) (S' := [.int (Int32.ofInt 4), .int (Int32.ofInt 0), .ref 33, .int (Int32.ofInt 0), .ref 17]) (h' := (zCpy (zSet (zSet (zSet (zSet (zSet (zSet (zSet (zSet (zSet h 31 0 (h.1 15 0)) 31 1 (h.1 15 1)) 31 2 (h.1 15 2)) 31 3 (h.1 15 3)) 31 4 (h.1 15 4)) 31 5 (h.1 15 5)) 31 6 (h.1 15 6)) 31 7 (h.1 15 7)) 31 8 (h.1 15 8)) 16 32 0 0 3)) zp_11 rfl ?_
  refine zQ_copy (n0 := 4) (n1 := 4) (i := (0 : Int)) (j := (0 : Int)) (l := (4 : Int)) zp_11 rfl rfl rfl rfl kc_0 kc_0 kc_4 (fun _ _ _ _ _ => ?_)
  refine zQ_seq 7 (pc' := 111) (L' := [some (.ref 31), some (.ref 15)]) (S' := [.int (Int32.ofInt 4), .int (Int32.ofInt 0), .ref 34, .int (Int32.ofInt 0), .ref 18]) (h' := (zCpy (zCpy (zSet (zSet (zSet (zSet (zSet (zSet (zSet (zSet (zSet h 31 0 (h.1 15 0)) 31 1 (h.1 15 1)) 31 2 (h.1 15 2)) 31 3 (h.1 15 3)) 31 4 (h.1 15 4)) 31 5 (h.1 15 5)) 31 6 (h.1 15 6)) 31 7 (h.1 15 7)) 31 8 (h.1 15 8)) 16 32 0 0 3) 17 33 0 0 4)) zp_11 rfl ?_
  refine zQ_copy (n0 := 4) (n1 := 4) (i := (0 : Int)) (j := (0 : Int)) (l := (4 : Int)) zp_11 rfl rfl rfl rfl kc_0 kc_0 kc_4 (fun _ _ _ _ _ => ?_)
  refine zQ_seq 7 (pc' := 125) (L' := [some (.ref 31), some (.ref 15)]) (S' := [.int (Int32.ofInt 4), .int (Int32.ofInt 0), .ref 35, .int (Int32.ofInt 0), .ref 19]) (h' := (zCpy (zCpy (zCpy (zSet (zSet (zSet (zSet (zSet (zSet (zSet (zSet (zSet h 31 0 (h.1 15 0)) 31 1 (h.1 15 1)) 31 2 (h.1 15 2)) 31 3 (h.1 15 3)) 31 4 (h.1 15 4)) 31 5 (h.1 15 5)) 31 6 (h.1 15 6)) 31 7 (h.1 15 7)) 31 8 (h.1 15 8)) 16 32 0 0 3) 17 33 0 0 4) 18 34 0 0 4)) zp_11 rfl ?_
  refine zQ_copy (n0 := 4) (n1 := 4) (i := (0 : Int)) (j := (0 : Int)) (l := (4 : Int)) zp_11 rfl rfl rfl rfl kc_0 kc_0 kc_4 (fun _ _ _ _ _ => ?_)
  refine zQ_seq 7 (pc' := 139) (L' := [some (.ref 31), some (.ref 15)]) (S' := [.int (Int32.ofInt 4), .int (Int32.ofInt 0), .ref 36, .int (Int32.ofInt 0), .ref 20]) (h' := (zCpy (zCpy (zCpy (zCpy (zSet (zSet (zSet (zSet (zSet (zSet (zSet (zSet (zSet h 31 0 (h.1 15 0)) 31 1 (h.1 15 1)) 31 2 (h.1 15 2)) 31 3 (h.1 15 3)) 31 4 (h.1 15 4)) 31 5 (h.1 15 5)) 31 6 (h.1 15 6)) 31 7 (h.1 15 7)) 31 8 (h.1 15 8)) 16 32 0 0 3) 17 33 0 0 4) 18 34 0 0 4) 19 35 0 0 4)) zp_11 rfl ?_
  refine zQ_copy (n0 := 4) (n1 := 4) (i := (0 : Int)) (j := (0 : Int)) (l := (4 : Int)) zp_11 rfl rfl rfl rfl kc_0 kc_0 kc_4 (fun _ _ _ _ _ => ?_)
  refine zQ_seq 7 (pc' := 153) (L' := [some (.ref 31), some (.ref 15)]) (S' := [.int (Int32.ofInt 4), .int (Int32.ofInt 0), .ref 37, .int (Int32.ofInt 0), .ref 21]) (h' := (zCpy (zCpy (zCpy (zCpy (zCpy (zSet (zSet (zSet (zSet (zSet (zSet (zSet (zSet (zSet h 31 0 (h.1 15 0)) 31 1 (h.1 15 1)) 31 2 (h.1 15 2)) 31 3 (h.1 15 3)) 31 4 (h.1 15 4)) 31 5 (h.1 15 5)) 31 6 (h.1 15 6)) 31 7 (h.1 15 7)) 31 8 (h.1 15 8)) 16 32 0 0 3) 17 33 0 0 4) 18 34 0 0 4) 19 35 0 0 4) 20 36 0 0 4)) zp_11 rfl ?_
  refine zQ_copy (n0 := 4) (n1 := 4) (i := (0 : Int)) (j := (0 : Int)) (l := (4 : Int)) zp_11 rfl rfl rfl rfl kc_0 kc_0 kc_4 (fun _ _ _ _ _ => ?_)
  refine zQ_seq 7 (pc' := 167) (L' := [some (.ref 31), some (.ref 15)]) (S' := [.int (Int32.ofInt 4), .int (Int32.ofInt 0), .ref 38, .int (Int32.ofInt 0), .ref 22]) (h' := (zCpy (zCpy (zCpy (zCpy (zCpy (zCpy (zSet (zSet (zSet (zSet (zSet (zSet (zSet (zSet (zSet h 31 0 (h.1 15 0)) 31 1 (h.1 15 1)) 31 2 (h.1 15 2)) 31 3 (h.1 15 3)) 31 4 (h.1 15 4)) 31 5 (h.1 15 5)) 31 6 (h.1 15 6)) 31 7 (h.1 15 7)) 31 8 (h.1 15 8)) 16 32 0 0 3) 17 33 0 0 4) 18 34 0 0 4) 19 35 0 0 4) 20 36 0 0 4) 21 37 0 0 4)) zp_11 rfl ?_
  refine zQ_copy (n0 := 4) (n1 := 4) (i := (0 : Int)) (j := (0 : Int)) (l := (4 : Int)) zp_11 rfl rfl rfl rfl kc_0 kc_0 kc_4 (fun _ _ _ _ _ => ?_)
  exact zQ_retV zp_11 rfl H
theorem s_11_39_15 {h : zH} {Q : Option Value → zH → Prop} (H : Q none (zCpy (zCpy (zCpy (zCpy (zCpy (zCpy (zCpy (zSet (zSet (zSet (zSet (zSet (zSet (zSet (zSet (zSet h 39 0 (h.1 15 0)) 39 1 (h.1 15 1)) 39 2 (h.1 15 2)) 39 3 (h.1 15 3)) 39 4 (h.1 15 4)) 39 5 (h.1 15 5)) 39 6 (h.1 15 6)) 39 7 (h.1 15 7)) 39 8 (h.1 15 8)) 16 40 0 0 3) 17 41 0 0 4) 18 42 0 0 4) 19 43 0 0 4) 20 44 0 0 4) 21 45 0 0 4) 22 46 0 0 4)) : zqm 11 [.ref 39, .ref 15] h Q := by
  refine zqm_of zp_11 (fun n => ?_)
  show zQ n 11 0 [some (.ref 39), some (.ref 15)] [] h Q
  refine zQ_seq 3 (pc' := 5) (L' := [some (.ref 39), some (.ref 15)]) (S' := [.int (h.1 15 0), .ref 39]) (h' := h) zp_11 rfl ?_
  refine zQ_putb zp_11 rfl rfl rfl rfl ?_
  refine zQ_seq 39 (pc' := 83) (L' := [some (.ref 39), some (.ref 15)]) (S' := [.int (Int32.ofInt 3), .int (Int32.ofInt 0), .ref 40, .int (Int32.ofInt 0), .ref 16]) (h' := (zSet (zSet (zSet (zSet (zSet (zSet (zSet (zSet (zSet h 39 0 (h.1 15 0)) 39 1 (h.1 15 1)) 39 2 (h.1 15 2)) 39 3 (h.1 15 3)) 39 4 (h.1 15 4)) 39 5 (h.1 15 5)) 39 6 (h.1 15 6)) 39 7 (h.1 15 7)) 39 8 (h.1 15 8))) zp_11 rfl ?_
  refine zQ_copy (n0 := 3) (n1 := 3) (i := (0 : Int)) (j := (0 : Int)) (l := (3 : Int)) zp_11 rfl rfl rfl rfl kc_0 kc_0 kc_3 (fun _ _ _ _ _ => ?_)
  refine zQ_seq 7 (pc' := 97) (L' := [some (.ref 39), some (.ref 15)]) (S' := [.int (Int32.ofInt 4), .int (Int32.ofInt 0), .ref 41, .int (Int32.ofInt 0), .ref 17]) (h' := (zCpy (zSet (zSet (zSet (zSet (zSet (zSet (zSet (zSet (zSet h 39 0 (h.1 15 0)) 39 1 (h.1 15 1)) 39 2 (h.1 15 2)) 39 3 (h.1 15 3)) 39 4 (h.1 15 4)) 39 5 (h.1 15 5)) 39 6 (h.1 15 6)) 39 7 (h.1 15 7)) 39 8 (h.1 15 8)) 16 40 0 0 3)) zp_11 rfl ?_
  refine zQ_copy (n0 := 4) (n1 := 4) (i := (0 : Int)) (j := (0 : Int)) (l := (4 : Int)) zp_11 rfl rfl rfl rfl kc_0 kc_0 kc_4 (fun _ _ _ _ _ => ?_)
  refine zQ_seq 7 (pc' := 111) (L' := [some (.ref 39), some (.ref 15)]) (S' := [.int (Int32.ofInt 4), .int (Int32.ofInt 0), .ref 42, .int (Int32.ofInt 0), .ref 18]) (h' := (zCpy (zCpy (zSet (zSet (zSet (zSet (zSet (zSet (zSet (zSet (zSet h 39 0 (h.1 15 0)) 39 1 (h.1 15 1)) 39 2 (h.1 15 2)) 39 3 (h.1 15 3)) 39 4 (h.1 15 4)) 39 5 (h.1 15 5)) 39 6 (h.1 15 6)) 39 7 (h.1 15 7)) 39 8 (h.1 15 8)) 16 40 0 0 3) 17 41 0 0 4)) zp_11 rfl ?_
  refine zQ_copy (n0 := 4) (n1 := 4) (i := (0 : Int)) (j := (0 : Int)) (l := (4 : Int)) zp_11 rfl rfl rfl rfl kc_0 kc_0 kc_4 (fun _ _ _ _ _ => ?_)
  refine zQ_seq 7 (pc' := 125) (L' := [some (.ref 39), some (.ref 15)]) (S' := [.int (Int32.ofInt 4), .int (Int32.ofInt 0), .ref 43, .int (Int32.ofInt 0), .ref 19]) (h' := (zCpy (zCpy (zCpy (zSet (zSet (zSet (zSet (zSet (zSet (zSet (zSet (zSet h 39 0 (h.1 15 0)) 39 1 (h.1 15 1)) 39 2 (h.1 15 2)) 39 3 (h.1 15 3)) 39 4 (h.1 15 4)) 39 5 (h.1 15 5)) 39 6 (h.1 15 6)) 39 7 (h.1 15 7)) 39 8 (h.1 15 8)) 16 40 0 0 3) 17 41 0 0 4) 18 42 0 0 4)) zp_11 rfl ?_
  refine zQ_copy (n0 := 4) (n1 := 4) (i := (0 : Int)) (j := (0 : Int)) (l := (4 : Int)) zp_11 rfl rfl rfl rfl kc_0 kc_0 kc_4 (fun _ _ _ _ _ => ?_)
  refine zQ_seq 7 (pc' := 139) (L' := [some (.ref 39), some (.ref 15)]) (S' := [.int (Int32.ofInt 4), .int (Int32.ofInt 0), .ref 44, .int (Int32.ofInt 0), .ref 20]) (h' := (zCpy (zCpy (zCpy (zCpy (zSet (zSet (zSet (zSet (zSet (zSet (zSet (zSet (zSet h 39 0 (h.1 15 0)) 39 1 (h.1 15 1)) 39 2 (h.1 15 2)) 39 3 (h.1 15 3)) 39 4 (h.1 15 4)) 39 5 (h.1 15 5)) 39 6 (h.1 15 6)) 39 7 (h.1 15 7)) 39 8 (h.1 15 8)) 16 40 0 0 3) 17 41 0 0 4) 18 42 0 0 4) 19 43 0 0 4)) zp_11 rfl ?_
  refine zQ_copy (n0 := 4) (n1 := 4) (i := (0 : Int)) (j := (0 : Int)) (l := (4 : Int)) zp_11 rfl rfl rfl rfl kc_0 kc_0 kc_4 (fun _ _ _ _ _ => ?_)
  refine zQ_seq 7 (pc' := 153) (L' := [some (.ref 39), some (.ref 15)]) (S' := [.int (Int32.ofInt 4), .int (Int32.ofInt 0), .ref 45, .int (Int32.ofInt 0), .ref 21]) (h' := (zCpy (zCpy (zCpy (zCpy (zCpy (zSet (zSet (zSet (zSet (zSet (zSet (zSet (zSet (zSet h 39 0 (h.1 15 0)) 39 1 (h.1 15 1)) 39 2 (h.1 15 2)) 39 3 (h.1 15 3)) 39 4 (h.1 15 4)) 39 5 (h.1 15 5)) 39 6 (h.1 15 6)) 39 7 (h.1 15 7)) 39 8 (h.1 15 8)) 16 40 0 0 3) 17 41 0 0 4) 18 42 0 0 4) 19 43 0 0 4) 20 44 0 0 4)) zp_11 rfl ?_
  refine zQ_copy (n0 := 4) (n1 := 4) (i := (0 : Int)) (j := (0 : Int)) (l := (4 : Int)) zp_11 rfl rfl rfl rfl kc_0 kc_0 kc_4 (fun _ _ _ _ _ => ?_)
  refine zQ_seq 7 (pc' := 167) (L' := [some (.ref 39), some (.ref 15)]) (S' := [.int (Int32.ofInt 4), .int (Int32.ofInt 0), .ref 46, .int (Int32.ofInt 0), .ref 22]) (h' := (zCpy (zCpy (zCpy (zCpy (zCpy (zCpy (zSet (zSet (zSet (zSet (zSet (zSet (zSet (zSet (zSet h 39 0 (h.1 15 0)) 39 1 (h.1 15 1)) 39 2 (h.1 15 2)) 39 3 (h.1 15 3)) 39 4 (h.1 15 4)) 39 5 (h.1 15 5)) 39 6 (h.1 15 6)) 39 7 (h.1 15 7)) 39 8 (h.1 15 8)) 16 40 0 0 3) 17 41 0 0 4) 18 42 0 0 4) 19 43 0 0 4) 20 44 0 0 4) 21 45 0 0 4)) zp_11 rfl ?_
  refine zQ_copy (n0 := 4) (n1 := 4) (i := (0 : Int)) (j := (0 : Int)) (l := (4 : Int)) zp_11 rfl rfl rfl rfl kc_0 kc_0 kc_4 (fun _ _ _ _ _ => ?_)
  exact zQ_retV zp_11 rfl H
theorem s_12 {h : zH} {Q : Option Value → zH → Prop} (H : (∀ n, zQ n 12 7 [some (.ref 23), some (.int (Int32.ofInt 0)), none] [] (zSet h 23 7 (Int32.ofInt 0)) Q)) : zqm 12 [.ref 23] h Q := by
  refine zqm_of zp_12 (fun n => ?_)
  have H := H n
  show zQ n 12 0 [some (.ref 23), none, none] [] h Q
  refine zQ_seq 5 (pc' := 7) (L' := [some (.ref 23), some (.int (Int32.ofInt 0)), none]) (S' := []) (h' := (zSet h 23 7 (Int32.ofInt 0))) zp_12 rfl ?_
  exact H
theorem s_12_7 {n : Nat} {h : zH} {Q : Option Value → zH → Prop} (x1 : Int32) (o2 : Option Value) (H : (((3 : Int) ≤ x1.toInt → zQ n 12 53 [some (.ref 23), some (.int (Int32.ofInt 0)), o2] [] (zSet h 23 8 (Int32.ofInt 0)) Q) ∧ (¬ ((3 : Int) ≤ x1.toInt) → (0 ≤ x1.toInt → x1.toInt < 3 → zqm 14 [.int ((Int32.ofInt 32767) &&& ((h.1 24 x1.toInt.toNat) ^^^ (Int32.ofInt (-1))))] h (fun rv h3 => zri rv (fun v3 => zQ n 12 7 [some (.ref 23), some (.int (x1 + Int32.ofInt 1)), some (.int (h.1 24 x1.toInt.toNat))] [] (zSet h3 23 7 ((h.1 23 7) ||| ((h.1 24 x1.toInt.toNat) &&& v3))) Q)))))) : zQ (n + 1) 12 7 [some (.ref 23), some (.int x1), o2] [] h Q := by
  refine zQ_seqL 1 (pc' := 9) (L' := [some (.ref 23), some (.int x1), o2]) (S' := [.int (Int32.ofInt 3), .int x1]) (h' := h) zp_12 rfl ?_
  refine zQ_ic zp_12 rfl (t := 46) rfl (i := x1.toInt) (j := (3 : Int)) rfl kc_3 (fun c1 => ?_) (fun c1 => ?_)
  · refine zQ_seq 5 (pc' := 53) (L' := [some (.ref 23), some (.int (Int32.ofInt 0)), o2]) (S' := []) (h' := (zSet h 23 8 (Int32.ofInt 0))) zp_12 rfl ?_
    exact (H.1 c1)
  · refine zQ_seq 3 (pc' := 17) (L' := [some (.ref 23), some (.int x1), o2]) (S' := [.int x1, .ref 24]) (h' := h) zp_12 rfl ?_
    refine zQ_ial (N := 3) (f := h.1 24) zp_12 rfl rfl rfl (fun b2 b2' => ?_)
    refine zQ_seq 10 (pc' := 32) (L' := [some (.ref 23), some (.int x1), some (.int (h.1 24 x1.toInt.toNat))]) (S' := [.int ((Int32.ofInt 32767) &&& ((h.1 24 x1.toInt.toNat) ^^^ (Int32.ofInt (-1)))), .int (h.1 24 x1.toInt.toNat), .int (h.1 23 7), .ref 23]) (h' := h) zp_12 rfl ?_
    refine zQ_csI (M' := 14) (as := [.int ((Int32.ofInt 32767) &&& ((h.1 24 x1.toInt.toNat) ^^^ (Int32.ofInt (-1))))]) (S' := [.int (h.1 24 x1.toInt.toNat), .int (h.1 23 7), .ref 23]) zp_12 rfl rfl rfl zp_14 (Or.inl rfl) rfl rfl (zqm_imp ((H.2 c1) b2 b2') (fun rv h3 r3 => zri_imp r3 (fun v3 r3' => ?_)))
    refine zQ_seq 4 (pc' := 43) (L' := [some (.ref 23), some (.int (x1 + Int32.ofInt 1)), some (.int (h.1 24 x1.toInt.toNat))]) (S' := []) (h' := (zSet h3 23 7 ((h.1 23 7) ||| ((h.1 24 x1.toInt.toNat) &&& v3)))) zp_12 rfl ?_
    refine zQ_goto zp_12 rfl (t := 7) rfl ?_
    exact r3'
theorem s_12_53 {n : Nat} {h : zH} {Q : Option Value → zH → Prop} (x1 : Int32) (o2 : Option Value) (H : (((h.1 23 6).toInt ≤ x1.toInt → Q none (zSet h 23 0 (Int32.ofInt 1))) ∧ (¬ ((h.1 23 6).toInt ≤ x1.toInt) → zqm 13 [.ref 23, .int x1] h (fun _ h2 => zQ n 12 53 [some (.ref 23), some (.int (x1 + Int32.ofInt 1)), o2] [] h2 Q)))) : zQ (n + 1) 12 53 [some (.ref 23), some (.int x1), o2] [] h Q := by
  refine zQ_seqL 2 (pc' := 58) (L' := [some (.ref 23), some (.int x1), o2]) (S' := [.int (h.1 23 6), .int x1]) (h' := h) zp_12 rfl ?_
  refine zQ_ic zp_12 rfl (t := 72) rfl (i := x1.toInt) (j := (h.1 23 6).toInt) rfl rfl (fun c1 => ?_) (fun c1 => ?_)
  · refine zQ_seq 2 (pc' := 74) (L' := [some (.ref 23), some (.int x1), o2]) (S' := [.int (Int32.ofInt 1), .ref 23]) (h' := h) zp_12 rfl ?_
    refine zQ_putb zp_12 rfl rfl rfl rfl ?_
    exact zQ_retV zp_12 rfl (H.1 c1)
  · refine zQ_seq 2 (pc' := 63) (L' := [some (.ref 23), some (.int x1), o2]) (S' := [.int x1, .ref 23]) (h' := h) zp_12 rfl ?_
    refine zQ_cvV (M' := 13) (as := [.ref 23, .int x1]) (S' := []) zp_12 rfl rfl zp_13 rfl rfl rfl (zqm_imp (H.2 c1) (fun rv h2 r2 => ?_))
    refine zQ_seq 1 (pc' := 69) (L' := [some (.ref 23), some (.int (x1 + Int32.ofInt 1)), o2]) (S' := []) (h' := h2) zp_12 rfl ?_
    refine zQ_goto zp_12 rfl (t := 53) rfl ?_
    exact r2
theorem s_13 {h : zH} {Q : Option Value → zH → Prop} (a1 : Int32) (H : zqm 20 [.ref 23, .int a1] h (fun rv h1 => zri rv (fun v1 => ((¬ v1.toInt = 0 → zqm 21 [.ref 23, .int a1] h1 (fun rv h3 => zri rv (fun v3 => zqm 14 [.int v3] h3 (fun rv h4 => zri rv (fun v4 => (0 ≤ a1.toInt → a1.toInt < 4 → (0 ≤ a1.toInt → a1.toInt < 4 → (0 ≤ a1.toInt → a1.toInt < 4 → zqm 15 [.int (h4.1 25 a1.toInt.toNat), .int (h4.1 27 a1.toInt.toNat)] (zSet h4 28 a1.toInt.toNat (v3 ||| (v4 &&& (h4.1 23 7)))) (fun rv h8 => zri rv (fun v8 => (0 ≤ a1.toInt → a1.toInt < 4 → (0 ≤ a1.toInt → a1.toInt < 4 → (0 ≤ a1.toInt → a1.toInt < 4 → zqm 16 [.int (h8.1 25 a1.toInt.toNat), .int (h8.1 27 a1.toInt.toNat)] (zSet h8 29 a1.toInt.toNat v8) (fun rv h12 => zri rv (fun v12 => (0 ≤ a1.toInt → a1.toInt < 4 → (0 ≤ a1.toInt → a1.toInt < 4 → (((h12.1 29 a1.toInt.toNat).toInt ≤ 0 → (0 ≤ a1.toInt → a1.toInt < 4 → ((((zSet h12 30 a1.toInt.toNat v12).1 30 a1.toInt.toNat).toInt ≤ 0 → Q none (zSet (zSet (zSet h12 30 a1.toInt.toNat v12) 23 8 ((h12.1 23 8) ||| (Int32.ofInt 0))) 23 8 (((h12.1 23 8) ||| (Int32.ofInt 0)) ||| (Int32.ofInt 0)))) ∧ (¬ (((zSet h12 30 a1.toInt.toNat v12).1 30 a1.toInt.toNat).toInt ≤ 0) → (0 ≤ a1.toInt → a1.toInt < 4 → Q none (zSet (zSet (zSet h12 30 a1.toInt.toNat v12) 23 8 ((h12.1 23 8) ||| (Int32.ofInt 0))) 23 8 (((h12.1 23 8) ||| (Int32.ofInt 0)) ||| ((h12.1 28 a1.toInt.toNat) &&& ((h12.1 23 7) ^^^ (Int32.ofInt (-1))))))))))) ∧ (¬ ((h12.1 29 a1.toInt.toNat).toInt ≤ 0) → (0 ≤ a1.toInt → a1.toInt < 4 → (0 ≤ a1.toInt → a1.toInt < 4 → ((((zSet h12 30 a1.toInt.toNat v12).1 30 a1.toInt.toNat).toInt ≤ 0 → Q none (zSet (zSet (zSet h12 30 a1.toInt.toNat v12) 23 8 ((h12.1 23 8) ||| ((h12.1 28 a1.toInt.toNat) &&& (h12.1 23 7)))) 23 8 (((h12.1 23 8) ||| ((h12.1 28 a1.toInt.toNat) &&& (h12.1 23 7))) ||| (Int32.ofInt 0)))) ∧ (¬ (((zSet h12 30 a1.toInt.toNat v12).1 30 a1.toInt.toNat).toInt ≤ 0) → (0 ≤ a1.toInt → a1.toInt < 4 → Q none (zSet (zSet (zSet h12 30 a1.toInt.toNat v12) 23 8 ((h12.1 23 8) ||| ((h12.1 28 a1.toInt.toNat) &&& (h12.1 23 7)))) 23 8 (((h12.1 23 8) ||| ((h12.1 28 a1.toInt.toNat) &&& (h12.1 23 7))) ||| ((h12.1 28 a1.toInt.toNat) &&& ((h12.1 23 7) ^^^ (Int32.ofInt (-1)))))))))))))))))))))))))))))) ∧ (¬ (¬ v1.toInt = 0) → Q none h1))))) : zqm 13 [.ref 23, .int a1] h Q := by
  refine zqm_of zp_13 (fun n => ?_)
  show zQ n 13 0 [some (.ref 23), some (.int a1), none] [] h Q
  refine zQ_seq 2 (pc' := 2) (L' := [some (.ref 23), some (.int a1), none]) (S' := [.int a1, .ref 23]) (h' := h) zp_13 rfl ?_
  refine zQ_cvI (M' := 20) (as := [.ref 23, .int a1]) (S' := []) zp_13 rfl rfl zp_20 (Or.inr rfl) rfl rfl (zqm_imp H (fun rv h1 r1 => zri_imp r1 (fun v1 r1' => ?_)))
  refine zQ_if zp_13 rfl (t := 9) rfl (i := v1.toInt) rfl (fun c2 => ?_) (fun c2 => ?_)
  · refine zQ_seq 2 (pc' := 11) (L' := [some (.ref 23), some (.int a1), none]) (S' := [.int a1, .ref 23]) (h' := h1) zp_13 rfl ?_
    refine zQ_cvI (M' := 21) (as := [.ref 23, .int a1]) (S' := []) zp_13 rfl rfl zp_21 (Or.inl rfl) rfl rfl (zqm_imp (r1'.1 c2) (fun rv h3 r3 => zri_imp r3 (fun v3 r3' => ?_)))
    refine zQ_seq 6 (pc' := 22) (L' := [some (.ref 23), some (.int a1), some (.int v3)]) (S' := [.int v3, .int v3, .int a1, .ref 28]) (h' := h3) zp_13 rfl ?_
    refine zQ_csI (M' := 14) (as := [.int v3]) (S' := [.int v3, .int a1, .ref 28]) zp_13 rfl rfl rfl zp_14 (Or.inl rfl) rfl rfl (zqm_imp r3' (fun rv h4 r4 => zri_imp r4 (fun v4 r4' => ?_)))
    refine zQ_seq 4 (pc' := 31) (L' := [some (.ref 23), some (.int a1), some (.int v3)]) (S' := [.int (v3 ||| (v4 &&& (h4.1 23 7))), .int a1, .ref 28]) (h' := h4) zp_13 rfl ?_
    refine zQ_ias (N := 4) zp_13 rfl rfl rfl (fun b5 b5' => ?_)
    refine zQ_seq 6 (pc' := 42) (L' := [some (.ref 23), some (.int a1), some (.int v3)]) (S' := [.int a1, .ref 25, .int a1, .ref 29]) (h' := (zSet h4 28 a1.toInt.toNat (v3 ||| (v4 &&& (h4.1 23 7))))) zp_13 rfl ?_
    refine zQ_ial (N := 4) (f := (zSet h4 28 a1.toInt.toNat (v3 ||| (v4 &&& (h4.1 23 7)))).1 25) zp_13 rfl rfl rfl (fun b6 b6' => ?_)
    refine zQ_seq 3 (pc' := 48) (L' := [some (.ref 23), some (.int a1), some (.int v3)]) (S' := [.int a1, .ref 27, .int (h4.1 25 a1.toInt.toNat), .int a1, .ref 29]) (h' := (zSet h4 28 a1.toInt.toNat (v3 ||| (v4 &&& (h4.1 23 7))))) zp_13 rfl ?_
    refine zQ_ial (N := 4) (f := (zSet h4 28 a1.toInt.toNat (v3 ||| (v4 &&& (h4.1 23 7)))).1 27) zp_13 rfl rfl rfl (fun b7 b7' => ?_)
    refine zQ_csI (M' := 15) (as := [.int (h4.1 25 a1.toInt.toNat), .int (h4.1 27 a1.toInt.toNat)]) (S' := [.int a1, .ref 29]) zp_13 rfl rfl rfl zp_15 (Or.inl rfl) rfl rfl (zqm_imp (((r4' b5 b5') b6 b6') b7 b7') (fun rv h8 r8 => zri_imp r8 (fun v8 r8' => ?_)))
    refine zQ_ias (N := 4) zp_13 rfl rfl rfl (fun b9 b9' => ?_)
    refine zQ_seq 6 (pc' := 63) (L' := [some (.ref 23), some (.int a1), some (.int v3)]) (S' := [.int a1, .ref 25, .int a1, .ref 30]) (h' := (zSet h8 29 a1.toInt.toNat v8)) zp_13 rfl ?_
    refine zQ_ial (N := 4) (f := (zSet h8 29 a1.toInt.toNat v8).1 25) zp_13 rfl rfl rfl (fun b10 b10' => ?_)
    refine zQ_seq 3 (pc' := 69) (L' := [some (.ref 23), some (.int a1), some (.int v3)]) (S' := [.int a1, .ref 27, .int (h8.1 25 a1.toInt.toNat), .int a1, .ref 30]) (h' := (zSet h8 29 a1.toInt.toNat v8)) zp_13 rfl ?_
    refine zQ_ial (N := 4) (f := (zSet h8 29 a1.toInt.toNat v8).1 27) zp_13 rfl rfl rfl (fun b11 b11' => ?_)
    refine zQ_csI (M' := 16) (as := [.int (h8.1 25 a1.toInt.toNat), .int (h8.1 27 a1.toInt.toNat)]) (S' := [.int a1, .ref 30]) zp_13 rfl rfl rfl zp_16 (Or.inl rfl) rfl rfl (zqm_imp (((r8' b9 b9') b10 b10') b11 b11') (fun rv h12 r12 => zri_imp r12 (fun v12 r12' => ?_)))
    refine zQ_ias (N := 4) zp_13 rfl rfl rfl (fun b13 b13' => ?_)
    refine zQ_seq 6 (pc' := 84) (L' := [some (.ref 23), some (.int a1), some (.int v3)]) (S' := [.int a1, .ref 29, .int (h12.1 23 8), .ref 23]) (h' := (zSet h12 30 a1.toInt.toNat v12)) zp_13 rfl ?_
    refine zQ_ial (N := 4) (f := (zSet h12 30 a1.toInt.toNat v12).1 29) zp_13 rfl rfl rfl (fun b14 b14' => ?_)
    refine zQ_if zp_13 rfl (t := 102) rfl (i := (h12.1 29 a1.toInt.toNat).toInt) rfl (fun c15 => ?_) (fun c15 => ?_)
    · refine zQ_seq 9 (pc' := 117) (L' := [some (.ref 23), some (.int a1), some (.int v3)]) (S' := [.int a1, .ref 30, .int ((h12.1 23 8) ||| (Int32.ofInt 0)), .ref 23]) (h' := (zSet (zSet h12 30 a1.toInt.toNat v12) 23 8 ((h12.1 23 8) ||| (Int32.ofInt 0)))) zp_13 rfl ?_
      refine zQ_ial (N := 4) (f := (zSet (zSet h12 30 a1.toInt.toNat v12) 23 8 ((h12.1 23 8) ||| (Int32.ofInt 0))).1 30) zp_13 rfl rfl rfl (fun b16 b16' => ?_)
      refine zQ_if zp_13 rfl (t := 137) rfl (i := ((zSet h12 30 a1.toInt.toNat v12).1 30 a1.toInt.toNat).toInt) rfl (fun c17 => ?_) (fun c17 => ?_)
      · refine zQ_seq 3 (pc' := 142) (L' := [some (.ref 23), some (.int a1), some (.int v3)]) (S' := []) (h' := (zSet (zSet (zSet h12 30 a1.toInt.toNat v12) 23 8 ((h12.1 23 8) ||| (Int32.ofInt 0))) 23 8 (((h12.1 23 8) ||| (Int32.ofInt 0)) ||| (Int32.ofInt 0)))) zp_13 rfl ?_
        exact zQ_retV zp_13 rfl (((((r12' b13 b13') b14 b14').1 c15) b16 b16').1 c17)
      · refine zQ_seq 3 (pc' := 126) (L' := [some (.ref 23), some (.int a1), some (.int v3)]) (S' := [.int a1, .ref 28, .int ((h12.1 23 8) ||| (Int32.ofInt 0)), .ref 23]) (h' := (zSet (zSet h12 30 a1.toInt.toNat v12) 23 8 ((h12.1 23 8) ||| (Int32.ofInt 0)))) zp_13 rfl ?_
        refine zQ_ial (N := 4) (f := (zSet (zSet h12 30 a1.toInt.toNat v12) 23 8 ((h12.1 23 8) ||| (Int32.ofInt 0))).1 28) zp_13 rfl rfl rfl (fun b18 b18' => ?_)
        refine zQ_seq 5 (pc' := 134) (L' := [some (.ref 23), some (.int a1), some (.int v3)]) (S' := [.int ((h12.1 28 a1.toInt.toNat) &&& ((h12.1 23 7) ^^^ (Int32.ofInt (-1)))), .int ((h12.1 23 8) ||| (Int32.ofInt 0)), .ref 23]) (h' := (zSet (zSet h12 30 a1.toInt.toNat v12) 23 8 ((h12.1 23 8) ||| (Int32.ofInt 0)))) zp_13 rfl ?_
        refine zQ_goto zp_13 rfl (t := 138) rfl ?_
        refine zQ_seq 2 (pc' := 142) (L' := [some (.ref 23), some (.int a1), some (.int v3)]) (S' := []) (h' := (zSet (zSet (zSet h12 30 a1.toInt.toNat v12) 23 8 ((h12.1 23 8) ||| (Int32.ofInt 0))) 23 8 (((h12.1 23 8) ||| (Int32.ofInt 0)) ||| ((h12.1 28 a1.toInt.toNat) &&& ((h12.1 23 7) ^^^ (Int32.ofInt (-1))))))) zp_13 rfl ?_
        exact zQ_retV zp_13 rfl ((((((r12' b13 b13') b14 b14').1 c15) b16 b16').2 c17) b18 b18')
    · refine zQ_seq 3 (pc' := 93) (L' := [some (.ref 23), some (.int a1), some (.int v3)]) (S' := [.int a1, .ref 28, .int (h12.1 23 8), .ref 23]) (h' := (zSet h12 30 a1.toInt.toNat v12)) zp_13 rfl ?_
      refine zQ_ial (N := 4) (f := (zSet h12 30 a1.toInt.toNat v12).1 28) zp_13 rfl rfl rfl (fun b19 b19' => ?_)
      refine zQ_seq 3 (pc' := 99) (L' := [some (.ref 23), some (.int a1), some (.int v3)]) (S' := [.int ((h12.1 28 a1.toInt.toNat) &&& (h12.1 23 7)), .int (h12.1 23 8), .ref 23]) (h' := (zSet h12 30 a1.toInt.toNat v12)) zp_13 rfl ?_
      refine zQ_goto zp_13 rfl (t := 103) rfl ?_
      refine zQ_seq 8 (pc' := 117) (L' := [some (.ref 23), some (.int a1), some (.int v3)]) (S' := [.int a1, .ref 30, .int ((h12.1 23 8) ||| ((h12.1 28 a1.toInt.toNat) &&& (h12.1 23 7))), .ref 23]) (h' := (zSet (zSet h12 30 a1.toInt.toNat v12) 23 8 ((h12.1 23 8) ||| ((h12.1 28 a1.toInt.toNat) &&& (h12.1 23 7))))) zp_13 rfl ?_
      refine zQ_ial (N := 4) (f := (zSet (zSet h12 30 a1.toInt.toNat v12) 23 8 ((h12.1 23 8) ||| ((h12.1 28 a1.toInt.toNat) &&& (h12.1 23 7)))).1 30) zp_13 rfl rfl rfl (fun b20 b20' => ?_)
      refine zQ_if zp_13 rfl (t := 137) rfl (i := ((zSet h12 30 a1.toInt.toNat v12).1 30 a1.toInt.toNat).toInt) rfl (fun c21 => ?_) (fun c21 => ?_)
      · refine zQ_seq 3 (pc' := 142) (L' := [some (.ref 23), some (.int a1), some (.int v3)]) (S' := []) (h' := (zSet (zSet (zSet h12 30 a1.toInt.toNat v12) 23 8 ((h12.1 23 8) ||| ((h12.1 28 a1.toInt.toNat) &&& (h12.1 23 7)))) 23 8 (((h12.1 23 8) ||| ((h12.1 28 a1.toInt.toNat) &&& (h12.1 23 7))) ||| (Int32.ofInt 0)))) zp_13 rfl ?_
        exact zQ_retV zp_13 rfl ((((((r12' b13 b13') b14 b14').2 c15) b19 b19') b20 b20').1 c21)
      · refine zQ_seq 3 (pc' := 126) (L' := [some (.ref 23), some (.int a1), some (.int v3)]) (S' := [.int a1, .ref 28, .int ((h12.1 23 8) ||| ((h12.1 28 a1.toInt.toNat) &&& (h12.1 23 7))), .ref 23]) (h' := (zSet (zSet h12 30 a1.toInt.toNat v12) 23 8 ((h12.1 23 8) ||| ((h12.1 28 a1.toInt.toNat) &&& (h12.1 23 7))))) zp_13 rfl ?_
        refine zQ_ial (N := 4) (f := (zSet (zSet h12 30 a1.toInt.toNat v12) 23 8 ((h12.1 23 8) ||| ((h12.1 28 a1.toInt.toNat) &&& (h12.1 23 7)))).1 28) zp_13 rfl rfl rfl (fun b22 b22' => ?_)
        refine zQ_seq 5 (pc' := 134) (L' := [some (.ref 23), some (.int a1), some (.int v3)]) (S' := [.int ((h12.1 28 a1.toInt.toNat) &&& ((h12.1 23 7) ^^^ (Int32.ofInt (-1)))), .int ((h12.1 23 8) ||| ((h12.1 28 a1.toInt.toNat) &&& (h12.1 23 7))), .ref 23]) (h' := (zSet (zSet h12 30 a1.toInt.toNat v12) 23 8 ((h12.1 23 8) ||| ((h12.1 28 a1.toInt.toNat) &&& (h12.1 23 7))))) zp_13 rfl ?_
        refine zQ_goto zp_13 rfl (t := 138) rfl ?_
        refine zQ_seq 2 (pc' := 142) (L' := [some (.ref 23), some (.int a1), some (.int v3)]) (S' := []) (h' := (zSet (zSet (zSet h12 30 a1.toInt.toNat v12) 23 8 ((h12.1 23 8) ||| ((h12.1 28 a1.toInt.toNat) &&& (h12.1 23 7)))) 23 8 (((h12.1 23 8) ||| ((h12.1 28 a1.toInt.toNat) &&& (h12.1 23 7))) ||| ((h12.1 28 a1.toInt.toNat) &&& ((h12.1 23 7) ^^^ (Int32.ofInt (-1))))))) zp_13 rfl ?_
        exact zQ_retV zp_13 rfl (((((((r12' b13 b13') b14 b14').2 c15) b19 b19') b20 b20').2 c21) b22 b22')
  · exact zQ_retV zp_13 rfl (r1'.2 c2)
theorem s_14 {h : zH} {Q : Option Value → zH → Prop} (a0 : Int32) (H : Q (some (.int ((((((a0 &&& (Int32.ofInt (-16913))) <<< ((Int32.ofInt 1) &&& 31)) ||| ((a0 &&& (Int32.ofInt (-1058))) >>> ((Int32.ofInt 1) &&& 31))) ||| (a0 <<< ((Int32.ofInt 5) &&& 31))) ||| (a0 >>> ((Int32.ofInt 5) &&& 31))) &&& (Int32.ofInt 32767)))) h) : zqm 14 [.int a0] h Q := by
  refine zqm_of zp_14 (fun n => ?_)
  show zQ n 14 0 [some (.int a0), none] [] h Q
  refine zQ_seq 23 (pc' := 29) (L' := [some (.int a0), some (.int (((a0 &&& (Int32.ofInt (-16913))) <<< ((Int32.ofInt 1) &&& 31)) ||| ((a0 &&& (Int32.ofInt (-1058))) >>> ((Int32.ofInt 1) &&& 31))))]) (S' := [.int ((((((a0 &&& (Int32.ofInt (-16913))) <<< ((Int32.ofInt 1) &&& 31)) ||| ((a0 &&& (Int32.ofInt (-1058))) >>> ((Int32.ofInt 1) &&& 31))) ||| (a0 <<< ((Int32.ofInt 5) &&& 31))) ||| (a0 >>> ((Int32.ofInt 5) &&& 31))) &&& (Int32.ofInt 32767))]) (h' := h) zp_14 rfl ?_
  exact zQ_retI zp_14 rfl H
theorem s_15 {h : zH} {Q : Option Value → zH → Prop} (a0 : Int32) (a1 : Int32) (H : ((a0.toInt = 1 → Q (some (.int a1)) h) ∧ ((a0.toInt = 2 → Q (some (.int (a1 / (Int32.ofInt 2)))) h) ∧ ((a0.toInt = 3 → Q (some (.int ((Int32.ofInt 2) * a1))) h) ∧ ((a0.toInt < 1 ∨ 3 < a0.toInt) → Q (some (.int (Int32.ofInt 1))) h))))) : zqm 15 [.int a0, .int a1] h Q := by
  refine zqm_of zp_15 (fun n => ?_)
  show zQ n 15 0 [some (.int a0), some (.int a1)] [] h Q
  refine zQ_seq 1 (pc' := 1) (L' := [some (.int a0), some (.int a1)]) (S' := [.int a0]) (h' := h) zp_15 rfl ?_
  refine zQ_tsw zp_15 rfl (fun t ht => ?_)
  rcases (by omega : a0.toInt = 1 ∨ a0.toInt = 2 ∨ a0.toInt = 3 ∨ (a0.toInt < 1 ∨ 3 < a0.toInt)) with c1 | c1 | c1 | c1
  · have e : (some 28 : Option Nat) = some t := by rw [c1] at ht; exact ht
    cases e
    refine zQ_seq 1 (pc' := 29) (L' := [some (.int a0), some (.int a1)]) (S' := [.int a1]) (h' := h) zp_15 rfl ?_
    exact zQ_retI zp_15 rfl (H.1 c1)
  · have e : (some 30 : Option Nat) = some t := by rw [c1] at ht; exact ht
    cases e
    refine zQ_seq 2 (pc' := 32) (L' := [some (.int a0), some (.int a1)]) (S' := [.int (Int32.ofInt 2), .int a1]) (h' := h) zp_15 rfl ?_
    refine zQ_div zp_15 rfl (fun _ => ?_)
    exact zQ_retI zp_15 rfl (H.2.1 c1)
  · have e : (some 34 : Option Nat) = some t := by rw [c1] at ht; exact ht
    cases e
    refine zQ_seq 3 (pc' := 37) (L' := [some (.int a0), some (.int a1)]) (S' := [.int ((Int32.ofInt 2) * a1)]) (h' := h) zp_15 rfl ?_
    exact zQ_retI zp_15 rfl (H.2.2.1 c1)
  · have e : (some 38 : Option Nat) = some t := by rw [zTsw_d (t' := 38) rfl c1 ht]
    cases e
    refine zQ_seq 1 (pc' := 39) (L' := [some (.int a0), some (.int a1)]) (S' := [.int (Int32.ofInt 1)]) (h' := h) zp_15 rfl ?_
    exact zQ_retI zp_15 rfl (H.2.2.2 c1)
theorem s_16 {h : zH} {Q : Option Value → zH → Prop} (a0 : Int32) (a1 : Int32) (H : ((a0.toInt = 1 → Q (some (.int a1)) h) ∧ ((a0.toInt = 2 → Q (some (.int (a1 / (Int32.ofInt 2)))) h) ∧ ((a0.toInt = 3 → Q (some (.int a1)) h) ∧ ((a0.toInt = 4 → Q (some (.int (Int32.ofInt 1))) h) ∧ ((a0.toInt < 1 ∨ 4 < a0.toInt) → Q (some (.int (Int32.ofInt 0))) h)))))) : zqm 16 [.int a0, .int a1] h Q := by
  refine zqm_of zp_16 (fun n => ?_)
  show zQ n 16 0 [some (.int a0), some (.int a1)] [] h Q
  refine zQ_seq 1 (pc' := 1) (L' := [some (.int a0), some (.int a1)]) (S' := [.int a0]) (h' := h) zp_16 rfl ?_
  refine zQ_tsw zp_16 rfl (fun t ht => ?_)
  rcases (by omega : a0.toInt = 1 ∨ a0.toInt = 2 ∨ a0.toInt = 3 ∨ a0.toInt = 4 ∨ (a0.toInt < 1 ∨ 4 < a0.toInt)) with c1 | c1 | c1 | c1 | c1
  · have e : (some 32 : Option Nat) = some t := by rw [c1] at ht; exact ht
    cases e
    refine zQ_seq 1 (pc' := 33) (L' := [some (.int a0), some (.int a1)]) (S' := [.int a1]) (h' := h) zp_16 rfl ?_
    exact zQ_retI zp_16 rfl (H.1 c1)
  · have e : (some 34 : Option Nat) = some t := by rw [c1] at ht; exact ht
    cases e
    refine zQ_seq 2 (pc' := 36) (L' := [some (.int a0), some (.int a1)]) (S' := [.int (Int32.ofInt 2), .int a1]) (h' := h) zp_16 rfl ?_
    refine zQ_div zp_16 rfl (fun _ => ?_)
    exact zQ_retI zp_16 rfl (H.2.1 c1)
  · have e : (some 38 : Option Nat) = some t := by rw [c1] at ht; exact ht
    cases e
    refine zQ_seq 1 (pc' := 39) (L' := [some (.int a0), some (.int a1)]) (S' := [.int a1]) (h' := h) zp_16 rfl ?_
    exact zQ_retI zp_16 rfl (H.2.2.1 c1)
  · have e : (some 40 : Option Nat) = some t := by rw [c1] at ht; exact ht
    cases e
    refine zQ_seq 1 (pc' := 41) (L' := [some (.int a0), some (.int a1)]) (S' := [.int (Int32.ofInt 1)]) (h' := h) zp_16 rfl ?_
    exact zQ_retI zp_16 rfl (H.2.2.2.1 c1)
  · have e : (some 42 : Option Nat) = some t := by rw [zTsw_d (t' := 42) rfl c1 ht]
    cases e
    refine zQ_seq 1 (pc' := 43) (L' := [some (.int a0), some (.int a1)]) (S' := [.int (Int32.ofInt 0)]) (h' := h) zp_16 rfl ?_
    exact zQ_retI zp_16 rfl (H.2.2.2.2 c1)
theorem s_17 {h : zH} {Q : Option Value → zH → Prop} (a1 : Int32) (a2 : Int32) (H : zqm 20 [.ref 15, .int a1] h (fun rv h1 => zri rv (fun v1 => ((¬ v1.toInt = 0 → (0 ≤ a1.toInt → a1.toInt < 4 → zqm 217 [.int ((a2 &&& (h1.1 20 a1.toInt.toNat)) &&& (h1.1 15 7))] h1 (fun rv h4 => zri rv (fun v4 => (0 ≤ a1.toInt → a1.toInt < 4 → zqm 217 [.int ((a2 &&& (h1.1 20 a1.toInt.toNat)) &&& ((h4.1 15 7) ^^^ (Int32.ofInt (-1))))] h4 (fun rv h6 => zri rv (fun v6 => (0 ≤ a1.toInt → a1.toInt < 4 → Q (some (.int ((v4 * (h4.1 21 a1.toInt.toNat)) + (v6 * (h6.1 22 a1.toInt.toNat))))) h6)))))))) ∧ (¬ (¬ v1.toInt = 0) → Q (some (.int (Int32.ofInt 0))) h1))))) : zqm 17 [.ref 15, .int a1, .int a2] h Q := by
  refine zqm_of zp_17 (fun n => ?_)
  show zQ n 17 0 [some (.ref 15), some (.int a1), some (.int a2), none] [] h Q
  refine zQ_seq 2 (pc' := 2) (L' := [some (.ref 15), some (.int a1), some (.int a2), none]) (S' := [.int a1, .ref 15]) (h' := h) zp_17 rfl ?_
  refine zQ_cvI (M' := 20) (as := [.ref 15, .int a1]) (S' := []) zp_17 rfl rfl zp_20 (Or.inr rfl) rfl rfl (zqm_imp H (fun rv h1 r1 => zri_imp r1 (fun v1 r1' => ?_)))
  refine zQ_if zp_17 rfl (t := 10) rfl (i := v1.toInt) rfl (fun c2 => ?_) (fun c2 => ?_)
  · refine zQ_seq 4 (pc' := 16) (L' := [some (.ref 15), some (.int a1), some (.int a2), none]) (S' := [.int a1, .ref 20, .int a2]) (h' := h1) zp_17 rfl ?_
    refine zQ_ial (N := 4) (f := h1.1 20) zp_17 rfl rfl rfl (fun b3 b3' => ?_)
    refine zQ_seq 6 (pc' := 25) (L' := [some (.ref 15), some (.int a1), some (.int a2), some (.int (a2 &&& (h1.1 20 a1.toInt.toNat)))]) (S' := [.int ((a2 &&& (h1.1 20 a1.toInt.toNat)) &&& (h1.1 15 7))]) (h' := h1) zp_17 rfl ?_
    refine zQ_csI (M' := 217) (as := [.int ((a2 &&& (h1.1 20 a1.toInt.toNat)) &&& (h1.1 15 7))]) (S' := []) zp_17 rfl rfl rfl zp_217 (Or.inl rfl) rfl rfl (zqm_imp ((r1'.1 c2) b3 b3') (fun rv h4 r4 => zri_imp r4 (fun v4 r4' => ?_)))
    refine zQ_seq 3 (pc' := 33) (L' := [some (.ref 15), some (.int a1), some (.int a2), some (.int (a2 &&& (h1.1 20 a1.toInt.toNat)))]) (S' := [.int a1, .ref 21, .int v4]) (h' := h4) zp_17 rfl ?_
    refine zQ_ial (N := 4) (f := h4.1 21) zp_17 rfl rfl rfl (fun b5 b5' => ?_)
    refine zQ_seq 7 (pc' := 43) (L' := [some (.ref 15), some (.int a1), some (.int a2), some (.int (a2 &&& (h1.1 20 a1.toInt.toNat)))]) (S' := [.int ((a2 &&& (h1.1 20 a1.toInt.toNat)) &&& ((h4.1 15 7) ^^^ (Int32.ofInt (-1)))), .int (v4 * (h4.1 21 a1.toInt.toNat))]) (h' := h4) zp_17 rfl ?_
    refine zQ_csI (M' := 217) (as := [.int ((a2 &&& (h1.1 20 a1.toInt.toNat)) &&& ((h4.1 15 7) ^^^ (Int32.ofInt (-1))))]) (S' := [.int (v4 * (h4.1 21 a1.toInt.toNat))]) zp_17 rfl rfl rfl zp_217 (Or.inl rfl) rfl rfl (zqm_imp (r4' b5 b5') (fun rv h6 r6 => zri_imp r6 (fun v6 r6' => ?_)))
    refine zQ_seq 3 (pc' := 51) (L' := [some (.ref 15), some (.int a1), some (.int a2), some (.int (a2 &&& (h1.1 20 a1.toInt.toNat)))]) (S' := [.int a1, .ref 22, .int v6, .int (v4 * (h4.1 21 a1.toInt.toNat))]) (h' := h6) zp_17 rfl ?_
    refine zQ_ial (N := 4) (f := h6.1 22) zp_17 rfl rfl rfl (fun b7 b7' => ?_)
    refine zQ_seq 2 (pc' := 54) (L' := [some (.ref 15), some (.int a1), some (.int a2), some (.int (a2 &&& (h1.1 20 a1.toInt.toNat)))]) (S' := [.int ((v4 * (h4.1 21 a1.toInt.toNat)) + (v6 * (h6.1 22 a1.toInt.toNat)))]) (h' := h6) zp_17 rfl ?_
    exact zQ_retI zp_17 rfl (r6' b7 b7')
  · refine zQ_seq 1 (pc' := 9) (L' := [some (.ref 15), some (.int a1), some (.int a2), none]) (S' := [.int (Int32.ofInt 0)]) (h' := h1) zp_17 rfl ?_
    exact zQ_retI zp_17 rfl (r1'.2 c2)
theorem s_19 {h : zH} {Q : Option Value → zH → Prop} (a1 : Int32) (H : (∀ n, zQ n 19 2 [some (.ref 15), some (.int a1), some (.ref 57), some (.int (Int32.ofInt 0))] [] h Q)) : zqm 19 [.ref 15, .int a1, .ref 57] h Q := by
  refine zqm_of zp_19 (fun n => ?_)
  have H := H n
  show zQ n 19 0 [some (.ref 15), some (.int a1), some (.ref 57), none] [] h Q
  refine zQ_seq 2 (pc' := 2) (L' := [some (.ref 15), some (.int a1), some (.ref 57), some (.int (Int32.ofInt 0))]) (S' := []) (h' := h) zp_19 rfl ?_
  exact H
theorem s_19_2 {n : Nat} {h : zH} {Q : Option Value → zH → Prop} (x1 : Int32) (x3 : Int32) (H : (((h.1 15 6).toInt ≤ x3.toInt → Q (some (.int (Int32.ofInt 1))) h) ∧ (¬ ((h.1 15 6).toInt ≤ x3.toInt) → (((Int32.ofNat 4).toInt ≤ x3.toInt → Q (some (.int (Int32.ofInt 1))) h) ∧ (¬ ((Int32.ofNat 4).toInt ≤ x3.toInt) → zqm 17 [.ref 15, .int x3, .int x1] h (fun rv h3 => zri rv (fun v3 => (0 ≤ x3.toInt → x3.toInt < 4 → ((v3.toInt = (h3.1 57 x3.toInt.toNat).toInt → zQ n 19 2 [some (.ref 15), some (.int x1), some (.ref 57), some (.int (x3 + Int32.ofInt 1))] [] h3 Q) ∧ (¬ (v3.toInt = (h3.1 57 x3.toInt.toNat).toInt) → Q (some (.int (Int32.ofInt 0))) h3)))))))))) : zQ (n + 1) 19 2 [some (.ref 15), some (.int x1), some (.ref 57), some (.int x3)] [] h Q := by
  refine zQ_seqL 2 (pc' := 7) (L' := [some (.ref 15), some (.int x1), some (.ref 57), some (.int x3)]) (S' := [.int (h.1 15 6), .int x3]) (h' := h) zp_19 rfl ?_
  refine zQ_ic zp_19 rfl (t := 36) rfl (i := x3.toInt) (j := (h.1 15 6).toInt) rfl rfl (fun c1 => ?_) (fun c1 => ?_)
  · refine zQ_seq 1 (pc' := 37) (L' := [some (.ref 15), some (.int x1), some (.ref 57), some (.int x3)]) (S' := [.int (Int32.ofInt 1)]) (h' := h) zp_19 rfl ?_
    exact zQ_retI zp_19 rfl (H.1 c1)
  · refine zQ_seq 3 (pc' := 13) (L' := [some (.ref 15), some (.int x1), some (.ref 57), some (.int x3)]) (S' := [.int (Int32.ofNat 4), .int x3]) (h' := h) zp_19 rfl ?_
    refine zQ_ic zp_19 rfl (t := 36) rfl (i := x3.toInt) (j := (Int32.ofNat 4).toInt) rfl rfl (fun c2 => ?_) (fun c2 => ?_)
    · refine zQ_seq 1 (pc' := 37) (L' := [some (.ref 15), some (.int x1), some (.ref 57), some (.int x3)]) (S' := [.int (Int32.ofInt 1)]) (h' := h) zp_19 rfl ?_
      exact zQ_retI zp_19 rfl ((H.2 c1).1 c2)
    · refine zQ_seq 3 (pc' := 19) (L' := [some (.ref 15), some (.int x1), some (.ref 57), some (.int x3)]) (S' := [.int x1, .int x3, .ref 15]) (h' := h) zp_19 rfl ?_
      refine zQ_cvI (M' := 17) (as := [.ref 15, .int x3, .int x1]) (S' := []) zp_19 rfl rfl zp_17 (Or.inl rfl) rfl rfl (zqm_imp ((H.2 c1).2 c2) (fun rv h3 r3 => zri_imp r3 (fun v3 r3' => ?_)))
      refine zQ_seq 2 (pc' := 24) (L' := [some (.ref 15), some (.int x1), some (.ref 57), some (.int x3)]) (S' := [.int x3, .ref 57, .int v3]) (h' := h3) zp_19 rfl ?_
      refine zQ_ial (N := 4) (f := h3.1 57) zp_19 rfl rfl rfl (fun b4 b4' => ?_)
      refine zQ_ic zp_19 rfl (t := 30) rfl (i := v3.toInt) (j := (h3.1 57 x3.toInt.toNat).toInt) rfl rfl (fun c5 => ?_) (fun c5 => ?_)
      · refine zQ_seq 1 (pc' := 33) (L' := [some (.ref 15), some (.int x1), some (.ref 57), some (.int (x3 + Int32.ofInt 1))]) (S' := []) (h' := h3) zp_19 rfl ?_
        refine zQ_goto zp_19 rfl (t := 2) rfl ?_
        exact ((r3' b4 b4').1 c5)
      · refine zQ_seq 1 (pc' := 29) (L' := [some (.ref 15), some (.int x1), some (.ref 57), some (.int x3)]) (S' := [.int (Int32.ofInt 0)]) (h' := h3) zp_19 rfl ?_
        exact zQ_retI zp_19 rfl ((r3' b4 b4').2 c5)
theorem s_20_15 {h : zH} {Q : Option Value → zH → Prop} (a1 : Int32) (H : ((a1.toInt < 0 → Q (some (.int (Int32.ofInt 0))) h) ∧ (¬ (a1.toInt < 0) → (((h.1 15 6).toInt ≤ a1.toInt → Q (some (.int (Int32.ofInt 0))) h) ∧ (¬ ((h.1 15 6).toInt ≤ a1.toInt) → (((4 : Int) ≤ a1.toInt → Q (some (.int (Int32.ofInt 0))) h) ∧ (¬ ((4 : Int) ≤ a1.toInt) → Q (some (.int (Int32.ofInt 1))) h))))))) : zqm 20 [.ref 15, .int a1] h Q := by
  refine zqm_of zp_20 (fun n => ?_)
  show zQ n 20 0 [some (.ref 15), some (.int a1)] [] h Q
  refine zQ_seq 1 (pc' := 1) (L' := [some (.ref 15), some (.int a1)]) (S' := [.int a1]) (h' := h) zp_20 rfl ?_
  refine zQ_if zp_20 rfl (t := 21) rfl (i := a1.toInt) rfl (fun c1 => ?_) (fun c1 => ?_)
  · refine zQ_seq 1 (pc' := 22) (L' := [some (.ref 15), some (.int a1)]) (S' := [.int (Int32.ofInt 0)]) (h' := h) zp_20 rfl ?_
    exact zQ_retI zp_20 rfl (H.1 c1)
  · refine zQ_seq 3 (pc' := 9) (L' := [some (.ref 15), some (.int a1)]) (S' := [.int (h.1 15 6), .int a1]) (h' := h) zp_20 rfl ?_
    refine zQ_ic zp_20 rfl (t := 21) rfl (i := a1.toInt) (j := (h.1 15 6).toInt) rfl rfl (fun c2 => ?_) (fun c2 => ?_)
    · refine zQ_seq 1 (pc' := 22) (L' := [some (.ref 15), some (.int a1)]) (S' := [.int (Int32.ofInt 0)]) (h' := h) zp_20 rfl ?_
      exact zQ_retI zp_20 rfl ((H.2 c1).1 c2)
    · refine zQ_seq 2 (pc' := 14) (L' := [some (.ref 15), some (.int a1)]) (S' := [.int (Int32.ofInt 4), .int a1]) (h' := h) zp_20 rfl ?_
      refine zQ_ic zp_20 rfl (t := 21) rfl (i := a1.toInt) (j := (4 : Int)) rfl kc_4 (fun c3 => ?_) (fun c3 => ?_)
      · refine zQ_seq 1 (pc' := 22) (L' := [some (.ref 15), some (.int a1)]) (S' := [.int (Int32.ofInt 0)]) (h' := h) zp_20 rfl ?_
        exact zQ_retI zp_20 rfl (((H.2 c1).2 c2).1 c3)
      · refine zQ_seq 1 (pc' := 18) (L' := [some (.ref 15), some (.int a1)]) (S' := [.int (Int32.ofInt 1)]) (h' := h) zp_20 rfl ?_
        refine zQ_goto zp_20 rfl (t := 22) rfl ?_
        exact zQ_retI zp_20 rfl (((H.2 c1).2 c2).2 c3)
theorem s_20_23 {h : zH} {Q : Option Value → zH → Prop} (a1 : Int32) (H : ((a1.toInt < 0 → Q (some (.int (Int32.ofInt 0))) h) ∧ (¬ (a1.toInt < 0) → (((h.1 23 6).toInt ≤ a1.toInt → Q (some (.int (Int32.ofInt 0))) h) ∧ (¬ ((h.1 23 6).toInt ≤ a1.toInt) → (((4 : Int) ≤ a1.toInt → Q (some (.int (Int32.ofInt 0))) h) ∧ (¬ ((4 : Int) ≤ a1.toInt) → Q (some (.int (Int32.ofInt 1))) h))))))) : zqm 20 [.ref 23, .int a1] h Q := by
  refine zqm_of zp_20 (fun n => ?_)
  show zQ n 20 0 [some (.ref 23), some (.int a1)] [] h Q
  refine zQ_seq 1 (pc' := 1) (L' := [some (.ref 23), some (.int a1)]) (S' := [.int a1]) (h' := h) zp_20 rfl ?_
  refine zQ_if zp_20 rfl (t := 21) rfl (i := a1.toInt) rfl (fun c1 => ?_) (fun c1 => ?_)
  · refine zQ_seq 1 (pc' := 22) (L' := [some (.ref 23), some (.int a1)]) (S' := [.int (Int32.ofInt 0)]) (h' := h) zp_20 rfl ?_
    exact zQ_retI zp_20 rfl (H.1 c1)
  · refine zQ_seq 3 (pc' := 9) (L' := [some (.ref 23), some (.int a1)]) (S' := [.int (h.1 23 6), .int a1]) (h' := h) zp_20 rfl ?_
    refine zQ_ic zp_20 rfl (t := 21) rfl (i := a1.toInt) (j := (h.1 23 6).toInt) rfl rfl (fun c2 => ?_) (fun c2 => ?_)
    · refine zQ_seq 1 (pc' := 22) (L' := [some (.ref 23), some (.int a1)]) (S' := [.int (Int32.ofInt 0)]) (h' := h) zp_20 rfl ?_
      exact zQ_retI zp_20 rfl ((H.2 c1).1 c2)
    · refine zQ_seq 2 (pc' := 14) (L' := [some (.ref 23), some (.int a1)]) (S' := [.int (Int32.ofInt 4), .int a1]) (h' := h) zp_20 rfl ?_
      refine zQ_ic zp_20 rfl (t := 21) rfl (i := a1.toInt) (j := (4 : Int)) rfl kc_4 (fun c3 => ?_) (fun c3 => ?_)
      · refine zQ_seq 1 (pc' := 22) (L' := [some (.ref 23), some (.int a1)]) (S' := [.int (Int32.ofInt 0)]) (h' := h) zp_20 rfl ?_
        exact zQ_retI zp_20 rfl (((H.2 c1).2 c2).1 c3)
      · refine zQ_seq 1 (pc' := 18) (L' := [some (.ref 23), some (.int a1)]) (S' := [.int (Int32.ofInt 1)]) (h' := h) zp_20 rfl ?_
        refine zQ_goto zp_20 rfl (t := 22) rfl ?_
        exact zQ_retI zp_20 rfl (((H.2 c1).2 c2).2 c3)
theorem s_21_15 {h : zH} {Q : Option Value → zH → Prop} (a1 : Int32) (H : zqm 20 [.ref 15, .int a1] h (fun rv h1 => zri rv (fun v1 => ((¬ v1.toInt = 0 → (0 ≤ a1.toInt → a1.toInt < 4 → (((h1.1 18 a1.toInt.toNat).toInt < 0 → Q (some (.int (Int32.ofInt 0))) h1) ∧ (¬ ((h1.1 18 a1.toInt.toNat).toInt < 0) → (((3 : Int) ≤ (h1.1 18 a1.toInt.toNat).toInt → Q (some (.int (Int32.ofInt 0))) h1) ∧ (¬ ((3 : Int) ≤ (h1.1 18 a1.toInt.toNat).toInt) → (0 ≤ (h1.1 18 a1.toInt.toNat).toInt → (h1.1 18 a1.toInt.toNat).toInt < 3 → Q (some (.int (h1.1 16 (h1.1 18 a1.toInt.toNat).toInt.toNat))) h1))))))) ∧ (¬ (¬ v1.toInt = 0) → Q (some (.int (Int32.ofInt 0))) h1))))) : zqm 21 [.ref 15, .int a1] h Q := by
  refine zqm_of zp_21 (fun n => ?_)
  show zQ n 21 0 [some (.ref 15), some (.int a1), none] [] h Q
  refine zQ_seq 2 (pc' := 2) (L' := [some (.ref 15), some (.int a1), none]) (S' := [.int a1, .ref 15]) (h' := h) zp_21 rfl ?_
  refine zQ_cvI (M' := 20) (as := [.ref 15, .int a1]) (S' := []) zp_21 rfl rfl zp_20 (Or.inr rfl) rfl rfl (zqm_imp H (fun rv h1 r1 => zri_imp r1 (fun v1 r1' => ?_)))
  refine zQ_if zp_21 rfl (t := 10) rfl (i := v1.toInt) rfl (fun c2 => ?_) (fun c2 => ?_)
  · refine zQ_seq 3 (pc' := 15) (L' := [some (.ref 15), some (.int a1), none]) (S' := [.int a1, .ref 18]) (h' := h1) zp_21 rfl ?_
    refine zQ_ial (N := 4) (f := h1.1 18) zp_21 rfl rfl rfl (fun b3 b3' => ?_)
    refine zQ_seq 2 (pc' := 18) (L' := [some (.ref 15), some (.int a1), some (.int (h1.1 18 a1.toInt.toNat))]) (S' := [.int (h1.1 18 a1.toInt.toNat)]) (h' := h1) zp_21 rfl ?_
    refine zQ_if zp_21 rfl (t := 35) rfl (i := (h1.1 18 a1.toInt.toNat).toInt) rfl (fun c4 => ?_) (fun c4 => ?_)
    · refine zQ_seq 1 (pc' := 36) (L' := [some (.ref 15), some (.int a1), some (.int (h1.1 18 a1.toInt.toNat))]) (S' := [.int (Int32.ofInt 0)]) (h' := h1) zp_21 rfl ?_
      exact zQ_retI zp_21 rfl (((r1'.1 c2) b3 b3').1 c4)
    · refine zQ_seq 2 (pc' := 23) (L' := [some (.ref 15), some (.int a1), some (.int (h1.1 18 a1.toInt.toNat))]) (S' := [.int (Int32.ofInt 3), .int (h1.1 18 a1.toInt.toNat)]) (h' := h1) zp_21 rfl ?_
      refine zQ_ic zp_21 rfl (t := 35) rfl (i := (h1.1 18 a1.toInt.toNat).toInt) (j := (3 : Int)) rfl kc_3 (fun c5 => ?_) (fun c5 => ?_)
      · refine zQ_seq 1 (pc' := 36) (L' := [some (.ref 15), some (.int a1), some (.int (h1.1 18 a1.toInt.toNat))]) (S' := [.int (Int32.ofInt 0)]) (h' := h1) zp_21 rfl ?_
        exact zQ_retI zp_21 rfl ((((r1'.1 c2) b3 b3').2 c4).1 c5)
      · refine zQ_seq 3 (pc' := 31) (L' := [some (.ref 15), some (.int a1), some (.int (h1.1 18 a1.toInt.toNat))]) (S' := [.int (h1.1 18 a1.toInt.toNat), .ref 16]) (h' := h1) zp_21 rfl ?_
        refine zQ_ial (N := 3) (f := h1.1 16) zp_21 rfl rfl rfl (fun b6 b6' => ?_)
        refine zQ_goto zp_21 rfl (t := 36) rfl ?_
        exact zQ_retI zp_21 rfl (((((r1'.1 c2) b3 b3').2 c4).2 c5) b6 b6')
  · refine zQ_seq 1 (pc' := 9) (L' := [some (.ref 15), some (.int a1), none]) (S' := [.int (Int32.ofInt 0)]) (h' := h1) zp_21 rfl ?_
    exact zQ_retI zp_21 rfl (r1'.2 c2)
theorem s_21_23 {h : zH} {Q : Option Value → zH → Prop} (a1 : Int32) (H : zqm 20 [.ref 23, .int a1] h (fun rv h1 => zri rv (fun v1 => ((¬ v1.toInt = 0 → (0 ≤ a1.toInt → a1.toInt < 4 → (((h1.1 26 a1.toInt.toNat).toInt < 0 → Q (some (.int (Int32.ofInt 0))) h1) ∧ (¬ ((h1.1 26 a1.toInt.toNat).toInt < 0) → (((3 : Int) ≤ (h1.1 26 a1.toInt.toNat).toInt → Q (some (.int (Int32.ofInt 0))) h1) ∧ (¬ ((3 : Int) ≤ (h1.1 26 a1.toInt.toNat).toInt) → (0 ≤ (h1.1 26 a1.toInt.toNat).toInt → (h1.1 26 a1.toInt.toNat).toInt < 3 → Q (some (.int (h1.1 24 (h1.1 26 a1.toInt.toNat).toInt.toNat))) h1))))))) ∧ (¬ (¬ v1.toInt = 0) → Q (some (.int (Int32.ofInt 0))) h1))))) : zqm 21 [.ref 23, .int a1] h Q := by
  refine zqm_of zp_21 (fun n => ?_)
  show zQ n 21 0 [some (.ref 23), some (.int a1), none] [] h Q
  refine zQ_seq 2 (pc' := 2) (L' := [some (.ref 23), some (.int a1), none]) (S' := [.int a1, .ref 23]) (h' := h) zp_21 rfl ?_
  refine zQ_cvI (M' := 20) (as := [.ref 23, .int a1]) (S' := []) zp_21 rfl rfl zp_20 (Or.inr rfl) rfl rfl (zqm_imp H (fun rv h1 r1 => zri_imp r1 (fun v1 r1' => ?_)))
  refine zQ_if zp_21 rfl (t := 10) rfl (i := v1.toInt) rfl (fun c2 => ?_) (fun c2 => ?_)
  · refine zQ_seq 3 (pc' := 15) (L' := [some (.ref 23), some (.int a1), none]) (S' := [.int a1, .ref 26]) (h' := h1) zp_21 rfl ?_
    refine zQ_ial (N := 4) (f := h1.1 26) zp_21 rfl rfl rfl (fun b3 b3' => ?_)
    refine zQ_seq 2 (pc' := 18) (L' := [some (.ref 23), some (.int a1), some (.int (h1.1 26 a1.toInt.toNat))]) (S' := [.int (h1.1 26 a1.toInt.toNat)]) (h' := h1) zp_21 rfl ?_
    refine zQ_if zp_21 rfl (t := 35) rfl (i := (h1.1 26 a1.toInt.toNat).toInt) rfl (fun c4 => ?_) (fun c4 => ?_)
    · refine zQ_seq 1 (pc' := 36) (L' := [some (.ref 23), some (.int a1), some (.int (h1.1 26 a1.toInt.toNat))]) (S' := [.int (Int32.ofInt 0)]) (h' := h1) zp_21 rfl ?_
      exact zQ_retI zp_21 rfl (((r1'.1 c2) b3 b3').1 c4)
    · refine zQ_seq 2 (pc' := 23) (L' := [some (.ref 23), some (.int a1), some (.int (h1.1 26 a1.toInt.toNat))]) (S' := [.int (Int32.ofInt 3), .int (h1.1 26 a1.toInt.toNat)]) (h' := h1) zp_21 rfl ?_
      refine zQ_ic zp_21 rfl (t := 35) rfl (i := (h1.1 26 a1.toInt.toNat).toInt) (j := (3 : Int)) rfl kc_3 (fun c5 => ?_) (fun c5 => ?_)
      · refine zQ_seq 1 (pc' := 36) (L' := [some (.ref 23), some (.int a1), some (.int (h1.1 26 a1.toInt.toNat))]) (S' := [.int (Int32.ofInt 0)]) (h' := h1) zp_21 rfl ?_
        exact zQ_retI zp_21 rfl ((((r1'.1 c2) b3 b3').2 c4).1 c5)
      · refine zQ_seq 3 (pc' := 31) (L' := [some (.ref 23), some (.int a1), some (.int (h1.1 26 a1.toInt.toNat))]) (S' := [.int (h1.1 26 a1.toInt.toNat), .ref 24]) (h' := h1) zp_21 rfl ?_
        refine zQ_ial (N := 3) (f := h1.1 24) zp_21 rfl rfl rfl (fun b6 b6' => ?_)
        refine zQ_goto zp_21 rfl (t := 36) rfl ?_
        exact zQ_retI zp_21 rfl (((((r1'.1 c2) b3 b3').2 c4).2 c5) b6 b6')
  · refine zQ_seq 1 (pc' := 9) (L' := [some (.ref 23), some (.int a1), none]) (S' := [.int (Int32.ofInt 0)]) (h' := h1) zp_21 rfl ?_
    exact zQ_retI zp_21 rfl (r1'.2 c2)
theorem s_22 {h : zH} {Q : Option Value → zH → Prop} (a1 : Int32) (H : (∀ n, zQ n 22 2 [some (.ref 15), some (.int a1), some (.int (Int32.ofInt 0))] [] h Q)) : zqm 22 [.ref 15, .int a1] h Q := by
  refine zqm_of zp_22 (fun n => ?_)
  have H := H n
  show zQ n 22 0 [some (.ref 15), some (.int a1), none] [] h Q
  refine zQ_seq 2 (pc' := 2) (L' := [some (.ref 15), some (.int a1), some (.int (Int32.ofInt 0))]) (S' := []) (h' := h) zp_22 rfl ?_
  exact H
theorem s_22_2 {n : Nat} {h : zH} {Q : Option Value → zH → Prop} (x1 : Int32) (x2 : Int32) (H : (((3 : Int) ≤ x2.toInt → Q (some (.int (-1000000 : Int32))) h) ∧ (¬ ((3 : Int) ≤ x2.toInt) → (0 ≤ x2.toInt → x2.toInt < 3 → ((¬ (((h.1 16 x2.toInt.toNat) >>> (x1 &&& 31)) &&& (Int32.ofInt 1)).toInt = (1 : Int) → zQ n 22 2 [some (.ref 15), some (.int x1), some (.int (x2 + Int32.ofInt 1))] [] h Q) ∧ (¬ (¬ (((h.1 16 x2.toInt.toNat) >>> (x1 &&& 31)) &&& (Int32.ofInt 1)).toInt = (1 : Int)) → Q (some (.int x2)) h)))))) : zQ (n + 1) 22 2 [some (.ref 15), some (.int x1), some (.int x2)] [] h Q := by
  refine zQ_seqL 1 (pc' := 4) (L' := [some (.ref 15), some (.int x1), some (.int x2)]) (S' := [.int (Int32.ofInt 3), .int x2]) (h' := h) zp_22 rfl ?_
  refine zQ_ic zp_22 rfl (t := 29) rfl (i := x2.toInt) (j := (3 : Int)) rfl kc_3 (fun c1 => ?_) (fun c1 => ?_)
  · refine zQ_seq 1 (pc' := 31) (L' := [some (.ref 15), some (.int x1), some (.int x2)]) (S' := [.int (-1000000 : Int32)]) (h' := h) zp_22 rfl ?_
    exact zQ_retI zp_22 rfl (H.1 c1)
  · refine zQ_seq 3 (pc' := 12) (L' := [some (.ref 15), some (.int x1), some (.int x2)]) (S' := [.int x2, .ref 16]) (h' := h) zp_22 rfl ?_
    refine zQ_ial (N := 3) (f := h.1 16) zp_22 rfl rfl rfl (fun b2 b2' => ?_)
    refine zQ_seq 5 (pc' := 18) (L' := [some (.ref 15), some (.int x1), some (.int x2)]) (S' := [.int (Int32.ofInt 1), .int (((h.1 16 x2.toInt.toNat) >>> (x1 &&& 31)) &&& (Int32.ofInt 1))]) (h' := h) zp_22 rfl ?_
    refine zQ_ic zp_22 rfl (t := 23) rfl (i := (((h.1 16 x2.toInt.toNat) >>> (x1 &&& 31)) &&& (Int32.ofInt 1)).toInt) (j := (1 : Int)) rfl kc_1 (fun c3 => ?_) (fun c3 => ?_)
    · refine zQ_seq 1 (pc' := 26) (L' := [some (.ref 15), some (.int x1), some (.int (x2 + Int32.ofInt 1))]) (S' := []) (h' := h) zp_22 rfl ?_
      refine zQ_goto zp_22 rfl (t := 2) rfl ?_
      exact (((H.2 c1) b2 b2').1 c3)
    · refine zQ_seq 1 (pc' := 22) (L' := [some (.ref 15), some (.int x1), some (.int x2)]) (S' := [.int x2]) (h' := h) zp_22 rfl ?_
      exact zQ_retI zp_22 rfl (((H.2 c1) b2 b2').2 c3)
theorem s_23 {h : zH} {Q : Option Value → zH → Prop} (a1 : Int32) (H : (∀ n, zQ n 23 4 [some (.ref 15), some (.int a1), some (.int (Int32.ofInt 0)), some (.int (Int32.ofInt 0))] [] h Q)) : zqm 23 [.ref 15, .int a1] h Q := by
  refine zqm_of zp_23 (fun n => ?_)
  have H := H n
  show zQ n 23 0 [some (.ref 15), some (.int a1), none, none] [] h Q
  refine zQ_seq 4 (pc' := 4) (L' := [some (.ref 15), some (.int a1), some (.int (Int32.ofInt 0)), some (.int (Int32.ofInt 0))]) (S' := []) (h' := h) zp_23 rfl ?_
  exact H
theorem s_23_4 {n : Nat} {h : zH} {Q : Option Value → zH → Prop} (x1 : Int32) (x2 : Int32) (x3 : Int32) (H : (((h.1 15 6).toInt ≤ x3.toInt → Q (some (.int x2)) h) ∧ (¬ ((h.1 15 6).toInt ≤ x3.toInt) → (((4 : Int) ≤ x3.toInt → Q (some (.int x2)) h) ∧ (¬ ((4 : Int) ≤ x3.toInt) → (0 ≤ x3.toInt → x3.toInt < 4 → zQ n 23 4 [some (.ref 15), some (.int x1), some (.int (x2 ||| ((((h.1 20 x3.toInt.toNat) >>> (x1 &&& 31)) &&& (Int32.ofInt 1)) <<< (x3 &&& 31)))), some (.int (x3 + Int32.ofInt 1))] [] h Q)))))) : zQ (n + 1) 23 4 [some (.ref 15), some (.int x1), some (.int x2), some (.int x3)] [] h Q := by
  refine zQ_seqL 2 (pc' := 9) (L' := [some (.ref 15), some (.int x1), some (.int x2), some (.int x3)]) (S' := [.int (h.1 15 6), .int x3]) (h' := h) zp_23 rfl ?_
  refine zQ_ic zp_23 rfl (t := 38) rfl (i := x3.toInt) (j := (h.1 15 6).toInt) rfl rfl (fun c1 => ?_) (fun c1 => ?_)
  · refine zQ_seq 1 (pc' := 39) (L' := [some (.ref 15), some (.int x1), some (.int x2), some (.int x3)]) (S' := [.int x2]) (h' := h) zp_23 rfl ?_
    exact zQ_retI zp_23 rfl (H.1 c1)
  · refine zQ_seq 2 (pc' := 14) (L' := [some (.ref 15), some (.int x1), some (.int x2), some (.int x3)]) (S' := [.int (Int32.ofInt 4), .int x3]) (h' := h) zp_23 rfl ?_
    refine zQ_ic zp_23 rfl (t := 38) rfl (i := x3.toInt) (j := (4 : Int)) rfl kc_4 (fun c2 => ?_) (fun c2 => ?_)
    · refine zQ_seq 1 (pc' := 39) (L' := [some (.ref 15), some (.int x1), some (.int x2), some (.int x3)]) (S' := [.int x2]) (h' := h) zp_23 rfl ?_
      exact zQ_retI zp_23 rfl ((H.2 c1).1 c2)
    · refine zQ_seq 4 (pc' := 23) (L' := [some (.ref 15), some (.int x1), some (.int x2), some (.int x3)]) (S' := [.int x3, .ref 20, .int x2]) (h' := h) zp_23 rfl ?_
      refine zQ_ial (N := 4) (f := h.1 20) zp_23 rfl rfl rfl (fun b3 b3' => ?_)
      refine zQ_seq 9 (pc' := 35) (L' := [some (.ref 15), some (.int x1), some (.int (x2 ||| ((((h.1 20 x3.toInt.toNat) >>> (x1 &&& 31)) &&& (Int32.ofInt 1)) <<< (x3 &&& 31)))), some (.int (x3 + Int32.ofInt 1))]) (S' := []) (h' := h) zp_23 rfl ?_
      refine zQ_goto zp_23 rfl (t := 4) rfl ?_
      exact (((H.2 c1).2 c2) b3 b3')
theorem s_24 {h : zH} {Q : Option Value → zH → Prop} (a1 : Int32) (H : (∀ n, zQ n 24 4 [some (.ref 15), some (.int a1), some (.int (Int32.ofInt 0)), some (.int (Int32.ofInt 0))] [] h Q)) : zqm 24 [.ref 15, .int a1] h Q := by
  refine zqm_of zp_24 (fun n => ?_)
  have H := H n
  show zQ n 24 0 [some (.ref 15), some (.int a1), none, none] [] h Q
  refine zQ_seq 4 (pc' := 4) (L' := [some (.ref 15), some (.int a1), some (.int (Int32.ofInt 0)), some (.int (Int32.ofInt 0))]) (S' := []) (h' := h) zp_24 rfl ?_
  exact H
theorem s_24_4 {n : Nat} {h : zH} {Q : Option Value → zH → Prop} (x1 : Int32) (x2 : Int32) (x3 : Int32) (H : (((h.1 15 6).toInt ≤ x3.toInt → Q (some (.int x2)) h) ∧ (¬ ((h.1 15 6).toInt ≤ x3.toInt) → zqm 17 [.ref 15, .int x3, .int x1] h (fun rv h2 => zri rv (fun v2 => ((¬ v2.toInt = 0 → zQ n 24 4 [some (.ref 15), some (.int x1), some (.int (x2 ||| (Int32.ofInt 0))), some (.int (x3 + Int32.ofInt 1))] [] h2 Q) ∧ (¬ (¬ v2.toInt = 0) → zQ n 24 4 [some (.ref 15), some (.int x1), some (.int (x2 ||| ((Int32.ofInt 1) <<< (x3 &&& 31)))), some (.int (x3 + Int32.ofInt 1))] [] h2 Q))))))) : zQ (n + 1) 24 4 [some (.ref 15), some (.int x1), some (.int x2), some (.int x3)] [] h Q := by
  refine zQ_seqL 2 (pc' := 9) (L' := [some (.ref 15), some (.int x1), some (.int x2), some (.int x3)]) (S' := [.int (h.1 15 6), .int x3]) (h' := h) zp_24 rfl ?_
  refine zQ_ic zp_24 rfl (t := 37) rfl (i := x3.toInt) (j := (h.1 15 6).toInt) rfl rfl (fun c1 => ?_) (fun c1 => ?_)
  · refine zQ_seq 1 (pc' := 38) (L' := [some (.ref 15), some (.int x1), some (.int x2), some (.int x3)]) (S' := [.int x2]) (h' := h) zp_24 rfl ?_
    exact zQ_retI zp_24 rfl (H.1 c1)
  · refine zQ_seq 4 (pc' := 16) (L' := [some (.ref 15), some (.int x1), some (.int x2), some (.int x3)]) (S' := [.int x1, .int x3, .ref 15, .int x2]) (h' := h) zp_24 rfl ?_
    refine zQ_cvI (M' := 17) (as := [.ref 15, .int x3, .int x1]) (S' := [.int x2]) zp_24 rfl rfl zp_17 (Or.inl rfl) rfl rfl (zqm_imp (H.2 c1) (fun rv h2 r2 => zri_imp r2 (fun v2 r2' => ?_)))
    refine zQ_if zp_24 rfl (t := 28) rfl (i := v2.toInt) rfl (fun c3 => ?_) (fun c3 => ?_)
    · refine zQ_seq 4 (pc' := 34) (L' := [some (.ref 15), some (.int x1), some (.int (x2 ||| (Int32.ofInt 0))), some (.int (x3 + Int32.ofInt 1))]) (S' := []) (h' := h2) zp_24 rfl ?_
      refine zQ_goto zp_24 rfl (t := 4) rfl ?_
      exact (r2'.1 c3)
    · refine zQ_seq 3 (pc' := 25) (L' := [some (.ref 15), some (.int x1), some (.int x2), some (.int x3)]) (S' := [.int ((Int32.ofInt 1) <<< (x3 &&& 31)), .int x2]) (h' := h2) zp_24 rfl ?_
      refine zQ_goto zp_24 rfl (t := 29) rfl ?_
      refine zQ_seq 3 (pc' := 34) (L' := [some (.ref 15), some (.int x1), some (.int (x2 ||| ((Int32.ofInt 1) <<< (x3 &&& 31)))), some (.int (x3 + Int32.ofInt 1))]) (S' := []) (h' := h2) zp_24 rfl ?_
      refine zQ_goto zp_24 rfl (t := 4) rfl ?_
      exact (r2'.2 c3)
theorem s_25 {h : zH} {Q : Option Value → zH → Prop} (H : zqm 51 [.int (h.1 15 3), .int (h.1 15 4)] h (fun rv h1 => zri rv (fun v1 => Q (some (.int v1)) h1))) : zqm 25 [.ref 15] h Q := by
  refine zqm_of zp_25 (fun n => ?_)
  show zQ n 25 0 [some (.ref 15)] [] h Q
  refine zQ_seq 4 (pc' := 8) (L' := [some (.ref 15)]) (S' := [.int (h.1 15 4), .int (h.1 15 3)]) (h' := h) zp_25 rfl ?_
  refine zQ_csI (M' := 51) (as := [.int (h.1 15 3), .int (h.1 15 4)]) (S' := []) zp_25 rfl rfl rfl zp_51 (Or.inl rfl) rfl rfl (zqm_imp H (fun rv h1 r1 => zri_imp r1 (fun v1 r1' => ?_)))
  exact zQ_retI zp_25 rfl r1'
theorem s_26 {h : zH} {Q : Option Value → zH → Prop} (a1 : Int32) (H : zqm 51 [.int a1, .int (h.1 15 4)] h (fun rv h1 => zri rv (fun v1 => ((¬ (v1 &&& (h1.1 15 8)).toInt = 0 → Q (some (.int (Int32.ofInt 0))) h1) ∧ (¬ (¬ (v1 &&& (h1.1 15 8)).toInt = 0) → Q (some (.int (Int32.ofInt 1))) h1))))) : zqm 26 [.ref 15, .int a1] h Q := by
  refine zqm_of zp_26 (fun n => ?_)
  show zQ n 26 0 [some (.ref 15), some (.int a1)] [] h Q
  refine zQ_seq 3 (pc' := 5) (L' := [some (.ref 15), some (.int a1)]) (S' := [.int (h.1 15 4), .int a1]) (h' := h) zp_26 rfl ?_
  refine zQ_csI (M' := 51) (as := [.int a1, .int (h.1 15 4)]) (S' := []) zp_26 rfl rfl rfl zp_51 (Or.inl rfl) rfl rfl (zqm_imp H (fun rv h1 r1 => zri_imp r1 (fun v1 r1' => ?_)))
  refine zQ_seq 3 (pc' := 13) (L' := [some (.ref 15), some (.int a1)]) (S' := [.int (v1 &&& (h1.1 15 8))]) (h' := h1) zp_26 rfl ?_
  refine zQ_if zp_26 rfl (t := 20) rfl (i := (v1 &&& (h1.1 15 8)).toInt) rfl (fun c2 => ?_) (fun c2 => ?_)
  · refine zQ_seq 1 (pc' := 21) (L' := [some (.ref 15), some (.int a1)]) (S' := [.int (Int32.ofInt 0)]) (h' := h1) zp_26 rfl ?_
    exact zQ_retI zp_26 rfl (r1'.1 c2)
  · refine zQ_seq 1 (pc' := 17) (L' := [some (.ref 15), some (.int a1)]) (S' := [.int (Int32.ofInt 1)]) (h' := h1) zp_26 rfl ?_
    refine zQ_goto zp_26 rfl (t := 21) rfl ?_
    exact zQ_retI zp_26 rfl (r1'.2 c2)
theorem s_27 {h : zH} {Q : Option Value → zH → Prop} (a1 : Int32) (a2 : Int32) (H : zqm 49 [.int a1, .int (a2 / (Int32.ofInt 4)), .int (a2 - a2 / (Int32.ofInt 4) * (Int32.ofInt 4))] h (fun rv h1 => zri rv (fun v1 => ((¬ (h1.1 15 1).toInt = 0 → zqm 50 [.int v1, .int (((a2 / (Int32.ofInt 4)) + (h1.1 15 1)) - ((a2 / (Int32.ofInt 4)) + (h1.1 15 1)) / (Int32.ofInt 15) * (Int32.ofInt 15)), .int (h1.1 15 2)] h1 (fun rv h3 => zri rv (fun v3 => Q (some (.int v3)) h3))) ∧ (¬ (¬ (h1.1 15 1).toInt = 0) → Q (some (.int v1)) h1))))) : zqm 27 [.ref 15, .int a1, .int a2] h Q := by
  refine zqm_of zp_27 (fun n => ?_)
  show zQ n 27 0 [some (.ref 15), some (.int a1), some (.int a2), none, none] [] h Q
  refine zQ_seq 2 (pc' := 2) (L' := [some (.ref 15), some (.int a1), some (.int a2), none, none]) (S' := [.int (Int32.ofInt 4), .int a2]) (h' := h) zp_27 rfl ?_
  refine zQ_div zp_27 rfl (fun _ => ?_)
  refine zQ_seq 5 (pc' := 8) (L' := [some (.ref 15), some (.int a1), some (.int a2), some (.int (a2 / (Int32.ofInt 4))), none]) (S' := [.int (Int32.ofInt 4), .int a2, .int (a2 / (Int32.ofInt 4)), .int a1]) (h' := h) zp_27 rfl ?_
  refine zQ_rem zp_27 rfl (fun _ => ?_)
  refine zQ_csI (M' := 49) (as := [.int a1, .int (a2 / (Int32.ofInt 4)), .int (a2 - a2 / (Int32.ofInt 4) * (Int32.ofInt 4))]) (S' := []) zp_27 rfl rfl rfl zp_49 (Or.inl rfl) rfl rfl (zqm_imp H (fun rv h1 r1 => zri_imp r1 (fun v1 r1' => ?_)))
  refine zQ_seq 3 (pc' := 18) (L' := [some (.ref 15), some (.int a1), some (.int a2), some (.int (a2 / (Int32.ofInt 4))), some (.int v1)]) (S' := [.int (h1.1 15 1)]) (h' := h1) zp_27 rfl ?_
  refine zQ_if zp_27 rfl (t := 26) rfl (i := (h1.1 15 1).toInt) rfl (fun c2 => ?_) (fun c2 => ?_)
  · refine zQ_seq 6 (pc' := 36) (L' := [some (.ref 15), some (.int a1), some (.int a2), some (.int (a2 / (Int32.ofInt 4))), some (.int v1)]) (S' := [.int (Int32.ofInt 15), .int ((a2 / (Int32.ofInt 4)) + (h1.1 15 1)), .int v1]) (h' := h1) zp_27 rfl ?_
    refine zQ_rem zp_27 rfl (fun _ => ?_)
    refine zQ_seq 2 (pc' := 41) (L' := [some (.ref 15), some (.int a1), some (.int a2), some (.int (a2 / (Int32.ofInt 4))), some (.int v1)]) (S' := [.int (h1.1 15 2), .int (((a2 / (Int32.ofInt 4)) + (h1.1 15 1)) - ((a2 / (Int32.ofInt 4)) + (h1.1 15 1)) / (Int32.ofInt 15) * (Int32.ofInt 15)), .int v1]) (h' := h1) zp_27 rfl ?_
    refine zQ_csI (M' := 50) (as := [.int v1, .int (((a2 / (Int32.ofInt 4)) + (h1.1 15 1)) - ((a2 / (Int32.ofInt 4)) + (h1.1 15 1)) / (Int32.ofInt 15) * (Int32.ofInt 15)), .int (h1.1 15 2)]) (S' := []) zp_27 rfl rfl rfl zp_50 (Or.inl rfl) rfl rfl (zqm_imp (r1'.1 c2) (fun rv h3 r3 => zri_imp r3 (fun v3 r3' => ?_)))
    exact zQ_retI zp_27 rfl r3'
  · refine zQ_seq 1 (pc' := 23) (L' := [some (.ref 15), some (.int a1), some (.int a2), some (.int (a2 / (Int32.ofInt 4))), some (.int v1)]) (S' := [.int v1]) (h' := h1) zp_27 rfl ?_
    refine zQ_goto zp_27 rfl (t := 44) rfl ?_
    exact zQ_retI zp_27 rfl (r1'.2 c2)
theorem s_28 {h : zH} {Q : Option Value → zH → Prop} (a1 : Int32) (H : (∀ n, zQ n 28 4 [some (.ref 15), some (.int a1), some (.int a1), some (.int (Int32.ofInt 0)), none] [] h Q)) : zqm 28 [.ref 15, .int a1] h Q := by
  refine zqm_of zp_28 (fun n => ?_)
  have H := H n
  show zQ n 28 0 [some (.ref 15), some (.int a1), none, none, none] [] h Q
  refine zQ_seq 4 (pc' := 4) (L' := [some (.ref 15), some (.int a1), some (.int a1), some (.int (Int32.ofInt 0)), none]) (S' := []) (h' := h) zp_28 rfl ?_
  exact H
theorem s_28_4 {n : Nat} {h : zH} {Q : Option Value → zH → Prop} (x1 : Int32) (x2 : Int32) (x3 : Int32) (o4 : Option Value) (H : (((h.1 15 6).toInt ≤ x3.toInt → Q (some (.int x2)) h) ∧ (¬ ((h.1 15 6).toInt ≤ x3.toInt) → (((4 : Int) ≤ x3.toInt → Q (some (.int x2)) h) ∧ (¬ ((4 : Int) ≤ x3.toInt) → (0 ≤ x3.toInt → x3.toInt < 4 → ((¬ (h.1 17 x3.toInt.toNat).toInt = (5 : Int) → zQ n 28 4 [some (.ref 15), some (.int x1), some (.int x2), some (.int (x3 + Int32.ofInt 1)), o4] [] h Q) ∧ (¬ (¬ (h.1 17 x3.toInt.toNat).toInt = (5 : Int)) → zqm 51 [.int x2, .int (h.1 15 4)] h (fun rv h5 => zri rv (fun v5 => zqm 21 [.ref 15, .int x3] h5 (fun rv h6 => zri rv (fun v6 => zqm 216 [.int (v5 &&& v6)] h6 (fun rv h7 => zri rv (fun v7 => zqm 52 [.int x2, .int (h6.1 15 4), .int v7] h7 (fun rv h8 => zri rv (fun v8 => zQ n 28 4 [some (.ref 15), some (.int x1), some (.int v8), some (.int (x3 + Int32.ofInt 1)), some (.int (v5 &&& v6))] [] h8 Q)))))))))))))))) : zQ (n + 1) 28 4 [some (.ref 15), some (.int x1), some (.int x2), some (.int x3), o4] [] h Q := by
  refine zQ_seqL 2 (pc' := 9) (L' := [some (.ref 15), some (.int x1), some (.int x2), some (.int x3), o4]) (S' := [.int (h.1 15 6), .int x3]) (h' := h) zp_28 rfl ?_
  refine zQ_ic zp_28 rfl (t := 63) rfl (i := x3.toInt) (j := (h.1 15 6).toInt) rfl rfl (fun c1 => ?_) (fun c1 => ?_)
  · refine zQ_seq 1 (pc' := 64) (L' := [some (.ref 15), some (.int x1), some (.int x2), some (.int x3), o4]) (S' := [.int x2]) (h' := h) zp_28 rfl ?_
    exact zQ_retI zp_28 rfl (H.1 c1)
  · refine zQ_seq 2 (pc' := 14) (L' := [some (.ref 15), some (.int x1), some (.int x2), some (.int x3), o4]) (S' := [.int (Int32.ofInt 4), .int x3]) (h' := h) zp_28 rfl ?_
    refine zQ_ic zp_28 rfl (t := 63) rfl (i := x3.toInt) (j := (4 : Int)) rfl kc_4 (fun c2 => ?_) (fun c2 => ?_)
    · refine zQ_seq 1 (pc' := 64) (L' := [some (.ref 15), some (.int x1), some (.int x2), some (.int x3), o4]) (S' := [.int x2]) (h' := h) zp_28 rfl ?_
      exact zQ_retI zp_28 rfl ((H.2 c1).1 c2)
    · refine zQ_seq 3 (pc' := 22) (L' := [some (.ref 15), some (.int x1), some (.int x2), some (.int x3), o4]) (S' := [.int x3, .ref 17]) (h' := h) zp_28 rfl ?_
      refine zQ_ial (N := 4) (f := h.1 17) zp_28 rfl rfl rfl (fun b3 b3' => ?_)
      refine zQ_seq 1 (pc' := 24) (L' := [some (.ref 15), some (.int x1), some (.int x2), some (.int x3), o4]) (S' := [.int (Int32.ofInt 5), .int (h.1 17 x3.toInt.toNat)]) (h' := h) zp_28 rfl ?_
      refine zQ_ic zp_28 rfl (t := 57) rfl (i := (h.1 17 x3.toInt.toNat).toInt) (j := (5 : Int)) rfl kc_5 (fun c4 => ?_) (fun c4 => ?_)
      · refine zQ_seq 1 (pc' := 60) (L' := [some (.ref 15), some (.int x1), some (.int x2), some (.int (x3 + Int32.ofInt 1)), o4]) (S' := []) (h' := h) zp_28 rfl ?_
        refine zQ_goto zp_28 rfl (t := 4) rfl ?_
        exact ((((H.2 c1).2 c2) b3 b3').1 c4)
      · refine zQ_seq 3 (pc' := 32) (L' := [some (.ref 15), some (.int x1), some (.int x2), some (.int x3), o4]) (S' := [.int (h.1 15 4), .int x2]) (h' := h) zp_28 rfl ?_
        refine zQ_csI (M' := 51) (as := [.int x2, .int (h.1 15 4)]) (S' := []) zp_28 rfl rfl rfl zp_51 (Or.inl rfl) rfl rfl (zqm_imp ((((H.2 c1).2 c2) b3 b3').2 c4) (fun rv h5 r5 => zri_imp r5 (fun v5 r5' => ?_)))
        refine zQ_seq 2 (pc' := 37) (L' := [some (.ref 15), some (.int x1), some (.int x2), some (.int x3), o4]) (S' := [.int x3, .ref 15, .int v5]) (h' := h5) zp_28 rfl ?_
        refine zQ_cvI (M' := 21) (as := [.ref 15, .int x3]) (S' := [.int v5]) zp_28 rfl rfl zp_21 (Or.inl rfl) rfl rfl (zqm_imp r5' (fun rv h6 r6 => zri_imp r6 (fun v6 r6' => ?_)))
        refine zQ_seq 6 (pc' := 50) (L' := [some (.ref 15), some (.int x1), some (.int x2), some (.int x3), some (.int (v5 &&& v6))]) (S' := [.int (v5 &&& v6), .int (h6.1 15 4), .int x2]) (h' := h6) zp_28 rfl ?_
        refine zQ_csI (M' := 216) (as := [.int (v5 &&& v6)]) (S' := [.int (h6.1 15 4), .int x2]) zp_28 rfl rfl rfl zp_216 (Or.inl rfl) rfl rfl (zqm_imp r6' (fun rv h7 r7 => zri_imp r7 (fun v7 r7' => ?_)))
        refine zQ_csI (M' := 52) (as := [.int x2, .int (h6.1 15 4), .int v7]) (S' := []) zp_28 rfl rfl rfl zp_52 (Or.inl rfl) rfl rfl (zqm_imp r7' (fun rv h8 r8 => zri_imp r8 (fun v8 r8' => ?_)))
        refine zQ_seq 2 (pc' := 60) (L' := [some (.ref 15), some (.int x1), some (.int v8), some (.int (x3 + Int32.ofInt 1)), some (.int (v5 &&& v6))]) (S' := []) (h' := h8) zp_28 rfl ?_
        refine zQ_goto zp_28 rfl (t := 4) rfl ?_
        exact r8'
theorem s_29 {h : zH} {Q : Option Value → zH → Prop} (H : (∀ n, zQ n 29 5 [some (.ref 15), some (.int (-1000000 : Int32)), some (.int (Int32.ofInt 0)), none] [] h Q)) : zqm 29 [.ref 15] h Q := by
  refine zqm_of zp_29 (fun n => ?_)
  have H := H n
  show zQ n 29 0 [some (.ref 15), none, none, none] [] h Q
  refine zQ_seq 4 (pc' := 5) (L' := [some (.ref 15), some (.int (-1000000 : Int32)), some (.int (Int32.ofInt 0)), none]) (S' := []) (h' := h) zp_29 rfl ?_
  exact H
theorem s_29_5 {n : Nat} {h : zH} {Q : Option Value → zH → Prop} (x1 : Int32) (x2 : Int32) (o3 : Option Value) (H : ((((Int32.ofInt 1) <<< ((h.1 15 6) &&& 31)).toInt ≤ x2.toInt → Q (some (.int x1)) h) ∧ (¬ (((Int32.ofInt 1) <<< ((h.1 15 6) &&& 31)).toInt ≤ x2.toInt) → ((x1.toInt = (-1000000 : Int) → (((1 : Int) = 0 → zQ n 29 5 [some (.ref 15), some (.int x1), some (.int (x2 + Int32.ofInt 1)), some (.int (Int32.ofInt 1))] [] h Q) ∧ (¬ ((1 : Int) = 0) → zqm 30 [.ref 15, .int x2] h (fun rv h4 => zri rv (fun v4 => ((¬ ((h.1 15 7) &&& (v4 ^^^ (Int32.ofInt (-1)))).toInt = 0 → zQ n 29 5 [some (.ref 15), some (.int x1), some (.int (x2 + Int32.ofInt 1)), some (.int (Int32.ofInt 1))] [] h4 Q) ∧ (¬ (¬ ((h.1 15 7) &&& (v4 ^^^ (Int32.ofInt (-1)))).toInt = 0) → zQ n 29 5 [some (.ref 15), some (.int x2), some (.int (x2 + Int32.ofInt 1)), some (.int (Int32.ofInt 1))] [] h4 Q))))))) ∧ (¬ (x1.toInt = (-1000000 : Int)) → zqm 217 [.int x2] h (fun rv h6 => zri rv (fun v6 => zqm 217 [.int x1] h6 (fun rv h7 => zri rv (fun v7 => ((v7.toInt ≤ v6.toInt → (((0 : Int) = 0 → zQ n 29 5 [some (.ref 15), some (.int x1), some (.int (x2 + Int32.ofInt 1)), some (.int (Int32.ofInt 0))] [] h7 Q) ∧ (¬ ((0 : Int) = 0) → zqm 30 [.ref 15, .int x2] h7 (fun rv h10 => zri rv (fun v10 => ((¬ ((h7.1 15 7) &&& (v10 ^^^ (Int32.ofInt (-1)))).toInt = 0 → zQ n 29 5 [some (.ref 15), some (.int x1), some (.int (x2 + Int32.ofInt 1)), some (.int (Int32.ofInt 0))] [] h10 Q) ∧ (¬ (¬ ((h7.1 15 7) &&& (v10 ^^^ (Int32.ofInt (-1)))).toInt = 0) → zQ n 29 5 [some (.ref 15), some (.int x2), some (.int (x2 + Int32.ofInt 1)), some (.int (Int32.ofInt 0))] [] h10 Q))))))) ∧ (¬ (v7.toInt ≤ v6.toInt) → (((1 : Int) = 0 → zQ n 29 5 [some (.ref 15), some (.int x1), some (.int (x2 + Int32.ofInt 1)), some (.int (Int32.ofInt 1))] [] h7 Q) ∧ (¬ ((1 : Int) = 0) → zqm 30 [.ref 15, .int x2] h7 (fun rv h13 => zri rv (fun v13 => ((¬ ((h7.1 15 7) &&& (v13 ^^^ (Int32.ofInt (-1)))).toInt = 0 → zQ n 29 5 [some (.ref 15), some (.int x1), some (.int (x2 + Int32.ofInt 1)), some (.int (Int32.ofInt 1))] [] h13 Q) ∧ (¬ (¬ ((h7.1 15 7) &&& (v13 ^^^ (Int32.ofInt (-1)))).toInt = 0) → zQ n 29 5 [some (.ref 15), some (.int x2), some (.int (x2 + Int32.ofInt 1)), some (.int (Int32.ofInt 1))] [] h13 Q))))))))))))))))) : zQ (n + 1) 29 5 [some (.ref 15), some (.int x1), some (.int x2), o3] [] h Q := by
  refine zQ_seqL 4 (pc' := 12) (L' := [some (.ref 15), some (.int x1), some (.int x2), o3]) (S' := [.int ((Int32.ofInt 1) <<< ((h.1 15 6) &&& 31)), .int x2]) (h' := h) zp_29 rfl ?_
  refine zQ_ic zp_29 rfl (t := 65) rfl (i := x2.toInt) (j := ((Int32.ofInt 1) <<< ((h.1 15 6) &&& 31)).toInt) rfl rfl (fun c1 => ?_) (fun c1 => ?_)
  · refine zQ_seq 1 (pc' := 66) (L' := [some (.ref 15), some (.int x1), some (.int x2), o3]) (S' := [.int x1]) (h' := h) zp_29 rfl ?_
    exact zQ_retI zp_29 rfl (H.1 c1)
  · refine zQ_seq 2 (pc' := 18) (L' := [some (.ref 15), some (.int x1), some (.int x2), o3]) (S' := [.int (-1000000 : Int32), .int x1]) (h' := h) zp_29 rfl ?_
    refine zQ_ic zp_29 rfl (t := 32) rfl (i := x1.toInt) (j := (-1000000 : Int)) rfl kdm1000000 (fun c2 => ?_) (fun c2 => ?_)
    · refine zQ_seq 1 (pc' := 33) (L' := [some (.ref 15), some (.int x1), some (.int x2), o3]) (S' := [.int (Int32.ofInt 1)]) (h' := h) zp_29 rfl ?_
      refine zQ_goto zp_29 rfl (t := 37) rfl ?_
      refine zQ_seq 2 (pc' := 39) (L' := [some (.ref 15), some (.int x1), some (.int x2), some (.int (Int32.ofInt 1))]) (S' := [.int (Int32.ofInt 1)]) (h' := h) zp_29 rfl ?_
      refine zQ_if zp_29 rfl (t := 59) rfl (i := (1 : Int)) kc_1 (fun c3 => ?_) (fun c3 => ?_)
      · refine zQ_seq 1 (pc' := 62) (L' := [some (.ref 15), some (.int x1), some (.int (x2 + Int32.ofInt 1)), some (.int (Int32.ofInt 1))]) (S' := []) (h' := h) zp_29 rfl ?_
        refine zQ_goto zp_29 rfl (t := 5) rfl ?_
        exact (((H.2 c1).1 c2).1 c3)
      · refine zQ_seq 4 (pc' := 48) (L' := [some (.ref 15), some (.int x1), some (.int x2), some (.int (Int32.ofInt 1))]) (S' := [.int x2, .ref 15, .int (h.1 15 7)]) (h' := h) zp_29 rfl ?_
        refine zQ_cvI (M' := 30) (as := [.ref 15, .int x2]) (S' := [.int (h.1 15 7)]) zp_29 rfl rfl zp_30 (Or.inl rfl) rfl rfl (zqm_imp (((H.2 c1).1 c2).2 c3) (fun rv h4 r4 => zri_imp r4 (fun v4 r4' => ?_)))
        refine zQ_seq 3 (pc' := 54) (L' := [some (.ref 15), some (.int x1), some (.int x2), some (.int (Int32.ofInt 1))]) (S' := [.int ((h.1 15 7) &&& (v4 ^^^ (Int32.ofInt (-1))))]) (h' := h4) zp_29 rfl ?_
        refine zQ_if zp_29 rfl (t := 59) rfl (i := ((h.1 15 7) &&& (v4 ^^^ (Int32.ofInt (-1)))).toInt) rfl (fun c5 => ?_) (fun c5 => ?_)
        · refine zQ_seq 1 (pc' := 62) (L' := [some (.ref 15), some (.int x1), some (.int (x2 + Int32.ofInt 1)), some (.int (Int32.ofInt 1))]) (S' := []) (h' := h4) zp_29 rfl ?_
          refine zQ_goto zp_29 rfl (t := 5) rfl ?_
          exact (r4'.1 c5)
        · refine zQ_seq 3 (pc' := 62) (L' := [some (.ref 15), some (.int x2), some (.int (x2 + Int32.ofInt 1)), some (.int (Int32.ofInt 1))]) (S' := []) (h' := h4) zp_29 rfl ?_
          refine zQ_goto zp_29 rfl (t := 5) rfl ?_
          exact (r4'.2 c5)
    · refine zQ_seq 1 (pc' := 22) (L' := [some (.ref 15), some (.int x1), some (.int x2), o3]) (S' := [.int x2]) (h' := h) zp_29 rfl ?_
      refine zQ_csI (M' := 217) (as := [.int x2]) (S' := []) zp_29 rfl rfl rfl zp_217 (Or.inl rfl) rfl rfl (zqm_imp ((H.2 c1).2 c2) (fun rv h6 r6 => zri_imp r6 (fun v6 r6' => ?_)))
      refine zQ_seq 1 (pc' := 26) (L' := [some (.ref 15), some (.int x1), some (.int x2), o3]) (S' := [.int x1, .int v6]) (h' := h6) zp_29 rfl ?_
      refine zQ_csI (M' := 217) (as := [.int x1]) (S' := [.int v6]) zp_29 rfl rfl rfl zp_217 (Or.inl rfl) rfl rfl (zqm_imp r6' (fun rv h7 r7 => zri_imp r7 (fun v7 r7' => ?_)))
      refine zQ_ic zp_29 rfl (t := 36) rfl (i := v6.toInt) (j := v7.toInt) rfl rfl (fun c8 => ?_) (fun c8 => ?_)
      · refine zQ_seq 3 (pc' := 39) (L' := [some (.ref 15), some (.int x1), some (.int x2), some (.int (Int32.ofInt 0))]) (S' := [.int (Int32.ofInt 0)]) (h' := h7) zp_29 rfl ?_
        refine zQ_if zp_29 rfl (t := 59) rfl (i := (0 : Int)) kc_0 (fun c9 => ?_) (fun c9 => ?_)
        · refine zQ_seq 1 (pc' := 62) (L' := [some (.ref 15), some (.int x1), some (.int (x2 + Int32.ofInt 1)), some (.int (Int32.ofInt 0))]) (S' := []) (h' := h7) zp_29 rfl ?_
          refine zQ_goto zp_29 rfl (t := 5) rfl ?_
          exact ((r7'.1 c8).1 c9)
        · refine zQ_seq 4 (pc' := 48) (L' := [some (.ref 15), some (.int x1), some (.int x2), some (.int (Int32.ofInt 0))]) (S' := [.int x2, .ref 15, .int (h7.1 15 7)]) (h' := h7) zp_29 rfl ?_
          refine zQ_cvI (M' := 30) (as := [.ref 15, .int x2]) (S' := [.int (h7.1 15 7)]) zp_29 rfl rfl zp_30 (Or.inl rfl) rfl rfl (zqm_imp ((r7'.1 c8).2 c9) (fun rv h10 r10 => zri_imp r10 (fun v10 r10' => ?_)))
          refine zQ_seq 3 (pc' := 54) (L' := [some (.ref 15), some (.int x1), some (.int x2), some (.int (Int32.ofInt 0))]) (S' := [.int ((h7.1 15 7) &&& (v10 ^^^ (Int32.ofInt (-1))))]) (h' := h10) zp_29 rfl ?_
          refine zQ_if zp_29 rfl (t := 59) rfl (i := ((h7.1 15 7) &&& (v10 ^^^ (Int32.ofInt (-1)))).toInt) rfl (fun c11 => ?_) (fun c11 => ?_)
          · refine zQ_seq 1 (pc' := 62) (L' := [some (.ref 15), some (.int x1), some (.int (x2 + Int32.ofInt 1)), some (.int (Int32.ofInt 0))]) (S' := []) (h' := h10) zp_29 rfl ?_
            refine zQ_goto zp_29 rfl (t := 5) rfl ?_
            exact (r10'.1 c11)
          · refine zQ_seq 3 (pc' := 62) (L' := [some (.ref 15), some (.int x2), some (.int (x2 + Int32.ofInt 1)), some (.int (Int32.ofInt 0))]) (S' := []) (h' := h10) zp_29 rfl ?_
            refine zQ_goto zp_29 rfl (t := 5) rfl ?_
            exact (r10'.2 c11)
      · refine zQ_seq 1 (pc' := 33) (L' := [some (.ref 15), some (.int x1), some (.int x2), o3]) (S' := [.int (Int32.ofInt 1)]) (h' := h7) zp_29 rfl ?_
        refine zQ_goto zp_29 rfl (t := 37) rfl ?_
        refine zQ_seq 2 (pc' := 39) (L' := [some (.ref 15), some (.int x1), some (.int x2), some (.int (Int32.ofInt 1))]) (S' := [.int (Int32.ofInt 1)]) (h' := h7) zp_29 rfl ?_
        refine zQ_if zp_29 rfl (t := 59) rfl (i := (1 : Int)) kc_1 (fun c12 => ?_) (fun c12 => ?_)
        · refine zQ_seq 1 (pc' := 62) (L' := [some (.ref 15), some (.int x1), some (.int (x2 + Int32.ofInt 1)), some (.int (Int32.ofInt 1))]) (S' := []) (h' := h7) zp_29 rfl ?_
          refine zQ_goto zp_29 rfl (t := 5) rfl ?_
          exact ((r7'.2 c8).1 c12)
        · refine zQ_seq 4 (pc' := 48) (L' := [some (.ref 15), some (.int x1), some (.int x2), some (.int (Int32.ofInt 1))]) (S' := [.int x2, .ref 15, .int (h7.1 15 7)]) (h' := h7) zp_29 rfl ?_
          refine zQ_cvI (M' := 30) (as := [.ref 15, .int x2]) (S' := [.int (h7.1 15 7)]) zp_29 rfl rfl zp_30 (Or.inl rfl) rfl rfl (zqm_imp ((r7'.2 c8).2 c12) (fun rv h13 r13 => zri_imp r13 (fun v13 r13' => ?_)))
          refine zQ_seq 3 (pc' := 54) (L' := [some (.ref 15), some (.int x1), some (.int x2), some (.int (Int32.ofInt 1))]) (S' := [.int ((h7.1 15 7) &&& (v13 ^^^ (Int32.ofInt (-1))))]) (h' := h13) zp_29 rfl ?_
          refine zQ_if zp_29 rfl (t := 59) rfl (i := ((h7.1 15 7) &&& (v13 ^^^ (Int32.ofInt (-1)))).toInt) rfl (fun c14 => ?_) (fun c14 => ?_)
          · refine zQ_seq 1 (pc' := 62) (L' := [some (.ref 15), some (.int x1), some (.int (x2 + Int32.ofInt 1)), some (.int (Int32.ofInt 1))]) (S' := []) (h' := h13) zp_29 rfl ?_
            refine zQ_goto zp_29 rfl (t := 5) rfl ?_
            exact (r13'.1 c14)
          · refine zQ_seq 3 (pc' := 62) (L' := [some (.ref 15), some (.int x2), some (.int (x2 + Int32.ofInt 1)), some (.int (Int32.ofInt 1))]) (S' := []) (h' := h13) zp_29 rfl ?_
            refine zQ_goto zp_29 rfl (t := 5) rfl ?_
            exact (r13'.2 c14)
theorem s_30 {h : zH} {Q : Option Value → zH → Prop} (a1 : Int32) (H : (∀ n, zQ n 30 4 [some (.ref 15), some (.int a1), some (.int (Int32.ofInt 0)), some (.int (Int32.ofInt 0))] [] h Q)) : zqm 30 [.ref 15, .int a1] h Q := by
  refine zqm_of zp_30 (fun n => ?_)
  have H := H n
  show zQ n 30 0 [some (.ref 15), some (.int a1), none, none] [] h Q
  refine zQ_seq 4 (pc' := 4) (L' := [some (.ref 15), some (.int a1), some (.int (Int32.ofInt 0)), some (.int (Int32.ofInt 0))]) (S' := []) (h' := h) zp_30 rfl ?_
  exact H
theorem s_30_4 {n : Nat} {h : zH} {Q : Option Value → zH → Prop} (x1 : Int32) (x2 : Int32) (x3 : Int32) (H : (((h.1 15 6).toInt ≤ x3.toInt → Q (some (.int x2)) h) ∧ (¬ ((h.1 15 6).toInt ≤ x3.toInt) → (((4 : Int) ≤ x3.toInt → Q (some (.int x2)) h) ∧ (¬ ((4 : Int) ≤ x3.toInt) → ((¬ ((x1 >>> (x3 &&& 31)) &&& (Int32.ofInt 1)).toInt = (1 : Int) → zQ n 30 4 [some (.ref 15), some (.int x1), some (.int (x2 ||| (Int32.ofInt 0))), some (.int (x3 + Int32.ofInt 1))] [] h Q) ∧ (¬ (¬ ((x1 >>> (x3 &&& 31)) &&& (Int32.ofInt 1)).toInt = (1 : Int)) → (0 ≤ x3.toInt → x3.toInt < 4 → zQ n 30 4 [some (.ref 15), some (.int x1), some (.int (x2 ||| (h.1 20 x3.toInt.toNat))), some (.int (x3 + Int32.ofInt 1))] [] h Q)))))))) : zQ (n + 1) 30 4 [some (.ref 15), some (.int x1), some (.int x2), some (.int x3)] [] h Q := by
  refine zQ_seqL 2 (pc' := 9) (L' := [some (.ref 15), some (.int x1), some (.int x2), some (.int x3)]) (S' := [.int (h.1 15 6), .int x3]) (h' := h) zp_30 rfl ?_
  refine zQ_ic zp_30 rfl (t := 45) rfl (i := x3.toInt) (j := (h.1 15 6).toInt) rfl rfl (fun c1 => ?_) (fun c1 => ?_)
  · refine zQ_seq 1 (pc' := 46) (L' := [some (.ref 15), some (.int x1), some (.int x2), some (.int x3)]) (S' := [.int x2]) (h' := h) zp_30 rfl ?_
    exact zQ_retI zp_30 rfl (H.1 c1)
  · refine zQ_seq 2 (pc' := 14) (L' := [some (.ref 15), some (.int x1), some (.int x2), some (.int x3)]) (S' := [.int (Int32.ofInt 4), .int x3]) (h' := h) zp_30 rfl ?_
    refine zQ_ic zp_30 rfl (t := 45) rfl (i := x3.toInt) (j := (4 : Int)) rfl kc_4 (fun c2 => ?_) (fun c2 => ?_)
    · refine zQ_seq 1 (pc' := 46) (L' := [some (.ref 15), some (.int x1), some (.int x2), some (.int x3)]) (S' := [.int x2]) (h' := h) zp_30 rfl ?_
      exact zQ_retI zp_30 rfl ((H.2 c1).1 c2)
    · refine zQ_seq 7 (pc' := 24) (L' := [some (.ref 15), some (.int x1), some (.int x2), some (.int x3)]) (S' := [.int (Int32.ofInt 1), .int ((x1 >>> (x3 &&& 31)) &&& (Int32.ofInt 1)), .int x2]) (h' := h) zp_30 rfl ?_
      refine zQ_ic zp_30 rfl (t := 36) rfl (i := ((x1 >>> (x3 &&& 31)) &&& (Int32.ofInt 1)).toInt) (j := (1 : Int)) rfl kc_1 (fun c3 => ?_) (fun c3 => ?_)
      · refine zQ_seq 4 (pc' := 42) (L' := [some (.ref 15), some (.int x1), some (.int (x2 ||| (Int32.ofInt 0))), some (.int (x3 + Int32.ofInt 1))]) (S' := []) (h' := h) zp_30 rfl ?_
        refine zQ_goto zp_30 rfl (t := 4) rfl ?_
        exact (((H.2 c1).2 c2).1 c3)
      · refine zQ_seq 3 (pc' := 32) (L' := [some (.ref 15), some (.int x1), some (.int x2), some (.int x3)]) (S' := [.int x3, .ref 20, .int x2]) (h' := h) zp_30 rfl ?_
        refine zQ_ial (N := 4) (f := h.1 20) zp_30 rfl rfl rfl (fun b4 b4' => ?_)
        refine zQ_goto zp_30 rfl (t := 37) rfl ?_
        refine zQ_seq 3 (pc' := 42) (L' := [some (.ref 15), some (.int x1), some (.int (x2 ||| (h.1 20 x3.toInt.toNat))), some (.int (x3 + Int32.ofInt 1))]) (S' := []) (h' := h) zp_30 rfl ?_
        refine zQ_goto zp_30 rfl (t := 4) rfl ?_
        exact ((((H.2 c1).2 c2).2 c3) b4 b4')
theorem s_31 {h : zH} {Q : Option Value → zH → Prop} (a1 : Int32) (H : (∀ n, zqm 25 [.ref 15] h (fun rv h1 => zri rv (fun v1 => zQ n 31 7 [some (.ref 15), some (.int a1), some (.int v1), some (.int (Int32.ofInt 0))] [] h1 Q)))) : zqm 31 [.ref 15, .int a1] h Q := by
  refine zqm_of zp_31 (fun n => ?_)
  have H := H n
  show zQ n 31 0 [some (.ref 15), some (.int a1), none, none] [] h Q
  refine zQ_seq 1 (pc' := 1) (L' := [some (.ref 15), some (.int a1), none, none]) (S' := [.ref 15]) (h' := h) zp_31 rfl ?_
  refine zQ_cvI (M' := 25) (as := [.ref 15]) (S' := []) zp_31 rfl rfl zp_25 (Or.inl rfl) rfl rfl (zqm_imp H (fun rv h1 r1 => zri_imp r1 (fun v1 r1' => ?_)))
  refine zQ_seq 3 (pc' := 7) (L' := [some (.ref 15), some (.int a1), some (.int v1), some (.int (Int32.ofInt 0))]) (S' := []) (h' := h1) zp_31 rfl ?_
  exact r1'
theorem s_31_7 {n : Nat} {h : zH} {Q : Option Value → zH → Prop} (x1 : Int32) (x2 : Int32) (x3 : Int32) (H : (((h.1 15 6).toInt ≤ x3.toInt → Q (some (.int (-1000000 : Int32))) h) ∧ (¬ ((h.1 15 6).toInt ≤ x3.toInt) → zqm 32 [.ref 15, .int x3, .int x2] h (fun rv h2 => zri rv (fun v2 => ((¬ v2.toInt = x1.toInt → zQ n 31 7 [some (.ref 15), some (.int x1), some (.int x2), some (.int (x3 + Int32.ofInt 1))] [] h2 Q) ∧ (¬ (¬ v2.toInt = x1.toInt) → Q (some (.int x3)) h2))))))) : zQ (n + 1) 31 7 [some (.ref 15), some (.int x1), some (.int x2), some (.int x3)] [] h Q := by
  refine zQ_seqL 2 (pc' := 12) (L' := [some (.ref 15), some (.int x1), some (.int x2), some (.int x3)]) (S' := [.int (h.1 15 6), .int x3]) (h' := h) zp_31 rfl ?_
  refine zQ_ic zp_31 rfl (t := 33) rfl (i := x3.toInt) (j := (h.1 15 6).toInt) rfl rfl (fun c1 => ?_) (fun c1 => ?_)
  · refine zQ_seq 1 (pc' := 35) (L' := [some (.ref 15), some (.int x1), some (.int x2), some (.int x3)]) (S' := [.int (-1000000 : Int32)]) (h' := h) zp_31 rfl ?_
    exact zQ_retI zp_31 rfl (H.1 c1)
  · refine zQ_seq 3 (pc' := 18) (L' := [some (.ref 15), some (.int x1), some (.int x2), some (.int x3)]) (S' := [.int x2, .int x3, .ref 15]) (h' := h) zp_31 rfl ?_
    refine zQ_cvI (M' := 32) (as := [.ref 15, .int x3, .int x2]) (S' := []) zp_31 rfl rfl zp_32 (Or.inl rfl) rfl rfl (zqm_imp (H.2 c1) (fun rv h2 r2 => zri_imp r2 (fun v2 r2' => ?_)))
    refine zQ_seq 1 (pc' := 22) (L' := [some (.ref 15), some (.int x1), some (.int x2), some (.int x3)]) (S' := [.int x1, .int v2]) (h' := h2) zp_31 rfl ?_
    refine zQ_ic zp_31 rfl (t := 27) rfl (i := v2.toInt) (j := x1.toInt) rfl rfl (fun c3 => ?_) (fun c3 => ?_)
    · refine zQ_seq 1 (pc' := 30) (L' := [some (.ref 15), some (.int x1), some (.int x2), some (.int (x3 + Int32.ofInt 1))]) (S' := []) (h' := h2) zp_31 rfl ?_
      refine zQ_goto zp_31 rfl (t := 7) rfl ?_
      exact (r2'.1 c3)
    · refine zQ_seq 1 (pc' := 26) (L' := [some (.ref 15), some (.int x1), some (.int x2), some (.int x3)]) (S' := [.int x3]) (h' := h2) zp_31 rfl ?_
      exact zQ_retI zp_31 rfl (r2'.2 c3)
theorem s_32 {h : zH} {Q : Option Value → zH → Prop} (a1 : Int32) (a2 : Int32) (H : (∀ n, zqm 17 [.ref 15, .int a1, .int a2] h (fun rv h1 => zri rv (fun v1 => zQ n 32 13 [some (.ref 15), some (.int a1), some (.int a2), some (.int (Int32.ofInt 0)), some (.int v1), some (.int (Int32.ofInt 0)), none] [] h1 Q)))) : zqm 32 [.ref 15, .int a1, .int a2] h Q := by
  refine zqm_of zp_32 (fun n => ?_)
  have H := H n
  show zQ n 32 0 [some (.ref 15), some (.int a1), some (.int a2), none, none, none, none] [] h Q
  refine zQ_seq 5 (pc' := 5) (L' := [some (.ref 15), some (.int a1), some (.int a2), some (.int (Int32.ofInt 0)), none, none, none]) (S' := [.int a2, .int a1, .ref 15]) (h' := h) zp_32 rfl ?_
  refine zQ_cvI (M' := 17) (as := [.ref 15, .int a1, .int a2]) (S' := []) zp_32 rfl rfl zp_17 (Or.inl rfl) rfl rfl (zqm_imp H (fun rv h1 r1 => zri_imp r1 (fun v1 r1' => ?_)))
  refine zQ_seq 3 (pc' := 13) (L' := [some (.ref 15), some (.int a1), some (.int a2), some (.int (Int32.ofInt 0)), some (.int v1), some (.int (Int32.ofInt 0)), none]) (S' := []) (h' := h1) zp_32 rfl ?_
  exact r1'
theorem s_32_13 {n : Nat} {h : zH} {Q : Option Value → zH → Prop} (x1 : Int32) (x2 : Int32) (x3 : Int32) (x4 : Int32) (x5 : Int32) (o6 : Option Value) (H : (((h.1 15 6).toInt ≤ x5.toInt → Q (some (.int x3)) h) ∧ (¬ ((h.1 15 6).toInt ≤ x5.toInt) → zqm 17 [.ref 15, .int x5, .int x2] h (fun rv h2 => zri rv (fun v2 => ((v2.toInt < x4.toInt → zQ n 32 13 [some (.ref 15), some (.int x1), some (.int x2), some (.int (x3 + Int32.ofInt 1)), some (.int x4), some (.int (x5 + Int32.ofInt 1)), some (.int v2)] [] h2 Q) ∧ (¬ (v2.toInt < x4.toInt) → ((¬ v2.toInt = x4.toInt → zQ n 32 13 [some (.ref 15), some (.int x1), some (.int x2), some (.int x3), some (.int x4), some (.int (x5 + Int32.ofInt 1)), some (.int v2)] [] h2 Q) ∧ (¬ (¬ v2.toInt = x4.toInt) → ((x1.toInt ≤ x5.toInt → zQ n 32 13 [some (.ref 15), some (.int x1), some (.int x2), some (.int x3), some (.int x4), some (.int (x5 + Int32.ofInt 1)), some (.int v2)] [] h2 Q) ∧ (¬ (x1.toInt ≤ x5.toInt) → zQ n 32 13 [some (.ref 15), some (.int x1), some (.int x2), some (.int (x3 + Int32.ofInt 1)), some (.int x4), some (.int (x5 + Int32.ofInt 1)), some (.int v2)] [] h2 Q))))))))))) : zQ (n + 1) 32 13 [some (.ref 15), some (.int x1), some (.int x2), some (.int x3), some (.int x4), some (.int x5), o6] [] h Q := by
  refine zQ_seqL 2 (pc' := 19) (L' := [some (.ref 15), some (.int x1), some (.int x2), some (.int x3), some (.int x4), some (.int x5), o6]) (S' := [.int (h.1 15 6), .int x5]) (h' := h) zp_32 rfl ?_
  refine zQ_ic zp_32 rfl (t := 60) rfl (i := x5.toInt) (j := (h.1 15 6).toInt) rfl rfl (fun c1 => ?_) (fun c1 => ?_)
  · refine zQ_seq 1 (pc' := 61) (L' := [some (.ref 15), some (.int x1), some (.int x2), some (.int x3), some (.int x4), some (.int x5), o6]) (S' := [.int x3]) (h' := h) zp_32 rfl ?_
    exact zQ_retI zp_32 rfl (H.1 c1)
  · refine zQ_seq 3 (pc' := 26) (L' := [some (.ref 15), some (.int x1), some (.int x2), some (.int x3), some (.int x4), some (.int x5), o6]) (S' := [.int x2, .int x5, .ref 15]) (h' := h) zp_32 rfl ?_
    refine zQ_cvI (M' := 17) (as := [.ref 15, .int x5, .int x2]) (S' := []) zp_32 rfl rfl zp_17 (Or.inl rfl) rfl rfl (zqm_imp (H.2 c1) (fun rv h2 r2 => zri_imp r2 (fun v2 r2' => ?_)))
    refine zQ_seq 3 (pc' := 35) (L' := [some (.ref 15), some (.int x1), some (.int x2), some (.int x3), some (.int x4), some (.int x5), some (.int v2)]) (S' := [.int x4, .int v2]) (h' := h2) zp_32 rfl ?_
    refine zQ_ic zp_32 rfl (t := 51) rfl (i := v2.toInt) (j := x4.toInt) rfl rfl (fun c3 => ?_) (fun c3 => ?_)
    · refine zQ_seq 2 (pc' := 57) (L' := [some (.ref 15), some (.int x1), some (.int x2), some (.int (x3 + Int32.ofInt 1)), some (.int x4), some (.int (x5 + Int32.ofInt 1)), some (.int v2)]) (S' := []) (h' := h2) zp_32 rfl ?_
      refine zQ_goto zp_32 rfl (t := 13) rfl ?_
      exact (r2'.1 c3)
    · refine zQ_seq 2 (pc' := 42) (L' := [some (.ref 15), some (.int x1), some (.int x2), some (.int x3), some (.int x4), some (.int x5), some (.int v2)]) (S' := [.int x4, .int v2]) (h' := h2) zp_32 rfl ?_
      refine zQ_ic zp_32 rfl (t := 54) rfl (i := v2.toInt) (j := x4.toInt) rfl rfl (fun c4 => ?_) (fun c4 => ?_)
      · refine zQ_seq 1 (pc' := 57) (L' := [some (.ref 15), some (.int x1), some (.int x2), some (.int x3), some (.int x4), some (.int (x5 + Int32.ofInt 1)), some (.int v2)]) (S' := []) (h' := h2) zp_32 rfl ?_
        refine zQ_goto zp_32 rfl (t := 13) rfl ?_
        exact ((r2'.2 c3).1 c4)
      · refine zQ_seq 2 (pc' := 48) (L' := [some (.ref 15), some (.int x1), some (.int x2), some (.int x3), some (.int x4), some (.int x5), some (.int v2)]) (S' := [.int x1, .int x5]) (h' := h2) zp_32 rfl ?_
        refine zQ_ic zp_32 rfl (t := 54) rfl (i := x5.toInt) (j := x1.toInt) rfl rfl (fun c5 => ?_) (fun c5 => ?_)
        · refine zQ_seq 1 (pc' := 57) (L' := [some (.ref 15), some (.int x1), some (.int x2), some (.int x3), some (.int x4), some (.int (x5 + Int32.ofInt 1)), some (.int v2)]) (S' := []) (h' := h2) zp_32 rfl ?_
          refine zQ_goto zp_32 rfl (t := 13) rfl ?_
          exact (((r2'.2 c3).2 c4).1 c5)
        · refine zQ_seq 2 (pc' := 57) (L' := [some (.ref 15), some (.int x1), some (.int x2), some (.int (x3 + Int32.ofInt 1)), some (.int x4), some (.int (x5 + Int32.ofInt 1)), some (.int v2)]) (S' := []) (h' := h2) zp_32 rfl ?_
          refine zQ_goto zp_32 rfl (t := 13) rfl ?_
          exact (((r2'.2 c3).2 c4).2 c5)
theorem s_33 {h : zH} {Q : Option Value → zH → Prop} (H : (∀ n, zQ n 33 13 [some (.ref 55), some (.ref 15), some (.ref 57), some (.int (Int32.ofInt 0)), none] [] (zSet (zSet h 55 1 (Int32.ofInt 0)) 55 2 (-1000000 : Int32)) Q)) : zqm 33 [.ref 55, .ref 15, .ref 57] h Q := by
  refine zqm_of zp_33 (fun n => ?_)
  have H := H n
  show zQ n 33 0 [some (.ref 55), some (.ref 15), some (.ref 57), none, none] [] h Q
  refine zQ_seq 8 (pc' := 13) (L' := [some (.ref 55), some (.ref 15), some (.ref 57), some (.int (Int32.ofInt 0)), none]) (S' := []) (h' := (zSet (zSet h 55 1 (Int32.ofInt 0)) 55 2 (-1000000 : Int32))) zp_33 rfl ?_
  exact H
theorem s_33_13 {n : Nat} {h : zH} {Q : Option Value → zH → Prop} (x3 : Int32) (H : (((15 : Int) ≤ x3.toInt → zqm 34 [.ref 55, .ref 15, .ref 57, .int (Int32.ofInt 0)] h (fun _ h2 => zQ n 33 41 [some (.ref 55), some (.ref 15), some (.ref 57), some (.int (Int32.ofInt 0)), none] [] h2 Q)) ∧ (¬ ((15 : Int) ≤ x3.toInt) → (0 ≤ x3.toInt → x3.toInt < 15 → zQ n 33 13 [some (.ref 55), some (.ref 15), some (.ref 57), some (.int (x3 + Int32.ofInt 1)), none] [] (zSet h 56 x3.toInt.toNat (Int32.ofInt 0)) Q)))) : zQ (n + 1) 33 13 [some (.ref 55), some (.ref 15), some (.ref 57), some (.int x3), none] [] h Q := by
  refine zQ_seqL 1 (pc' := 16) (L' := [some (.ref 55), some (.ref 15), some (.ref 57), some (.int x3), none]) (S' := [.int (Int32.ofInt 15), .int x3]) (h' := h) zp_33 rfl ?_
  refine zQ_ic zp_33 rfl (t := 32) rfl (i := x3.toInt) (j := (15 : Int)) rfl kc_15 (fun c1 => ?_) (fun c1 => ?_)
  · refine zQ_seq 4 (pc' := 36) (L' := [some (.ref 55), some (.ref 15), some (.ref 57), some (.int x3), none]) (S' := [.int (Int32.ofInt 0), .ref 57, .ref 15, .ref 55]) (h' := h) zp_33 rfl ?_
    refine zQ_cvV (M' := 34) (as := [.ref 55, .ref 15, .ref 57, .int (Int32.ofInt 0)]) (S' := []) zp_33 rfl rfl zp_34 rfl rfl rfl (zqm_imp (H.1 c1) (fun rv h2 r2 => ?_))
    refine zQ_seq 2 (pc' := 41) (L' := [some (.ref 55), some (.ref 15), some (.ref 57), some (.int (Int32.ofInt 0)), none]) (S' := []) (h' := h2) zp_33 rfl ?_
    exact r2
  · refine zQ_seq 4 (pc' := 25) (L' := [some (.ref 55), some (.ref 15), some (.ref 57), some (.int x3), none]) (S' := [.int (Int32.ofInt 0), .int x3, .ref 56]) (h' := h) zp_33 rfl ?_
    refine zQ_ias (N := 15) zp_33 rfl rfl rfl (fun b3 b3' => ?_)
    refine zQ_seq 1 (pc' := 29) (L' := [some (.ref 55), some (.ref 15), some (.ref 57), some (.int (x3 + Int32.ofInt 1)), none]) (S' := []) (h' := (zSet h 56 x3.toInt.toNat (Int32.ofInt 0))) zp_33 rfl ?_
    refine zQ_goto zp_33 rfl (t := 13) rfl ?_
    exact ((H.2 c1) b3 b3')
theorem s_33_41 {n : Nat} {h : zH} {Q : Option Value → zH → Prop} (x3 : Int32) (o4 : Option Value) (H : (((15 : Int) ≤ x3.toInt → Q none h) ∧ (¬ ((15 : Int) ≤ x3.toInt) → zQ n 33 50 [some (.ref 55), some (.ref 15), some (.ref 57), some (.int x3), some (.int x3)] [] h Q))) : zQ (n + 1) 33 41 [some (.ref 55), some (.ref 15), some (.ref 57), some (.int x3), o4] [] h Q := by
  refine zQ_seqL 1 (pc' := 44) (L' := [some (.ref 55), some (.ref 15), some (.ref 57), some (.int x3), o4]) (S' := [.int (Int32.ofInt 15), .int x3]) (h' := h) zp_33 rfl ?_
  refine zQ_ic zp_33 rfl (t := 83) rfl (i := x3.toInt) (j := (15 : Int)) rfl kc_15 (fun c1 => ?_) (fun c1 => ?_)
  · exact zQ_retV zp_33 rfl (H.1 c1)
  · refine zQ_seq 2 (pc' := 50) (L' := [some (.ref 55), some (.ref 15), some (.ref 57), some (.int x3), some (.int x3)]) (S' := []) (h' := h) zp_33 rfl ?_
    exact (H.2 c1)
theorem s_33_50 {n : Nat} {h : zH} {Q : Option Value → zH → Prop} (x3 : Int32) (x4 : Int32) (H : (((15 : Int) ≤ x4.toInt → zQ n 33 41 [some (.ref 55), some (.ref 15), some (.ref 57), some (.int (x3 + Int32.ofInt 1)), some (.int x4)] [] h Q) ∧ (¬ ((15 : Int) ≤ x4.toInt) → zqm 34 [.ref 55, .ref 15, .ref 57, .int (((Int32.ofInt 1) <<< (x3 &&& 31)) ||| ((Int32.ofInt 1) <<< (x4 &&& 31)))] h (fun _ h2 => zQ n 33 50 [some (.ref 55), some (.ref 15), some (.ref 57), some (.int x3), some (.int (x4 + Int32.ofInt 1))] [] h2 Q)))) : zQ (n + 1) 33 50 [some (.ref 55), some (.ref 15), some (.ref 57), some (.int x3), some (.int x4)] [] h Q := by
  refine zQ_seqL 1 (pc' := 54) (L' := [some (.ref 55), some (.ref 15), some (.ref 57), some (.int x3), some (.int x4)]) (S' := [.int (Int32.ofInt 15), .int x4]) (h' := h) zp_33 rfl ?_
  refine zQ_ic zp_33 rfl (t := 77) rfl (i := x4.toInt) (j := (15 : Int)) rfl kc_15 (fun c1 => ?_) (fun c1 => ?_)
  · refine zQ_seq 1 (pc' := 80) (L' := [some (.ref 55), some (.ref 15), some (.ref 57), some (.int (x3 + Int32.ofInt 1)), some (.int x4)]) (S' := []) (h' := h) zp_33 rfl ?_
    refine zQ_goto zp_33 rfl (t := 41) rfl ?_
    exact (H.1 c1)
  · refine zQ_seq 10 (pc' := 68) (L' := [some (.ref 55), some (.ref 15), some (.ref 57), some (.int x3), some (.int x4)]) (S' := [.int (((Int32.ofInt 1) <<< (x3 &&& 31)) ||| ((Int32.ofInt 1) <<< (x4 &&& 31))), .ref 57, .ref 15, .ref 55]) (h' := h) zp_33 rfl ?_
    refine zQ_cvV (M' := 34) (as := [.ref 55, .ref 15, .ref 57, .int (((Int32.ofInt 1) <<< (x3 &&& 31)) ||| ((Int32.ofInt 1) <<< (x4 &&& 31)))]) (S' := []) zp_33 rfl rfl zp_34 rfl rfl rfl (zqm_imp (H.2 c1) (fun rv h2 r2 => ?_))
    refine zQ_seq 1 (pc' := 74) (L' := [some (.ref 55), some (.ref 15), some (.ref 57), some (.int x3), some (.int (x4 + Int32.ofInt 1))]) (S' := []) (h' := h2) zp_33 rfl ?_
    refine zQ_goto zp_33 rfl (t := 50) rfl ?_
    exact r2
theorem s_34 {h : zH} {Q : Option Value → zH → Prop} (a3 : Int32) (H : (∀ n, zqm 19 [.ref 15, .int a3, .ref 57] h (fun rv h1 => zri rv (fun v1 => ((¬ v1.toInt = 0 → zQ n 34 23 [some (.ref 55), some (.ref 15), some (.ref 57), some (.int a3), some (.int (Int32.ofInt 0))] [] (zSet h1 55 1 ((h1.1 55 1) + (Int32.ofInt 1))) Q) ∧ (¬ (¬ v1.toInt = 0) → Q none h1)))))) : zqm 34 [.ref 55, .ref 15, .ref 57, .int a3] h Q := by
  refine zqm_of zp_34 (fun n => ?_)
  have H := H n
  show zQ n 34 0 [some (.ref 55), some (.ref 15), some (.ref 57), some (.int a3), none] [] h Q
  refine zQ_seq 3 (pc' := 3) (L' := [some (.ref 55), some (.ref 15), some (.ref 57), some (.int a3), none]) (S' := [.ref 57, .int a3, .ref 15]) (h' := h) zp_34 rfl ?_
  refine zQ_cvI (M' := 19) (as := [.ref 15, .int a3, .ref 57]) (S' := []) zp_34 rfl rfl zp_19 (Or.inr rfl) rfl rfl (zqm_imp H (fun rv h1 r1 => zri_imp r1 (fun v1 r1' => ?_)))
  refine zQ_if zp_34 rfl (t := 10) rfl (i := v1.toInt) rfl (fun c2 => ?_) (fun c2 => ?_)
  · refine zQ_seq 8 (pc' := 23) (L' := [some (.ref 55), some (.ref 15), some (.ref 57), some (.int a3), some (.int (Int32.ofInt 0))]) (S' := []) (h' := (zSet h1 55 1 ((h1.1 55 1) + (Int32.ofInt 1)))) zp_34 rfl ?_
    exact (r1'.1 c2)
  · exact zQ_retV zp_34 rfl (r1'.2 c2)
theorem s_34_23 {n : Nat} {h : zH} {Q : Option Value → zH → Prop} (x3 : Int32) (x4 : Int32) (H : (((15 : Int) ≤ x4.toInt → (((h.1 55 2).toInt = (-1000000 : Int) → Q none (zSet h 55 2 x3)) ∧ (¬ ((h.1 55 2).toInt = (-1000000 : Int)) → zqm 35 [.int x3, .int (h.1 55 2)] h (fun rv h3 => zri rv (fun v3 => ((v3.toInt = 0 → Q none h3) ∧ (¬ (v3.toInt = 0) → Q none (zSet h3 55 2 x3)))))))) ∧ (¬ ((15 : Int) ≤ x4.toInt) → (0 ≤ x4.toInt → x4.toInt < 15 → (0 ≤ x4.toInt → x4.toInt < 15 → zQ n 34 23 [some (.ref 55), some (.ref 15), some (.ref 57), some (.int x3), some (.int (x4 + Int32.ofInt 1))] [] (zSet h 56 x4.toInt.toNat ((h.1 56 x4.toInt.toNat) + ((x3 >>> (x4 &&& 31)) &&& (Int32.ofInt 1)))) Q))))) : zQ (n + 1) 34 23 [some (.ref 55), some (.ref 15), some (.ref 57), some (.int x3), some (.int x4)] [] h Q := by
  refine zQ_seqL 1 (pc' := 27) (L' := [some (.ref 55), some (.ref 15), some (.ref 57), some (.int x3), some (.int x4)]) (S' := [.int (Int32.ofInt 15), .int x4]) (h' := h) zp_34 rfl ?_
  refine zQ_ic zp_34 rfl (t := 52) rfl (i := x4.toInt) (j := (15 : Int)) rfl kc_15 (fun c1 => ?_) (fun c1 => ?_)
  · refine zQ_seq 3 (pc' := 58) (L' := [some (.ref 55), some (.ref 15), some (.ref 57), some (.int x3), some (.int x4)]) (S' := [.int (-1000000 : Int32), .int (h.1 55 2)]) (h' := h) zp_34 rfl ?_
    refine zQ_ic zp_34 rfl (t := 72) rfl (i := (h.1 55 2).toInt) (j := (-1000000 : Int)) rfl kdm1000000 (fun c2 => ?_) (fun c2 => ?_)
    · refine zQ_seq 3 (pc' := 77) (L' := [some (.ref 55), some (.ref 15), some (.ref 57), some (.int x3), some (.int x4)]) (S' := []) (h' := (zSet h 55 2 x3)) zp_34 rfl ?_
      exact zQ_retV zp_34 rfl ((H.1 c1).1 c2)
    · refine zQ_seq 3 (pc' := 66) (L' := [some (.ref 55), some (.ref 15), some (.ref 57), some (.int x3), some (.int x4)]) (S' := [.int (h.1 55 2), .int x3]) (h' := h) zp_34 rfl ?_
      refine zQ_csI (M' := 35) (as := [.int x3, .int (h.1 55 2)]) (S' := []) zp_34 rfl rfl rfl zp_35 (Or.inr rfl) rfl rfl (zqm_imp ((H.1 c1).2 c2) (fun rv h3 r3 => zri_imp r3 (fun v3 r3' => ?_)))
      refine zQ_if zp_34 rfl (t := 77) rfl (i := v3.toInt) rfl (fun c4 => ?_) (fun c4 => ?_)
      · exact zQ_retV zp_34 rfl (r3'.1 c4)
      · refine zQ_seq 3 (pc' := 77) (L' := [some (.ref 55), some (.ref 15), some (.ref 57), some (.int x3), some (.int x4)]) (S' := []) (h' := (zSet h3 55 2 x3)) zp_34 rfl ?_
        exact zQ_retV zp_34 rfl (r3'.2 c4)
  · refine zQ_seq 4 (pc' := 37) (L' := [some (.ref 55), some (.ref 15), some (.ref 57), some (.int x3), some (.int x4)]) (S' := [.int x4, .ref 56, .int x4, .ref 56]) (h' := h) zp_34 rfl ?_
    refine zQ_ial (N := 15) (f := h.1 56) zp_34 rfl rfl rfl (fun b5 b5' => ?_)
    refine zQ_seq 6 (pc' := 45) (L' := [some (.ref 55), some (.ref 15), some (.ref 57), some (.int x3), some (.int x4)]) (S' := [.int ((h.1 56 x4.toInt.toNat) + ((x3 >>> (x4 &&& 31)) &&& (Int32.ofInt 1))), .int x4, .ref 56]) (h' := h) zp_34 rfl ?_
    refine zQ_ias (N := 15) zp_34 rfl rfl rfl (fun b6 b6' => ?_)
    refine zQ_seq 1 (pc' := 49) (L' := [some (.ref 55), some (.ref 15), some (.ref 57), some (.int x3), some (.int (x4 + Int32.ofInt 1))]) (S' := []) (h' := (zSet h 56 x4.toInt.toNat ((h.1 56 x4.toInt.toNat) + ((x3 >>> (x4 &&& 31)) &&& (Int32.ofInt 1))))) zp_34 rfl ?_
    refine zQ_goto zp_34 rfl (t := 23) rfl ?_
    exact (((H.2 c1) b5 b5') b6 b6')
theorem s_35 {h : zH} {Q : Option Value → zH → Prop} (a0 : Int32) (a1 : Int32) (H : zqm 217 [.int a0] h (fun rv h1 => zri rv (fun v1 => zqm 217 [.int a1] h1 (fun rv h2 => zri rv (fun v2 => (((v1 - v2).toInt < 0 → Q (some (.int (Int32.ofInt 1))) h2) ∧ (¬ ((v1 - v2).toInt < 0) → ((¬ (v1 - v2).toInt = 0 → Q (some (.int (Int32.ofInt 0))) h2) ∧ (¬ (¬ (v1 - v2).toInt = 0) → ((a1.toInt ≤ a0.toInt → Q (some (.int (Int32.ofInt 0))) h2) ∧ (¬ (a1.toInt ≤ a0.toInt) → Q (some (.int (Int32.ofInt 1))) h2))))))))))) : zqm 35 [.int a0, .int a1] h Q := by
  refine zqm_of zp_35 (fun n => ?_)
  show zQ n 35 0 [some (.int a0), some (.int a1), none] [] h Q
  refine zQ_seq 1 (pc' := 1) (L' := [some (.int a0), some (.int a1), none]) (S' := [.int a0]) (h' := h) zp_35 rfl ?_
  refine zQ_csI (M' := 217) (as := [.int a0]) (S' := []) zp_35 rfl rfl rfl zp_217 (Or.inl rfl) rfl rfl (zqm_imp H (fun rv h1 r1 => zri_imp r1 (fun v1 r1' => ?_)))
  refine zQ_seq 1 (pc' := 5) (L' := [some (.int a0), some (.int a1), none]) (S' := [.int a1, .int v1]) (h' := h1) zp_35 rfl ?_
  refine zQ_csI (M' := 217) (as := [.int a1]) (S' := [.int v1]) zp_35 rfl rfl rfl zp_217 (Or.inl rfl) rfl rfl (zqm_imp r1' (fun rv h2 r2 => zri_imp r2 (fun v2 r2' => ?_)))
  refine zQ_seq 3 (pc' := 11) (L' := [some (.int a0), some (.int a1), some (.int (v1 - v2))]) (S' := [.int (v1 - v2)]) (h' := h2) zp_35 rfl ?_
  refine zQ_if zp_35 rfl (t := 23) rfl (i := (v1 - v2).toInt) rfl (fun c3 => ?_) (fun c3 => ?_)
  · refine zQ_seq 1 (pc' := 24) (L' := [some (.int a0), some (.int a1), some (.int (v1 - v2))]) (S' := [.int (Int32.ofInt 1)]) (h' := h2) zp_35 rfl ?_
    refine zQ_goto zp_35 rfl (t := 28) rfl ?_
    exact zQ_retI zp_35 rfl (r2'.1 c3)
  · refine zQ_seq 1 (pc' := 15) (L' := [some (.int a0), some (.int a1), some (.int (v1 - v2))]) (S' := [.int (v1 - v2)]) (h' := h2) zp_35 rfl ?_
    refine zQ_if zp_35 rfl (t := 27) rfl (i := (v1 - v2).toInt) rfl (fun c4 => ?_) (fun c4 => ?_)
    · refine zQ_seq 1 (pc' := 28) (L' := [some (.int a0), some (.int a1), some (.int (v1 - v2))]) (S' := [.int (Int32.ofInt 0)]) (h' := h2) zp_35 rfl ?_
      exact zQ_retI zp_35 rfl ((r2'.2 c3).1 c4)
    · refine zQ_seq 2 (pc' := 20) (L' := [some (.int a0), some (.int a1), some (.int (v1 - v2))]) (S' := [.int a1, .int a0]) (h' := h2) zp_35 rfl ?_
      refine zQ_ic zp_35 rfl (t := 27) rfl (i := a0.toInt) (j := a1.toInt) rfl rfl (fun c5 => ?_) (fun c5 => ?_)
      · refine zQ_seq 1 (pc' := 28) (L' := [some (.int a0), some (.int a1), some (.int (v1 - v2))]) (S' := [.int (Int32.ofInt 0)]) (h' := h2) zp_35 rfl ?_
        exact zQ_retI zp_35 rfl (((r2'.2 c3).2 c4).1 c5)
      · refine zQ_seq 1 (pc' := 24) (L' := [some (.int a0), some (.int a1), some (.int (v1 - v2))]) (S' := [.int (Int32.ofInt 1)]) (h' := h2) zp_35 rfl ?_
        refine zQ_goto zp_35 rfl (t := 28) rfl ?_
        exact zQ_retI zp_35 rfl (((r2'.2 c3).2 c4).2 c5)
theorem s_36 {h : zH} {Q : Option Value → zH → Prop} (H : (∀ n, ((¬ (h.1 55 1).toInt = 0 → zQ n 36 14 [some (.ref 55), some (.int (Int32.ofInt 0)), some (.int (Int32.ofInt 1))] [] h Q) ∧ (¬ (¬ (h.1 55 1).toInt = 0) → Q (some (.int (-1000000 : Int32))) h)))) : zqm 36 [.ref 55] h Q := by
  refine zqm_of zp_36 (fun n => ?_)
  have H := H n
  show zQ n 36 0 [some (.ref 55), none, none] [] h Q
  refine zQ_seq 2 (pc' := 4) (L' := [some (.ref 55), none, none]) (S' := [.int (h.1 55 1)]) (h' := h) zp_36 rfl ?_
  refine zQ_if zp_36 rfl (t := 10) rfl (i := (h.1 55 1).toInt) rfl (fun c1 => ?_) (fun c1 => ?_)
  · refine zQ_seq 4 (pc' := 14) (L' := [some (.ref 55), some (.int (Int32.ofInt 0)), some (.int (Int32.ofInt 1))]) (S' := []) (h' := h) zp_36 rfl ?_
    exact (H.1 c1)
  · refine zQ_seq 1 (pc' := 9) (L' := [some (.ref 55), none, none]) (S' := [.int (-1000000 : Int32)]) (h' := h) zp_36 rfl ?_
    exact zQ_retI zp_36 rfl (H.2 c1)
theorem s_36_14 {n : Nat} {h : zH} {Q : Option Value → zH → Prop} (x1 : Int32) (x2 : Int32) (H : (((15 : Int) ≤ x2.toInt → Q (some (.int x1)) h) ∧ (¬ ((15 : Int) ≤ x2.toInt) → zqm 37 [.ref 55, .int x2] h (fun rv h2 => zri rv (fun v2 => zqm 37 [.ref 55, .int x1] h2 (fun rv h3 => zri rv (fun v3 => ((v3.toInt ≤ v2.toInt → zQ n 36 14 [some (.ref 55), some (.int x1), some (.int (x2 + Int32.ofInt 1))] [] h3 Q) ∧ (¬ (v3.toInt ≤ v2.toInt) → zQ n 36 14 [some (.ref 55), some (.int x2), some (.int (x2 + Int32.ofInt 1))] [] h3 Q))))))))) : zQ (n + 1) 36 14 [some (.ref 55), some (.int x1), some (.int x2)] [] h Q := by
  refine zQ_seqL 1 (pc' := 17) (L' := [some (.ref 55), some (.int x1), some (.int x2)]) (S' := [.int (Int32.ofInt 15), .int x2]) (h' := h) zp_36 rfl ?_
  refine zQ_ic zp_36 rfl (t := 41) rfl (i := x2.toInt) (j := (15 : Int)) rfl kc_15 (fun c1 => ?_) (fun c1 => ?_)
  · refine zQ_seq 1 (pc' := 42) (L' := [some (.ref 55), some (.int x1), some (.int x2)]) (S' := [.int x1]) (h' := h) zp_36 rfl ?_
    exact zQ_retI zp_36 rfl (H.1 c1)
  · refine zQ_seq 2 (pc' := 22) (L' := [some (.ref 55), some (.int x1), some (.int x2)]) (S' := [.int x2, .ref 55]) (h' := h) zp_36 rfl ?_
    refine zQ_cvI (M' := 37) (as := [.ref 55, .int x2]) (S' := []) zp_36 rfl rfl zp_37 (Or.inl rfl) rfl rfl (zqm_imp (H.2 c1) (fun rv h2 r2 => zri_imp r2 (fun v2 r2' => ?_)))
    refine zQ_seq 2 (pc' := 27) (L' := [some (.ref 55), some (.int x1), some (.int x2)]) (S' := [.int x1, .ref 55, .int v2]) (h' := h2) zp_36 rfl ?_
    refine zQ_cvI (M' := 37) (as := [.ref 55, .int x1]) (S' := [.int v2]) zp_36 rfl rfl zp_37 (Or.inl rfl) rfl rfl (zqm_imp r2' (fun rv h3 r3 => zri_imp r3 (fun v3 r3' => ?_)))
    refine zQ_ic zp_36 rfl (t := 35) rfl (i := v2.toInt) (j := v3.toInt) rfl rfl (fun c4 => ?_) (fun c4 => ?_)
    · refine zQ_seq 1 (pc' := 38) (L' := [some (.ref 55), some (.int x1), some (.int (x2 + Int32.ofInt 1))]) (S' := []) (h' := h3) zp_36 rfl ?_
      refine zQ_goto zp_36 rfl (t := 14) rfl ?_
      exact (r3'.1 c4)
    · refine zQ_seq 3 (pc' := 38) (L' := [some (.ref 55), some (.int x2), some (.int (x2 + Int32.ofInt 1))]) (S' := []) (h' := h3) zp_36 rfl ?_
      refine zQ_goto zp_36 rfl (t := 14) rfl ?_
      exact (r3'.2 c4)
theorem s_37 {h : zH} {Q : Option Value → zH → Prop} (a1 : Int32) (H : ((a1.toInt < 0 → Q (some (.int (h.1 55 1))) h) ∧ (¬ (a1.toInt < 0) → (((15 : Int) ≤ a1.toInt → Q (some (.int (h.1 55 1))) h) ∧ (¬ ((15 : Int) ≤ a1.toInt) → (0 ≤ a1.toInt → a1.toInt < 15 → zqm 219 [.int (((Int32.ofInt 2) * (h.1 56 a1.toInt.toNat)) - (h.1 55 1))] h (fun rv h4 => zri rv (fun v4 => Q (some (.int v4)) h4)))))))) : zqm 37 [.ref 55, .int a1] h Q := by
  refine zqm_of zp_37 (fun n => ?_)
  show zQ n 37 0 [some (.ref 55), some (.int a1)] [] h Q
  refine zQ_seq 1 (pc' := 1) (L' := [some (.ref 55), some (.int a1)]) (S' := [.int a1]) (h' := h) zp_37 rfl ?_
  refine zQ_if zp_37 rfl (t := 29) rfl (i := a1.toInt) rfl (fun c1 => ?_) (fun c1 => ?_)
  · refine zQ_seq 2 (pc' := 33) (L' := [some (.ref 55), some (.int a1)]) (S' := [.int (h.1 55 1)]) (h' := h) zp_37 rfl ?_
    exact zQ_retI zp_37 rfl (H.1 c1)
  · refine zQ_seq 2 (pc' := 7) (L' := [some (.ref 55), some (.int a1)]) (S' := [.int (Int32.ofInt 15), .int a1]) (h' := h) zp_37 rfl ?_
    refine zQ_ic zp_37 rfl (t := 29) rfl (i := a1.toInt) (j := (15 : Int)) rfl kc_15 (fun c2 => ?_) (fun c2 => ?_)
    · refine zQ_seq 2 (pc' := 33) (L' := [some (.ref 55), some (.int a1)]) (S' := [.int (h.1 55 1)]) (h' := h) zp_37 rfl ?_
      exact zQ_retI zp_37 rfl ((H.2 c1).1 c2)
    · refine zQ_seq 4 (pc' := 16) (L' := [some (.ref 55), some (.int a1)]) (S' := [.int a1, .ref 56, .int (Int32.ofInt 2)]) (h' := h) zp_37 rfl ?_
      refine zQ_ial (N := 15) (f := h.1 56) zp_37 rfl rfl rfl (fun b3 b3' => ?_)
      refine zQ_seq 4 (pc' := 23) (L' := [some (.ref 55), some (.int a1)]) (S' := [.int (((Int32.ofInt 2) * (h.1 56 a1.toInt.toNat)) - (h.1 55 1))]) (h' := h) zp_37 rfl ?_
      refine zQ_csI (M' := 219) (as := [.int (((Int32.ofInt 2) * (h.1 56 a1.toInt.toNat)) - (h.1 55 1))]) (S' := []) zp_37 rfl rfl rfl zp_219 (Or.inl rfl) rfl rfl (zqm_imp (((H.2 c1).2 c2) b3 b3') (fun rv h4 r4 => zri_imp r4 (fun v4 r4' => ?_)))
      refine zQ_goto zp_37 rfl (t := 33) rfl ?_
      exact zQ_retI zp_37 rfl r4'
theorem s_38 {h : zH} {Q : Option Value → zH → Prop} (a0 : Int32) (a1 : Int32) (a2 : Int32) (H : zqm 219 [.int a0] h (fun rv h1 => zri rv (fun v1 => zqm 39 [.int v1, .int a1] h1 (fun rv h2 => zri rv (fun v2 => ((¬ v2.toInt = 0 → ((¬ a2.toInt = 0 → (¬ v2 = 0 → Q (some (.int (a1 / v2))) h2)) ∧ (¬ (¬ a2.toInt = 0) → (¬ v2 = 0 → Q (some (.int (a0 / v2))) h2)))) ∧ (¬ (¬ v2.toInt = 0) → Q (some (.int (-1000000 : Int32))) h2))))))) : zqm 38 [.int a0, .int a1, .int a2] h Q := by
  refine zqm_of zp_38 (fun n => ?_)
  show zQ n 38 0 [some (.int a0), some (.int a1), some (.int a2), none] [] h Q
  refine zQ_seq 1 (pc' := 1) (L' := [some (.int a0), some (.int a1), some (.int a2), none]) (S' := [.int a0]) (h' := h) zp_38 rfl ?_
  refine zQ_csI (M' := 219) (as := [.int a0]) (S' := []) zp_38 rfl rfl rfl zp_219 (Or.inl rfl) rfl rfl (zqm_imp H (fun rv h1 r1 => zri_imp r1 (fun v1 r1' => ?_)))
  refine zQ_seq 1 (pc' := 5) (L' := [some (.int a0), some (.int a1), some (.int a2), none]) (S' := [.int a1, .int v1]) (h' := h1) zp_38 rfl ?_
  refine zQ_csI (M' := 39) (as := [.int v1, .int a1]) (S' := []) zp_38 rfl rfl rfl zp_39 (Or.inl rfl) rfl rfl (zqm_imp r1' (fun rv h2 r2 => zri_imp r2 (fun v2 r2' => ?_)))
  refine zQ_seq 2 (pc' := 10) (L' := [some (.int a0), some (.int a1), some (.int a2), some (.int v2)]) (S' := [.int v2]) (h' := h2) zp_38 rfl ?_
  refine zQ_if zp_38 rfl (t := 16) rfl (i := v2.toInt) rfl (fun c3 => ?_) (fun c3 => ?_)
  · refine zQ_seq 1 (pc' := 17) (L' := [some (.int a0), some (.int a1), some (.int a2), some (.int v2)]) (S' := [.int a2]) (h' := h2) zp_38 rfl ?_
    refine zQ_if zp_38 rfl (t := 24) rfl (i := a2.toInt) rfl (fun c4 => ?_) (fun c4 => ?_)
    · refine zQ_seq 2 (pc' := 26) (L' := [some (.int a0), some (.int a1), some (.int a2), some (.int v2)]) (S' := [.int v2, .int a1]) (h' := h2) zp_38 rfl ?_
      refine zQ_div zp_38 rfl (fun b5 => ?_)
      exact zQ_retI zp_38 rfl (((r2'.1 c3).1 c4) b5)
    · refine zQ_seq 1 (pc' := 21) (L' := [some (.int a0), some (.int a1), some (.int a2), some (.int v2)]) (S' := [.int a0]) (h' := h2) zp_38 rfl ?_
      refine zQ_goto zp_38 rfl (t := 25) rfl ?_
      refine zQ_seq 1 (pc' := 26) (L' := [some (.int a0), some (.int a1), some (.int a2), some (.int v2)]) (S' := [.int v2, .int a0]) (h' := h2) zp_38 rfl ?_
      refine zQ_div zp_38 rfl (fun b6 => ?_)
      exact zQ_retI zp_38 rfl (((r2'.1 c3).2 c4) b6)
  · refine zQ_seq 1 (pc' := 15) (L' := [some (.int a0), some (.int a1), some (.int a2), some (.int v2)]) (S' := [.int (-1000000 : Int32)]) (h' := h2) zp_38 rfl ?_
    exact zQ_retI zp_38 rfl (r2'.2 c3)
theorem s_39 {h : zH} {Q : Option Value → zH → Prop} (a0 : Int32) (a1 : Int32) (H : (∀ n, zQ n 39 7 [some (.int a0), some (.int a1), some (.int a0), some (.int a1), some (.int (Int32.ofInt 0)), none] [] h Q)) : zqm 39 [.int a0, .int a1] h Q := by
  refine zqm_of zp_39 (fun n => ?_)
  have H := H n
  show zQ n 39 0 [some (.int a0), some (.int a1), none, none, none, none] [] h Q
  refine zQ_seq 6 (pc' := 7) (L' := [some (.int a0), some (.int a1), some (.int a0), some (.int a1), some (.int (Int32.ofInt 0)), none]) (S' := []) (h' := h) zp_39 rfl ?_
  exact H
theorem s_39_7 {n : Nat} {h : zH} {Q : Option Value → zH → Prop} (x0 : Int32) (x1 : Int32) (x2 : Int32) (x3 : Int32) (x4 : Int32) (o5 : Option Value) (H : (((100 : Int) ≤ x4.toInt → Q (some (.int x2)) h) ∧ (¬ ((100 : Int) ≤ x4.toInt) → ((x3.toInt = 0 → Q (some (.int x2)) h) ∧ (¬ (x3.toInt = 0) → (¬ x3 = 0 → zQ n 39 7 [some (.int x0), some (.int x1), some (.int x3), some (.int (x2 - x2 / x3 * x3)), some (.int (x4 + Int32.ofInt 1)), some (.int (x2 - x2 / x3 * x3))] [] h Q)))))) : zQ (n + 1) 39 7 [some (.int x0), some (.int x1), some (.int x2), some (.int x3), some (.int x4), o5] [] h Q := by
  refine zQ_seqL 1 (pc' := 11) (L' := [some (.int x0), some (.int x1), some (.int x2), some (.int x3), some (.int x4), o5]) (S' := [.int (Int32.ofInt 100), .int x4]) (h' := h) zp_39 rfl ?_
  refine zQ_ic zp_39 rfl (t := 34) rfl (i := x4.toInt) (j := (100 : Int)) rfl kc_100 (fun c1 => ?_) (fun c1 => ?_)
  · refine zQ_seq 1 (pc' := 35) (L' := [some (.int x0), some (.int x1), some (.int x2), some (.int x3), some (.int x4), o5]) (S' := [.int x2]) (h' := h) zp_39 rfl ?_
    exact zQ_retI zp_39 rfl (H.1 c1)
  · refine zQ_seq 1 (pc' := 15) (L' := [some (.int x0), some (.int x1), some (.int x2), some (.int x3), some (.int x4), o5]) (S' := [.int x3]) (h' := h) zp_39 rfl ?_
    refine zQ_if zp_39 rfl (t := 34) rfl (i := x3.toInt) rfl (fun c2 => ?_) (fun c2 => ?_)
    · refine zQ_seq 1 (pc' := 35) (L' := [some (.int x0), some (.int x1), some (.int x2), some (.int x3), some (.int x4), o5]) (S' := [.int x2]) (h' := h) zp_39 rfl ?_
      exact zQ_retI zp_39 rfl ((H.2 c1).1 c2)
    · refine zQ_seq 2 (pc' := 20) (L' := [some (.int x0), some (.int x1), some (.int x2), some (.int x3), some (.int x4), o5]) (S' := [.int x3, .int x2]) (h' := h) zp_39 rfl ?_
      refine zQ_rem zp_39 rfl (fun b3 => ?_)
      refine zQ_seq 6 (pc' := 31) (L' := [some (.int x0), some (.int x1), some (.int x3), some (.int (x2 - x2 / x3 * x3)), some (.int (x4 + Int32.ofInt 1)), some (.int (x2 - x2 / x3 * x3))]) (S' := []) (h' := h) zp_39 rfl ?_
      refine zQ_goto zp_39 rfl (t := 7) rfl ?_
      exact (((H.2 c1).2 c2) b3)
theorem s_40 {h : zH} {Q : Option Value → zH → Prop} (a0 : Int32) (a1 : Int32) (H : (∀ n, zQ n 40 4 [some (.int a0), some (.int a1), some (.int (Int32.ofInt 1)), some (.int (Int32.ofInt 0))] [] h Q)) : zqm 40 [.int a0, .int a1] h Q := by
  refine zqm_of zp_40 (fun n => ?_)
  have H := H n
  show zQ n 40 0 [some (.int a0), some (.int a1), none, none] [] h Q
  refine zQ_seq 4 (pc' := 4) (L' := [some (.int a0), some (.int a1), some (.int (Int32.ofInt 1)), some (.int (Int32.ofInt 0))]) (S' := []) (h' := h) zp_40 rfl ?_
  exact H
theorem s_40_4 {n : Nat} {h : zH} {Q : Option Value → zH → Prop} (x0 : Int32) (x1 : Int32) (x2 : Int32) (x3 : Int32) (H : ((x1.toInt ≤ x3.toInt → Q (some (.int x2)) h) ∧ (¬ (x1.toInt ≤ x3.toInt) → zQ n 40 4 [some (.int x0), some (.int x1), some (.int (x2 * x0)), some (.int (x3 + Int32.ofInt 1))] [] h Q))) : zQ (n + 1) 40 4 [some (.int x0), some (.int x1), some (.int x2), some (.int x3)] [] h Q := by
  refine zQ_seqL 1 (pc' := 6) (L' := [some (.int x0), some (.int x1), some (.int x2), some (.int x3)]) (S' := [.int x1, .int x3]) (h' := h) zp_40 rfl ?_
  refine zQ_ic zp_40 rfl (t := 19) rfl (i := x3.toInt) (j := x1.toInt) rfl rfl (fun c1 => ?_) (fun c1 => ?_)
  · refine zQ_seq 1 (pc' := 20) (L' := [some (.int x0), some (.int x1), some (.int x2), some (.int x3)]) (S' := [.int x2]) (h' := h) zp_40 rfl ?_
    exact zQ_retI zp_40 rfl (H.1 c1)
  · refine zQ_seq 5 (pc' := 16) (L' := [some (.int x0), some (.int x1), some (.int (x2 * x0)), some (.int (x3 + Int32.ofInt 1))]) (S' := []) (h' := h) zp_40 rfl ?_
    refine zQ_goto zp_40 rfl (t := 4) rfl ?_
    exact (H.2 c1)
theorem s_41 {h : zH} {Q : Option Value → zH → Prop} (a0 : Int32) (a1 : Int32) (a2 : Int32) (H : (∀ n, zQ n 41 8 [some (.int a0), some (.int a1), some (.int a2), some (.int (Int32.ofInt 0)), some (.int (Int32.ofInt 1)), some (.int (Int32.ofInt 0))] [] h Q)) : zqm 41 [.int a0, .int a1, .int a2] h Q := by
  refine zqm_of zp_41 (fun n => ?_)
  have H := H n
  show zQ n 41 0 [some (.int a0), some (.int a1), some (.int a2), none, none, none] [] h Q
  refine zQ_seq 6 (pc' := 8) (L' := [some (.int a0), some (.int a1), some (.int a2), some (.int (Int32.ofInt 0)), some (.int (Int32.ofInt 1)), some (.int (Int32.ofInt 0))]) (S' := []) (h' := h) zp_41 rfl ?_
  exact H
theorem s_41_8 {n : Nat} {h : zH} {Q : Option Value → zH → Prop} (x0 : Int32) (x1 : Int32) (x2 : Int32) (x3 : Int32) (x4 : Int32) (x5 : Int32) (H : ((x2.toInt < x5.toInt → Q (some (.int x3)) h) ∧ (¬ (x2.toInt < x5.toInt) → ((¬ (x5 - x5 / (Int32.ofInt 4) * (Int32.ofInt 4)).toInt = x0.toInt → (¬ (x5 + (Int32.ofInt 1)) = 0 → zQ n 41 8 [some (.int x0), some (.int x1), some (.int x2), some (.int x3), some (.int ((x4 * (x2 - x5)) / (x5 + (Int32.ofInt 1)))), some (.int (x5 + Int32.ofInt 1))] [] h Q)) ∧ (¬ (¬ (x5 - x5 / (Int32.ofInt 4) * (Int32.ofInt 4)).toInt = x0.toInt) → zqm 40 [.int x1, .int x5] h (fun rv h4 => zri rv (fun v4 => zqm 40 [.int ((Int32.ofInt 10) - x1), .int (x2 - x5)] h4 (fun rv h5 => zri rv (fun v5 => (¬ (x5 + (Int32.ofInt 1)) = 0 → zQ n 41 8 [some (.int x0), some (.int x1), some (.int x2), some (.int (x3 + ((x4 * v4) * v5))), some (.int ((x4 * (x2 - x5)) / (x5 + (Int32.ofInt 1)))), some (.int (x5 + Int32.ofInt 1))] [] h5 Q)))))))))) : zQ (n + 1) 41 8 [some (.int x0), some (.int x1), some (.int x2), some (.int x3), some (.int x4), some (.int x5)] [] h Q := by
  refine zQ_seqL 1 (pc' := 11) (L' := [some (.int x0), some (.int x1), some (.int x2), some (.int x3), some (.int x4), some (.int x5)]) (S' := [.int x2, .int x5]) (h' := h) zp_41 rfl ?_
  refine zQ_ic zp_41 rfl (t := 66) rfl (i := x5.toInt) (j := x2.toInt) rfl rfl (fun c1 => ?_) (fun c1 => ?_)
  · refine zQ_seq 1 (pc' := 67) (L' := [some (.int x0), some (.int x1), some (.int x2), some (.int x3), some (.int x4), some (.int x5)]) (S' := [.int x3]) (h' := h) zp_41 rfl ?_
    exact zQ_retI zp_41 rfl (H.1 c1)
  · refine zQ_seq 2 (pc' := 17) (L' := [some (.int x0), some (.int x1), some (.int x2), some (.int x3), some (.int x4), some (.int x5)]) (S' := [.int (Int32.ofInt 4), .int x5]) (h' := h) zp_41 rfl ?_
    refine zQ_rem zp_41 rfl (fun _ => ?_)
    refine zQ_seq 1 (pc' := 19) (L' := [some (.int x0), some (.int x1), some (.int x2), some (.int x3), some (.int x4), some (.int x5)]) (S' := [.int x0, .int (x5 - x5 / (Int32.ofInt 4) * (Int32.ofInt 4))]) (h' := h) zp_41 rfl ?_
    refine zQ_ic zp_41 rfl (t := 46) rfl (i := (x5 - x5 / (Int32.ofInt 4) * (Int32.ofInt 4)).toInt) (j := x0.toInt) rfl rfl (fun c2 => ?_) (fun c2 => ?_)
    · refine zQ_seq 8 (pc' := 57) (L' := [some (.int x0), some (.int x1), some (.int x2), some (.int x3), some (.int x4), some (.int x5)]) (S' := [.int (x5 + (Int32.ofInt 1)), .int (x4 * (x2 - x5))]) (h' := h) zp_41 rfl ?_
      refine zQ_div zp_41 rfl (fun b3 => ?_)
      refine zQ_seq 2 (pc' := 63) (L' := [some (.int x0), some (.int x1), some (.int x2), some (.int x3), some (.int ((x4 * (x2 - x5)) / (x5 + (Int32.ofInt 1)))), some (.int (x5 + Int32.ofInt 1))]) (S' := []) (h' := h) zp_41 rfl ?_
      refine zQ_goto zp_41 rfl (t := 8) rfl ?_
      exact (((H.2 c1).1 c2) b3)
    · refine zQ_seq 4 (pc' := 28) (L' := [some (.int x0), some (.int x1), some (.int x2), some (.int x3), some (.int x4), some (.int x5)]) (S' := [.int x5, .int x1, .int x4, .int x3]) (h' := h) zp_41 rfl ?_
      refine zQ_csI (M' := 40) (as := [.int x1, .int x5]) (S' := [.int x4, .int x3]) zp_41 rfl rfl rfl zp_40 (Or.inl rfl) rfl rfl (zqm_imp ((H.2 c1).2 c2) (fun rv h4 r4 => zri_imp r4 (fun v4 r4' => ?_)))
      refine zQ_seq 7 (pc' := 40) (L' := [some (.int x0), some (.int x1), some (.int x2), some (.int x3), some (.int x4), some (.int x5)]) (S' := [.int (x2 - x5), .int ((Int32.ofInt 10) - x1), .int (x4 * v4), .int x3]) (h' := h4) zp_41 rfl ?_
      refine zQ_csI (M' := 40) (as := [.int ((Int32.ofInt 10) - x1), .int (x2 - x5)]) (S' := [.int (x4 * v4), .int x3]) zp_41 rfl rfl rfl zp_40 (Or.inl rfl) rfl rfl (zqm_imp r4' (fun rv h5 r5 => zri_imp r5 (fun v5 r5' => ?_)))
      refine zQ_seq 11 (pc' := 57) (L' := [some (.int x0), some (.int x1), some (.int x2), some (.int (x3 + ((x4 * v4) * v5))), some (.int x4), some (.int x5)]) (S' := [.int (x5 + (Int32.ofInt 1)), .int (x4 * (x2 - x5))]) (h' := h5) zp_41 rfl ?_
      refine zQ_div zp_41 rfl (fun b6 => ?_)
      refine zQ_seq 2 (pc' := 63) (L' := [some (.int x0), some (.int x1), some (.int x2), some (.int (x3 + ((x4 * v4) * v5))), some (.int ((x4 * (x2 - x5)) / (x5 + (Int32.ofInt 1)))), some (.int (x5 + Int32.ofInt 1))]) (S' := []) (h' := h5) zp_41 rfl ?_
      refine zQ_goto zp_41 rfl (t := 8) rfl ?_
      exact (r5' b6)
theorem s_42 {h : zH} {Q : Option Value → zH → Prop} (a0 : Int32) (a1 : Int32) (a2 : Int32) (a3 : Int32) (a4 : Int32) (H : zqm 221 [.int a0, .int a1] h (fun rv h1 => zri rv (fun v1 => zqm 221 [.int a2, .int a3] h1 (fun rv h2 => zri rv (fun v2 => zqm 220 [.int v1, .int v2] h2 (fun rv h3 => zri rv (fun v3 => zqm 220 [.int a0, .int a2] h3 (fun rv h4 => zri rv (fun v4 => zqm 220 [.int a1, .int a3] h4 (fun rv h5 => zri rv (fun v5 => zqm 221 [.int v4, .int v5] h5 (fun rv h6 => zri rv (fun v6 => ((v3.toInt = v6.toInt → zqm 38 [.int v3, .int (Int32.ofInt 1), .int a4] h6 (fun rv h8 => zri rv (fun v8 => Q (some (.int v8)) h8))) ∧ (¬ (v3.toInt = v6.toInt) → ((¬ (((a0 + a3) - a1) - a2).toInt = 0 → ((0 ≤ (((a0 + a3) - a1) - a2).toInt → zqm 38 [.int ((a0 * a3) - (a1 * a2)), .int (((a0 + a3) - a1) - a2), .int a4] h6 (fun rv h11 => zri rv (fun v11 => Q (some (.int v11)) h11))) ∧ (¬ (0 ≤ (((a0 + a3) - a1) - a2).toInt) → zqm 38 [.int (-((a0 * a3) - (a1 * a2))), .int (-(((a0 + a3) - a1) - a2)), .int a4] h6 (fun rv h12 => zri rv (fun v12 => Q (some (.int v12)) h12))))) ∧ (¬ (¬ (((a0 + a3) - a1) - a2).toInt = 0) → zqm 38 [.int v3, .int (Int32.ofInt 1), .int a4] h6 (fun rv h13 => zri rv (fun v13 => Q (some (.int v13)) h13))))))))))))))))))) : zqm 42 [.int a0, .int a1, .int a2, .int a3, .int a4] h Q := by
  refine zqm_of zp_42 (fun n => ?_)
  show zQ n 42 0 [some (.int a0), some (.int a1), some (.int a2), some (.int a3), some (.int a4), none, none, none, none] [] h Q
  refine zQ_seq 2 (pc' := 2) (L' := [some (.int a0), some (.int a1), some (.int a2), some (.int a3), some (.int a4), none, none, none, none]) (S' := [.int a1, .int a0]) (h' := h) zp_42 rfl ?_
  refine zQ_csI (M' := 221) (as := [.int a0, .int a1]) (S' := []) zp_42 rfl rfl rfl zp_221 (Or.inl rfl) rfl rfl (zqm_imp H (fun rv h1 r1 => zri_imp r1 (fun v1 r1' => ?_)))
  refine zQ_seq 2 (pc' := 7) (L' := [some (.int a0), some (.int a1), some (.int a2), some (.int a3), some (.int a4), none, none, none, none]) (S' := [.int a3, .int a2, .int v1]) (h' := h1) zp_42 rfl ?_
  refine zQ_csI (M' := 221) (as := [.int a2, .int a3]) (S' := [.int v1]) zp_42 rfl rfl rfl zp_221 (Or.inl rfl) rfl rfl (zqm_imp r1' (fun rv h2 r2 => zri_imp r2 (fun v2 r2' => ?_)))
  refine zQ_csI (M' := 220) (as := [.int v1, .int v2]) (S' := []) zp_42 rfl rfl rfl zp_220 (Or.inl rfl) rfl rfl (zqm_imp r2' (fun rv h3 r3 => zri_imp r3 (fun v3 r3' => ?_)))
  refine zQ_seq 3 (pc' := 17) (L' := [some (.int a0), some (.int a1), some (.int a2), some (.int a3), some (.int a4), some (.int v3), none, none, none]) (S' := [.int a2, .int a0]) (h' := h3) zp_42 rfl ?_
  refine zQ_csI (M' := 220) (as := [.int a0, .int a2]) (S' := []) zp_42 rfl rfl rfl zp_220 (Or.inl rfl) rfl rfl (zqm_imp r3' (fun rv h4 r4 => zri_imp r4 (fun v4 r4' => ?_)))
  refine zQ_seq 2 (pc' := 22) (L' := [some (.int a0), some (.int a1), some (.int a2), some (.int a3), some (.int a4), some (.int v3), none, none, none]) (S' := [.int a3, .int a1, .int v4]) (h' := h4) zp_42 rfl ?_
  refine zQ_csI (M' := 220) (as := [.int a1, .int a3]) (S' := [.int v4]) zp_42 rfl rfl rfl zp_220 (Or.inl rfl) rfl rfl (zqm_imp r4' (fun rv h5 r5 => zri_imp r5 (fun v5 r5' => ?_)))
  refine zQ_csI (M' := 221) (as := [.int v4, .int v5]) (S' := []) zp_42 rfl rfl rfl zp_221 (Or.inl rfl) rfl rfl (zqm_imp r5' (fun rv h6 r6 => zri_imp r6 (fun v6 r6' => ?_)))
  refine zQ_seq 11 (pc' := 43) (L' := [some (.int a0), some (.int a1), some (.int a2), some (.int a3), some (.int a4), some (.int v3), some (.int v6), some (.int (((a0 + a3) - a1) - a2)), none]) (S' := [.int v6, .int v3]) (h' := h6) zp_42 rfl ?_
  refine zQ_ic zp_42 rfl (t := 51) rfl (i := v3.toInt) (j := v6.toInt) rfl rfl (fun c7 => ?_) (fun c7 => ?_)
  · refine zQ_seq 3 (pc' := 56) (L' := [some (.int a0), some (.int a1), some (.int a2), some (.int a3), some (.int a4), some (.int v3), some (.int v6), some (.int (((a0 + a3) - a1) - a2)), none]) (S' := [.int a4, .int (Int32.ofInt 1), .int v3]) (h' := h6) zp_42 rfl ?_
    refine zQ_csI (M' := 38) (as := [.int v3, .int (Int32.ofInt 1), .int a4]) (S' := []) zp_42 rfl rfl rfl zp_38 (Or.inl rfl) rfl rfl (zqm_imp (r6'.1 c7) (fun rv h8 r8 => zri_imp r8 (fun v8 r8' => ?_)))
    exact zQ_retI zp_42 rfl r8'
  · refine zQ_seq 1 (pc' := 48) (L' := [some (.int a0), some (.int a1), some (.int a2), some (.int a3), some (.int a4), some (.int v3), some (.int v6), some (.int (((a0 + a3) - a1) - a2)), none]) (S' := [.int (((a0 + a3) - a1) - a2)]) (h' := h6) zp_42 rfl ?_
    refine zQ_if zp_42 rfl (t := 60) rfl (i := (((a0 + a3) - a1) - a2).toInt) rfl (fun c9 => ?_) (fun c9 => ?_)
    · refine zQ_seq 9 (pc' := 71) (L' := [some (.int a0), some (.int a1), some (.int a2), some (.int a3), some (.int a4), some (.int v3), some (.int v6), some (.int (((a0 + a3) - a1) - a2)), some (.int ((a0 * a3) - (a1 * a2)))]) (S' := [.int (((a0 + a3) - a1) - a2)]) (h' := h6) zp_42 rfl ?_
      refine zQ_if zp_42 rfl (t := 88) rfl (i := (((a0 + a3) - a1) - a2).toInt) rfl (fun c10 => ?_) (fun c10 => ?_)
      · refine zQ_seq 3 (pc' := 94) (L' := [some (.int a0), some (.int a1), some (.int a2), some (.int a3), some (.int a4), some (.int v3), some (.int v6), some (.int (((a0 + a3) - a1) - a2)), some (.int ((a0 * a3) - (a1 * a2)))]) (S' := [.int a4, .int (((a0 + a3) - a1) - a2), .int ((a0 * a3) - (a1 * a2))]) (h' := h6) zp_42 rfl ?_
        refine zQ_csI (M' := 38) (as := [.int ((a0 * a3) - (a1 * a2)), .int (((a0 + a3) - a1) - a2), .int a4]) (S' := []) zp_42 rfl rfl rfl zp_38 (Or.inl rfl) rfl rfl (zqm_imp (((r6'.2 c7).1 c9).1 c10) (fun rv h11 r11 => zri_imp r11 (fun v11 r11' => ?_)))
        exact zQ_retI zp_42 rfl r11'
      · refine zQ_seq 5 (pc' := 82) (L' := [some (.int a0), some (.int a1), some (.int a2), some (.int a3), some (.int a4), some (.int v3), some (.int v6), some (.int (((a0 + a3) - a1) - a2)), some (.int ((a0 * a3) - (a1 * a2)))]) (S' := [.int a4, .int (-(((a0 + a3) - a1) - a2)), .int (-((a0 * a3) - (a1 * a2)))]) (h' := h6) zp_42 rfl ?_
        refine zQ_csI (M' := 38) (as := [.int (-((a0 * a3) - (a1 * a2))), .int (-(((a0 + a3) - a1) - a2)), .int a4]) (S' := []) zp_42 rfl rfl rfl zp_38 (Or.inl rfl) rfl rfl (zqm_imp (((r6'.2 c7).1 c9).2 c10) (fun rv h12 r12 => zri_imp r12 (fun v12 r12' => ?_)))
        refine zQ_goto zp_42 rfl (t := 97) rfl ?_
        exact zQ_retI zp_42 rfl r12'
    · refine zQ_seq 3 (pc' := 56) (L' := [some (.int a0), some (.int a1), some (.int a2), some (.int a3), some (.int a4), some (.int v3), some (.int v6), some (.int (((a0 + a3) - a1) - a2)), none]) (S' := [.int a4, .int (Int32.ofInt 1), .int v3]) (h' := h6) zp_42 rfl ?_
      refine zQ_csI (M' := 38) (as := [.int v3, .int (Int32.ofInt 1), .int a4]) (S' := []) zp_42 rfl rfl rfl zp_38 (Or.inl rfl) rfl rfl (zqm_imp ((r6'.2 c7).2 c9) (fun rv h13 r13 => zri_imp r13 (fun v13 r13' => ?_)))
      exact zQ_retI zp_42 rfl r13'
theorem s_43 {h : zH} {Q : Option Value → zH → Prop} (a2 : Int32) (H : ((a2.toInt = 0 → zqm 47 [.ref 15, .int (h.1 15 4), .int (h.1 15 8)] (zSet (zSet h 54 2 (-1000000 : Int32)) 54 1 (-1000000 : Int32)) (fun rv h2 => zri rv (fun v2 => ((v2.toInt = 0 → zqm 45 [.ref 15, .int (h2.1 15 4), .int (h.1 15 8)] h2 (fun rv h4 => zri rv (fun v4 => ((¬ v4.toInt = (-1000000 : Int) → Q none (zSet (zSet h4 54 1 v4) 54 0 (Int32.ofInt 1))) ∧ (¬ (¬ v4.toInt = (-1000000 : Int)) → zqm 44 [.ref 54, .ref 15, .int (h.1 15 8)] (zSet (zSet h4 54 1 v4) 54 0 (Int32.ofInt 1)) (fun _ h6 => Q none h6)))))) ∧ (¬ (v2.toInt = 0) → Q none (zSet h2 54 0 (Int32.ofInt 0))))))) ∧ (¬ (a2.toInt = 0) → zqm 47 [.ref 15, .int (h.1 15 4), .int (Int32.ofInt 32767)] (zSet (zSet h 54 2 (-1000000 : Int32)) 54 1 (-1000000 : Int32)) (fun rv h7 => zri rv (fun v7 => ((v7.toInt = 0 → zqm 45 [.ref 15, .int (h7.1 15 4), .int (Int32.ofInt 32767)] h7 (fun rv h9 => zri rv (fun v9 => ((¬ v9.toInt = (-1000000 : Int) → Q none (zSet (zSet h9 54 1 v9) 54 0 (Int32.ofInt 1))) ∧ (¬ (¬ v9.toInt = (-1000000 : Int)) → zqm 44 [.ref 54, .ref 15, .int (Int32.ofInt 32767)] (zSet (zSet h9 54 1 v9) 54 0 (Int32.ofInt 1)) (fun _ h11 => Q none h11)))))) ∧ (¬ (v7.toInt = 0) → Q none (zSet h7 54 0 (Int32.ofInt 0))))))))) : zqm 43 [.ref 54, .ref 15, .int a2] h Q := by
  refine zqm_of zp_43 (fun n => ?_)
  show zQ n 43 0 [some (.ref 54), some (.ref 15), some (.int a2), none] [] h Q
  refine zQ_seq 1 (pc' := 1) (L' := [some (.ref 54), some (.ref 15), some (.int a2), none]) (S' := [.int a2]) (h' := h) zp_43 rfl ?_
  refine zQ_if zp_43 rfl (t := 10) rfl (i := a2.toInt) rfl (fun c1 => ?_) (fun c1 => ?_)
  · refine zQ_seq 13 (pc' := 33) (L' := [some (.ref 54), some (.ref 15), some (.int a2), some (.int (h.1 15 8))]) (S' := [.int (h.1 15 8), .int (h.1 15 4), .ref 15]) (h' := (zSet (zSet h 54 2 (-1000000 : Int32)) 54 1 (-1000000 : Int32))) zp_43 rfl ?_
    refine zQ_csI (M' := 47) (as := [.ref 15, .int (h.1 15 4), .int (h.1 15 8)]) (S' := []) zp_43 rfl rfl rfl zp_47 (Or.inr rfl) rfl rfl (zqm_imp (H.1 c1) (fun rv h2 r2 => zri_imp r2 (fun v2 r2' => ?_)))
    refine zQ_if zp_43 rfl (t := 45) rfl (i := v2.toInt) rfl (fun c3 => ?_) (fun c3 => ?_)
    · refine zQ_seq 5 (pc' := 52) (L' := [some (.ref 54), some (.ref 15), some (.int a2), some (.int (h.1 15 8))]) (S' := [.int (h.1 15 8), .int (h2.1 15 4), .ref 15, .ref 54]) (h' := h2) zp_43 rfl ?_
      refine zQ_csI (M' := 45) (as := [.ref 15, .int (h2.1 15 4), .int (h.1 15 8)]) (S' := [.ref 54]) zp_43 rfl rfl rfl zp_45 (Or.inl rfl) rfl rfl (zqm_imp (r2'.1 c3) (fun rv h4 r4 => zri_imp r4 (fun v4 r4' => ?_)))
      refine zQ_seq 7 (pc' := 69) (L' := [some (.ref 54), some (.ref 15), some (.int a2), some (.int (h.1 15 8))]) (S' := [.int (-1000000 : Int32), .int v4]) (h' := (zSet (zSet h4 54 1 v4) 54 0 (Int32.ofInt 1))) zp_43 rfl ?_
      refine zQ_ic zp_43 rfl (t := 78) rfl (i := v4.toInt) (j := (-1000000 : Int)) rfl kdm1000000 (fun c5 => ?_) (fun c5 => ?_)
      · exact zQ_retV zp_43 rfl (r4'.1 c5)
      · refine zQ_seq 3 (pc' := 75) (L' := [some (.ref 54), some (.ref 15), some (.int a2), some (.int (h.1 15 8))]) (S' := [.int (h.1 15 8), .ref 15, .ref 54]) (h' := (zSet (zSet h4 54 1 v4) 54 0 (Int32.ofInt 1))) zp_43 rfl ?_
        refine zQ_cvV (M' := 44) (as := [.ref 54, .ref 15, .int (h.1 15 8)]) (S' := []) zp_43 rfl rfl zp_44 rfl rfl rfl (zqm_imp (r4'.2 c5) (fun rv h6 r6 => ?_))
        exact zQ_retV zp_43 rfl r6
    · refine zQ_seq 3 (pc' := 44) (L' := [some (.ref 54), some (.ref 15), some (.int a2), some (.int (h.1 15 8))]) (S' := []) (h' := (zSet h2 54 0 (Int32.ofInt 0))) zp_43 rfl ?_
      exact zQ_retV zp_43 rfl (r2'.2 c3)
  · refine zQ_seq 1 (pc' := 7) (L' := [some (.ref 54), some (.ref 15), some (.int a2), none]) (S' := [.int (Int32.ofInt 32767)]) (h' := h) zp_43 rfl ?_
    refine zQ_goto zp_43 rfl (t := 14) rfl ?_
    refine zQ_seq 11 (pc' := 33) (L' := [some (.ref 54), some (.ref 15), some (.int a2), some (.int (Int32.ofInt 32767))]) (S' := [.int (Int32.ofInt 32767), .int (h.1 15 4), .ref 15]) (h' := (zSet (zSet h 54 2 (-1000000 : Int32)) 54 1 (-1000000 : Int32))) zp_43 rfl ?_
    refine zQ_csI (M' := 47) (as := [.ref 15, .int (h.1 15 4), .int (Int32.ofInt 32767)]) (S' := []) zp_43 rfl rfl rfl zp_47 (Or.inr rfl) rfl rfl (zqm_imp (H.2 c1) (fun rv h7 r7 => zri_imp r7 (fun v7 r7' => ?_)))
    refine zQ_if zp_43 rfl (t := 45) rfl (i := v7.toInt) rfl (fun c8 => ?_) (fun c8 => ?_)
    · refine zQ_seq 5 (pc' := 52) (L' := [some (.ref 54), some (.ref 15), some (.int a2), some (.int (Int32.ofInt 32767))]) (S' := [.int (Int32.ofInt 32767), .int (h7.1 15 4), .ref 15, .ref 54]) (h' := h7) zp_43 rfl ?_
      refine zQ_csI (M' := 45) (as := [.ref 15, .int (h7.1 15 4), .int (Int32.ofInt 32767)]) (S' := [.ref 54]) zp_43 rfl rfl rfl zp_45 (Or.inl rfl) rfl rfl (zqm_imp (r7'.1 c8) (fun rv h9 r9 => zri_imp r9 (fun v9 r9' => ?_)))
      refine zQ_seq 7 (pc' := 69) (L' := [some (.ref 54), some (.ref 15), some (.int a2), some (.int (Int32.ofInt 32767))]) (S' := [.int (-1000000 : Int32), .int v9]) (h' := (zSet (zSet h9 54 1 v9) 54 0 (Int32.ofInt 1))) zp_43 rfl ?_
      refine zQ_ic zp_43 rfl (t := 78) rfl (i := v9.toInt) (j := (-1000000 : Int)) rfl kdm1000000 (fun c10 => ?_) (fun c10 => ?_)
      · exact zQ_retV zp_43 rfl (r9'.1 c10)
      · refine zQ_seq 3 (pc' := 75) (L' := [some (.ref 54), some (.ref 15), some (.int a2), some (.int (Int32.ofInt 32767))]) (S' := [.int (Int32.ofInt 32767), .ref 15, .ref 54]) (h' := (zSet (zSet h9 54 1 v9) 54 0 (Int32.ofInt 1))) zp_43 rfl ?_
        refine zQ_cvV (M' := 44) (as := [.ref 54, .ref 15, .int (Int32.ofInt 32767)]) (S' := []) zp_43 rfl rfl zp_44 rfl rfl rfl (zqm_imp (r9'.2 c10) (fun rv h11 r11 => ?_))
        exact zQ_retV zp_43 rfl r11
    · refine zQ_seq 3 (pc' := 44) (L' := [some (.ref 54), some (.ref 15), some (.int a2), some (.int (Int32.ofInt 32767))]) (S' := []) (h' := (zSet h7 54 0 (Int32.ofInt 0))) zp_43 rfl ?_
      exact zQ_retV zp_43 rfl (r7'.2 c8)
theorem s_44 {h : zH} {Q : Option Value → zH → Prop} (a2 : Int32) (H : (∀ n, zQ n 44 8 [some (.ref 54), some (.ref 15), some (.int a2), some (.int (Int32.ofInt 0))] [] (zSet h 54 0 (-1000000 : Int32)) Q)) : zqm 44 [.ref 54, .ref 15, .int a2] h Q := by
  refine zqm_of zp_44 (fun n => ?_)
  have H := H n
  show zQ n 44 0 [some (.ref 54), some (.ref 15), some (.int a2), none] [] h Q
  refine zQ_seq 5 (pc' := 8) (L' := [some (.ref 54), some (.ref 15), some (.int a2), some (.int (Int32.ofInt 0))]) (S' := []) (h' := (zSet h 54 0 (-1000000 : Int32))) zp_44 rfl ?_
  exact H
theorem s_44_8 {n : Nat} {h : zH} {Q : Option Value → zH → Prop} (x2 : Int32) (x3 : Int32) (H : (((60 : Int) ≤ x3.toInt → Q none h) ∧ (¬ ((60 : Int) ≤ x3.toInt) → ((¬ (h.1 54 0).toInt = (-1000000 : Int) → Q none h) ∧ (¬ (¬ (h.1 54 0).toInt = (-1000000 : Int)) → zqm 46 [.int (h.1 15 4), .int x3] h (fun rv h3 => zri rv (fun v3 => ((v3.toInt = 0 → zQ n 44 8 [some (.ref 54), some (.ref 15), some (.int x2), some (.int (x3 + Int32.ofInt 1))] [] h3 Q) ∧ (¬ (v3.toInt = 0) → zqm 27 [.ref 15, .int (h3.1 15 4), .int x3] h3 (fun rv h5 => zri rv (fun v5 => zqm 45 [.ref 15, .int v5, .int x2] h5 (fun rv h6 => zri rv (fun v6 => ((¬ v6.toInt = (-1000000 : Int) → ((¬ v6.toInt = (-1000000 : Int) → zQ n 44 8 [some (.ref 54), some (.ref 15), some (.int x2), some (.int (x3 + Int32.ofInt 1))] [] (zSet (zSet (zSet h6 54 2 v6) 54 1 x3) 54 0 (Int32.ofInt 2)) Q) ∧ (¬ (¬ v6.toInt = (-1000000 : Int)) → zQ n 44 8 [some (.ref 54), some (.ref 15), some (.int x2), some (.int (x3 + Int32.ofInt 1))] [] (zSet (zSet (zSet h6 54 2 v6) 54 1 x3) 54 0 (-1000000 : Int32)) Q))) ∧ (¬ (¬ v6.toInt = (-1000000 : Int)) → ((¬ v6.toInt = (-1000000 : Int) → zQ n 44 8 [some (.ref 54), some (.ref 15), some (.int x2), some (.int (x3 + Int32.ofInt 1))] [] (zSet (zSet (zSet h6 54 2 v6) 54 1 (-1000000 : Int32)) 54 0 (Int32.ofInt 2)) Q) ∧ (¬ (¬ v6.toInt = (-1000000 : Int)) → zQ n 44 8 [some (.ref 54), some (.ref 15), some (.int x2), some (.int (x3 + Int32.ofInt 1))] [] (zSet (zSet (zSet h6 54 2 v6) 54 1 (-1000000 : Int32)) 54 0 (-1000000 : Int32)) Q))))))))))))))))) : zQ (n + 1) 44 8 [some (.ref 54), some (.ref 15), some (.int x2), some (.int x3)] [] h Q := by
  refine zQ_seqL 1 (pc' := 11) (L' := [some (.ref 54), some (.ref 15), some (.int x2), some (.int x3)]) (S' := [.int (Int32.ofInt 60), .int x3]) (h' := h) zp_44 rfl ?_
  refine zQ_ic zp_44 rfl (t := 96) rfl (i := x3.toInt) (j := (60 : Int)) rfl kc_60 (fun c1 => ?_) (fun c1 => ?_)
  · exact zQ_retV zp_44 rfl (H.1 c1)
  · refine zQ_seq 3 (pc' := 20) (L' := [some (.ref 54), some (.ref 15), some (.int x2), some (.int x3)]) (S' := [.int (-1000000 : Int32), .int (h.1 54 0)]) (h' := h) zp_44 rfl ?_
    refine zQ_ic zp_44 rfl (t := 96) rfl (i := (h.1 54 0).toInt) (j := (-1000000 : Int)) rfl kdm1000000 (fun c2 => ?_) (fun c2 => ?_)
    · exact zQ_retV zp_44 rfl ((H.2 c1).1 c2)
    · refine zQ_seq 3 (pc' := 28) (L' := [some (.ref 54), some (.ref 15), some (.int x2), some (.int x3)]) (S' := [.int x3, .int (h.1 15 4)]) (h' := h) zp_44 rfl ?_
      refine zQ_csI (M' := 46) (as := [.int (h.1 15 4), .int x3]) (S' := []) zp_44 rfl rfl rfl zp_46 (Or.inr rfl) rfl rfl (zqm_imp ((H.2 c1).2 c2) (fun rv h3 r3 => zri_imp r3 (fun v3 r3' => ?_)))
      refine zQ_if zp_44 rfl (t := 90) rfl (i := v3.toInt) rfl (fun c4 => ?_) (fun c4 => ?_)
      · refine zQ_seq 1 (pc' := 93) (L' := [some (.ref 54), some (.ref 15), some (.int x2), some (.int (x3 + Int32.ofInt 1))]) (S' := []) (h' := h3) zp_44 rfl ?_
        refine zQ_goto zp_44 rfl (t := 8) rfl ?_
        exact (r3'.1 c4)
      · refine zQ_seq 6 (pc' := 42) (L' := [some (.ref 54), some (.ref 15), some (.int x2), some (.int x3)]) (S' := [.int x3, .int (h3.1 15 4), .ref 15, .ref 15, .ref 54]) (h' := h3) zp_44 rfl ?_
        refine zQ_cvI (M' := 27) (as := [.ref 15, .int (h3.1 15 4), .int x3]) (S' := [.ref 15, .ref 54]) zp_44 rfl rfl zp_27 (Or.inl rfl) rfl rfl (zqm_imp (r3'.2 c4) (fun rv h5 r5 => zri_imp r5 (fun v5 r5' => ?_)))
        refine zQ_seq 1 (pc' := 46) (L' := [some (.ref 54), some (.ref 15), some (.int x2), some (.int x3)]) (S' := [.int x2, .int v5, .ref 15, .ref 54]) (h' := h5) zp_44 rfl ?_
        refine zQ_csI (M' := 45) (as := [.ref 15, .int v5, .int x2]) (S' := [.ref 54]) zp_44 rfl rfl rfl zp_45 (Or.inl rfl) rfl rfl (zqm_imp r5' (fun rv h6 r6 => zri_imp r6 (fun v6 r6' => ?_)))
        refine zQ_seq 5 (pc' := 59) (L' := [some (.ref 54), some (.ref 15), some (.int x2), some (.int x3)]) (S' := [.int (-1000000 : Int32), .int v6, .ref 54]) (h' := (zSet h6 54 2 v6)) zp_44 rfl ?_
        refine zQ_ic zp_44 rfl (t := 67) rfl (i := v6.toInt) (j := (-1000000 : Int)) rfl kdm1000000 (fun c7 => ?_) (fun c7 => ?_)
        · refine zQ_seq 6 (pc' := 78) (L' := [some (.ref 54), some (.ref 15), some (.int x2), some (.int x3)]) (S' := [.int (-1000000 : Int32), .int v6, .ref 54]) (h' := (zSet (zSet h6 54 2 v6) 54 1 x3)) zp_44 rfl ?_
          refine zQ_ic zp_44 rfl (t := 86) rfl (i := v6.toInt) (j := (-1000000 : Int)) rfl kdm1000000 (fun c8 => ?_) (fun c8 => ?_)
          · refine zQ_seq 3 (pc' := 93) (L' := [some (.ref 54), some (.ref 15), some (.int x2), some (.int (x3 + Int32.ofInt 1))]) (S' := []) (h' := (zSet (zSet (zSet h6 54 2 v6) 54 1 x3) 54 0 (Int32.ofInt 2))) zp_44 rfl ?_
            refine zQ_goto zp_44 rfl (t := 8) rfl ?_
            exact ((r6'.1 c7).1 c8)
          · refine zQ_seq 1 (pc' := 83) (L' := [some (.ref 54), some (.ref 15), some (.int x2), some (.int x3)]) (S' := [.int (-1000000 : Int32), .ref 54]) (h' := (zSet (zSet h6 54 2 v6) 54 1 x3)) zp_44 rfl ?_
            refine zQ_goto zp_44 rfl (t := 87) rfl ?_
            refine zQ_seq 2 (pc' := 93) (L' := [some (.ref 54), some (.ref 15), some (.int x2), some (.int (x3 + Int32.ofInt 1))]) (S' := []) (h' := (zSet (zSet (zSet h6 54 2 v6) 54 1 x3) 54 0 (-1000000 : Int32))) zp_44 rfl ?_
            refine zQ_goto zp_44 rfl (t := 8) rfl ?_
            exact ((r6'.1 c7).2 c8)
        · refine zQ_seq 1 (pc' := 64) (L' := [some (.ref 54), some (.ref 15), some (.int x2), some (.int x3)]) (S' := [.int (-1000000 : Int32), .ref 54]) (h' := (zSet h6 54 2 v6)) zp_44 rfl ?_
          refine zQ_goto zp_44 rfl (t := 68) rfl ?_
          refine zQ_seq 5 (pc' := 78) (L' := [some (.ref 54), some (.ref 15), some (.int x2), some (.int x3)]) (S' := [.int (-1000000 : Int32), .int v6, .ref 54]) (h' := (zSet (zSet h6 54 2 v6) 54 1 (-1000000 : Int32))) zp_44 rfl ?_
          refine zQ_ic zp_44 rfl (t := 86) rfl (i := v6.toInt) (j := (-1000000 : Int)) rfl kdm1000000 (fun c9 => ?_) (fun c9 => ?_)
          · refine zQ_seq 3 (pc' := 93) (L' := [some (.ref 54), some (.ref 15), some (.int x2), some (.int (x3 + Int32.ofInt 1))]) (S' := []) (h' := (zSet (zSet (zSet h6 54 2 v6) 54 1 (-1000000 : Int32)) 54 0 (Int32.ofInt 2))) zp_44 rfl ?_
            refine zQ_goto zp_44 rfl (t := 8) rfl ?_
            exact ((r6'.2 c7).1 c9)
          · refine zQ_seq 1 (pc' := 83) (L' := [some (.ref 54), some (.ref 15), some (.int x2), some (.int x3)]) (S' := [.int (-1000000 : Int32), .ref 54]) (h' := (zSet (zSet h6 54 2 v6) 54 1 (-1000000 : Int32))) zp_44 rfl ?_
            refine zQ_goto zp_44 rfl (t := 87) rfl ?_
            refine zQ_seq 2 (pc' := 93) (L' := [some (.ref 54), some (.ref 15), some (.int x2), some (.int (x3 + Int32.ofInt 1))]) (S' := []) (h' := (zSet (zSet (zSet h6 54 2 v6) 54 1 (-1000000 : Int32)) 54 0 (-1000000 : Int32))) zp_44 rfl ?_
            refine zQ_goto zp_44 rfl (t := 8) rfl ?_
            exact ((r6'.2 c7).2 c9)
theorem s_45 {h : zH} {Q : Option Value → zH → Prop} (a1 : Int32) (a2 : Int32) (H : (∀ n, zqm 51 [.int (h.1 15 3), .int a1] h (fun rv h1 => zri rv (fun v1 => zqm 217 [.int (v1 &&& a2)] h1 (fun rv h2 => zri rv (fun v2 => ((v2.toInt ≤ (2 : Int) → zQ n 45 22 [some (.ref 15), some (.int a1), some (.int a2), some (.int (Int32.ofInt 0))] [] h2 Q) ∧ (¬ (v2.toInt ≤ (2 : Int)) → Q (some (.int (-1000000 : Int32))) h2)))))))) : zqm 45 [.ref 15, .int a1, .int a2] h Q := by
  refine zqm_of zp_45 (fun n => ?_)
  have H := H n
  show zQ n 45 0 [some (.ref 15), some (.int a1), some (.int a2), none] [] h Q
  refine zQ_seq 3 (pc' := 5) (L' := [some (.ref 15), some (.int a1), some (.int a2), none]) (S' := [.int a1, .int (h.1 15 3)]) (h' := h) zp_45 rfl ?_
  refine zQ_csI (M' := 51) (as := [.int (h.1 15 3), .int a1]) (S' := []) zp_45 rfl rfl rfl zp_51 (Or.inl rfl) rfl rfl (zqm_imp H (fun rv h1 r1 => zri_imp r1 (fun v1 r1' => ?_)))
  refine zQ_seq 2 (pc' := 10) (L' := [some (.ref 15), some (.int a1), some (.int a2), none]) (S' := [.int (v1 &&& a2)]) (h' := h1) zp_45 rfl ?_
  refine zQ_csI (M' := 217) (as := [.int (v1 &&& a2)]) (S' := []) zp_45 rfl rfl rfl zp_217 (Or.inl rfl) rfl rfl (zqm_imp r1' (fun rv h2 r2 => zri_imp r2 (fun v2 r2' => ?_)))
  refine zQ_seq 1 (pc' := 14) (L' := [some (.ref 15), some (.int a1), some (.int a2), none]) (S' := [.int (Int32.ofInt 2), .int v2]) (h' := h2) zp_45 rfl ?_
  refine zQ_ic zp_45 rfl (t := 20) rfl (i := v2.toInt) (j := (2 : Int)) rfl kc_2 (fun c3 => ?_) (fun c3 => ?_)
  · refine zQ_seq 2 (pc' := 22) (L' := [some (.ref 15), some (.int a1), some (.int a2), some (.int (Int32.ofInt 0))]) (S' := []) (h' := h2) zp_45 rfl ?_
    exact (r2'.1 c3)
  · refine zQ_seq 1 (pc' := 19) (L' := [some (.ref 15), some (.int a1), some (.int a2), none]) (S' := [.int (-1000000 : Int32)]) (h' := h2) zp_45 rfl ?_
    exact zQ_retI zp_45 rfl (r2'.2 c3)
theorem s_45_22 {n : Nat} {h : zH} {Q : Option Value → zH → Prop} (x1 : Int32) (x2 : Int32) (x3 : Int32) (H : (((60 : Int) ≤ x3.toInt → Q (some (.int (-1000000 : Int32))) h) ∧ (¬ ((60 : Int) ≤ x3.toInt) → zqm 46 [.int x1, .int x3] h (fun rv h2 => zri rv (fun v2 => ((v2.toInt = 0 → zQ n 45 22 [some (.ref 15), some (.int x1), some (.int x2), some (.int (x3 + Int32.ofInt 1))] [] h2 Q) ∧ (¬ (v2.toInt = 0) → zqm 27 [.ref 15, .int x1, .int x3] h2 (fun rv h4 => zri rv (fun v4 => zqm 47 [.ref 15, .int v4, .int x2] h4 (fun rv h5 => zri rv (fun v5 => ((v5.toInt = 0 → zQ n 45 22 [some (.ref 15), some (.int x1), some (.int x2), some (.int (x3 + Int32.ofInt 1))] [] h5 Q) ∧ (¬ (v5.toInt = 0) → Q (some (.int x3)) h5))))))))))))) : zQ (n + 1) 45 22 [some (.ref 15), some (.int x1), some (.int x2), some (.int x3)] [] h Q := by
  refine zQ_seqL 1 (pc' := 25) (L' := [some (.ref 15), some (.int x1), some (.int x2), some (.int x3)]) (S' := [.int (Int32.ofInt 60), .int x3]) (h' := h) zp_45 rfl ?_
  refine zQ_ic zp_45 rfl (t := 58) rfl (i := x3.toInt) (j := (60 : Int)) rfl kc_60 (fun c1 => ?_) (fun c1 => ?_)
  · refine zQ_seq 1 (pc' := 60) (L' := [some (.ref 15), some (.int x1), some (.int x2), some (.int x3)]) (S' := [.int (-1000000 : Int32)]) (h' := h) zp_45 rfl ?_
    exact zQ_retI zp_45 rfl (H.1 c1)
  · refine zQ_seq 2 (pc' := 30) (L' := [some (.ref 15), some (.int x1), some (.int x2), some (.int x3)]) (S' := [.int x3, .int x1]) (h' := h) zp_45 rfl ?_
    refine zQ_csI (M' := 46) (as := [.int x1, .int x3]) (S' := []) zp_45 rfl rfl rfl zp_46 (Or.inr rfl) rfl rfl (zqm_imp (H.2 c1) (fun rv h2 r2 => zri_imp r2 (fun v2 r2' => ?_)))
    refine zQ_if zp_45 rfl (t := 52) rfl (i := v2.toInt) rfl (fun c3 => ?_) (fun c3 => ?_)
    · refine zQ_seq 1 (pc' := 55) (L' := [some (.ref 15), some (.int x1), some (.int x2), some (.int (x3 + Int32.ofInt 1))]) (S' := []) (h' := h2) zp_45 rfl ?_
      refine zQ_goto zp_45 rfl (t := 22) rfl ?_
      exact (r2'.1 c3)
    · refine zQ_seq 4 (pc' := 40) (L' := [some (.ref 15), some (.int x1), some (.int x2), some (.int x3)]) (S' := [.int x3, .int x1, .ref 15, .ref 15]) (h' := h2) zp_45 rfl ?_
      refine zQ_cvI (M' := 27) (as := [.ref 15, .int x1, .int x3]) (S' := [.ref 15]) zp_45 rfl rfl zp_27 (Or.inl rfl) rfl rfl (zqm_imp (r2'.2 c3) (fun rv h4 r4 => zri_imp r4 (fun v4 r4' => ?_)))
      refine zQ_seq 1 (pc' := 44) (L' := [some (.ref 15), some (.int x1), some (.int x2), some (.int x3)]) (S' := [.int x2, .int v4, .ref 15]) (h' := h4) zp_45 rfl ?_
      refine zQ_csI (M' := 47) (as := [.ref 15, .int v4, .int x2]) (S' := []) zp_45 rfl rfl rfl zp_47 (Or.inr rfl) rfl rfl (zqm_imp r4' (fun rv h5 r5 => zri_imp r5 (fun v5 r5' => ?_)))
      refine zQ_if zp_45 rfl (t := 52) rfl (i := v5.toInt) rfl (fun c6 => ?_) (fun c6 => ?_)
      · refine zQ_seq 1 (pc' := 55) (L' := [some (.ref 15), some (.int x1), some (.int x2), some (.int (x3 + Int32.ofInt 1))]) (S' := []) (h' := h5) zp_45 rfl ?_
        refine zQ_goto zp_45 rfl (t := 22) rfl ?_
        exact (r5'.1 c6)
      · refine zQ_seq 1 (pc' := 51) (L' := [some (.ref 15), some (.int x1), some (.int x2), some (.int x3)]) (S' := [.int x3]) (h' := h5) zp_45 rfl ?_
        exact zQ_retI zp_45 rfl (r5'.2 c6)
theorem s_46 {h : zH} {Q : Option Value → zH → Prop} (a0 : Int32) (a1 : Int32) (H : zqm 48 [.int a0, .int (a1 / (Int32.ofInt 4))] h (fun rv h1 => zri rv (fun v1 => ((v1.toInt = (a1 - a1 / (Int32.ofInt 4) * (Int32.ofInt 4)).toInt → Q (some (.int (Int32.ofInt 0))) h1) ∧ (¬ (v1.toInt = (a1 - a1 / (Int32.ofInt 4) * (Int32.ofInt 4)).toInt) → Q (some (.int (Int32.ofInt 1))) h1))))) : zqm 46 [.int a0, .int a1] h Q := by
  refine zqm_of zp_46 (fun n => ?_)
  show zQ n 46 0 [some (.int a0), some (.int a1)] [] h Q
  refine zQ_seq 3 (pc' := 3) (L' := [some (.int a0), some (.int a1)]) (S' := [.int (Int32.ofInt 4), .int a1, .int a0]) (h' := h) zp_46 rfl ?_
  refine zQ_div zp_46 rfl (fun _ => ?_)
  refine zQ_csI (M' := 48) (as := [.int a0, .int (a1 / (Int32.ofInt 4))]) (S' := []) zp_46 rfl rfl rfl zp_48 (Or.inl rfl) rfl rfl (zqm_imp H (fun rv h1 r1 => zri_imp r1 (fun v1 r1' => ?_)))
  refine zQ_seq 2 (pc' := 9) (L' := [some (.int a0), some (.int a1)]) (S' := [.int (Int32.ofInt 4), .int a1, .int v1]) (h' := h1) zp_46 rfl ?_
  refine zQ_rem zp_46 rfl (fun _ => ?_)
  refine zQ_ic zp_46 rfl (t := 17) rfl (i := v1.toInt) (j := (a1 - a1 / (Int32.ofInt 4) * (Int32.ofInt 4)).toInt) rfl rfl (fun c2 => ?_) (fun c2 => ?_)
  · refine zQ_seq 1 (pc' := 18) (L' := [some (.int a0), some (.int a1)]) (S' := [.int (Int32.ofInt 0)]) (h' := h1) zp_46 rfl ?_
    exact zQ_retI zp_46 rfl (r1'.1 c2)
  · refine zQ_seq 1 (pc' := 14) (L' := [some (.int a0), some (.int a1)]) (S' := [.int (Int32.ofInt 1)]) (h' := h1) zp_46 rfl ?_
    refine zQ_goto zp_46 rfl (t := 18) rfl ?_
    exact zQ_retI zp_46 rfl (r1'.2 c2)
theorem s_47 {h : zH} {Q : Option Value → zH → Prop} (a1 : Int32) (a2 : Int32) (H : zqm 51 [.int (h.1 15 3), .int a1] h (fun rv h1 => zri rv (fun v1 => ((¬ (v1 &&& a2).toInt = 0 → Q (some (.int (Int32.ofInt 0))) h1) ∧ (¬ (¬ (v1 &&& a2).toInt = 0) → Q (some (.int (Int32.ofInt 1))) h1))))) : zqm 47 [.ref 15, .int a1, .int a2] h Q := by
  refine zqm_of zp_47 (fun n => ?_)
  show zQ n 47 0 [some (.ref 15), some (.int a1), some (.int a2)] [] h Q
  refine zQ_seq 3 (pc' := 5) (L' := [some (.ref 15), some (.int a1), some (.int a2)]) (S' := [.int a1, .int (h.1 15 3)]) (h' := h) zp_47 rfl ?_
  refine zQ_csI (M' := 51) (as := [.int (h.1 15 3), .int a1]) (S' := []) zp_47 rfl rfl rfl zp_51 (Or.inl rfl) rfl rfl (zqm_imp H (fun rv h1 r1 => zri_imp r1 (fun v1 r1' => ?_)))
  refine zQ_seq 2 (pc' := 10) (L' := [some (.ref 15), some (.int a1), some (.int a2)]) (S' := [.int (v1 &&& a2)]) (h' := h1) zp_47 rfl ?_
  refine zQ_if zp_47 rfl (t := 17) rfl (i := (v1 &&& a2).toInt) rfl (fun c2 => ?_) (fun c2 => ?_)
  · refine zQ_seq 1 (pc' := 18) (L' := [some (.ref 15), some (.int a1), some (.int a2)]) (S' := [.int (Int32.ofInt 0)]) (h' := h1) zp_47 rfl ?_
    exact zQ_retI zp_47 rfl (r1'.1 c2)
  · refine zQ_seq 1 (pc' := 14) (L' := [some (.ref 15), some (.int a1), some (.int a2)]) (S' := [.int (Int32.ofInt 1)]) (h' := h1) zp_47 rfl ?_
    refine zQ_goto zp_47 rfl (t := 18) rfl ?_
    exact zQ_retI zp_47 rfl (r1'.2 c2)
theorem s_48 {h : zH} {Q : Option Value → zH → Prop} (a0 : Int32) (a1 : Int32) (H : Q (some (.int (((a0 >>> (a1 &&& 31)) &&& (Int32.ofInt 1)) ||| (((a0 >>> (((Int32.ofInt 15) + a1) &&& 31)) &&& (Int32.ofInt 1)) <<< ((Int32.ofInt 1) &&& 31))))) h) : zqm 48 [.int a0, .int a1] h Q := by
  refine zqm_of zp_48 (fun n => ?_)
  show zQ n 48 0 [some (.int a0), some (.int a1)] [] h Q
  refine zQ_seq 15 (pc' := 16) (L' := [some (.int a0), some (.int a1)]) (S' := [.int (((a0 >>> (a1 &&& 31)) &&& (Int32.ofInt 1)) ||| (((a0 >>> (((Int32.ofInt 15) + a1) &&& 31)) &&& (Int32.ofInt 1)) <<< ((Int32.ofInt 1) &&& 31)))]) (h' := h) zp_48 rfl ?_
  exact zQ_retI zp_48 rfl H
theorem s_49 {h : zH} {Q : Option Value → zH → Prop} (a0 : Int32) (a1 : Int32) (a2 : Int32) (H : Q (some (.int (((a0 &&& ((((Int32.ofInt 1) <<< (a1 &&& 31)) ||| ((Int32.ofInt 1) <<< (((Int32.ofInt 15) + a1) &&& 31))) ^^^ (Int32.ofInt (-1)))) ||| ((a2 &&& (Int32.ofInt 1)) <<< (a1 &&& 31))) ||| (((a2 >>> ((Int32.ofInt 1) &&& 31)) &&& (Int32.ofInt 1)) <<< (((Int32.ofInt 15) + a1) &&& 31))))) h) : zqm 49 [.int a0, .int a1, .int a2] h Q := by
  refine zqm_of zp_49 (fun n => ?_)
  show zQ n 49 0 [some (.int a0), some (.int a1), some (.int a2), none] [] h Q
  refine zQ_seq 31 (pc' := 33) (L' := [some (.int a0), some (.int a1), some (.int a2), some (.int (a0 &&& ((((Int32.ofInt 1) <<< (a1 &&& 31)) ||| ((Int32.ofInt 1) <<< (((Int32.ofInt 15) + a1) &&& 31))) ^^^ (Int32.ofInt (-1)))))]) (S' := [.int (((a0 &&& ((((Int32.ofInt 1) <<< (a1 &&& 31)) ||| ((Int32.ofInt 1) <<< (((Int32.ofInt 15) + a1) &&& 31))) ^^^ (Int32.ofInt (-1)))) ||| ((a2 &&& (Int32.ofInt 1)) <<< (a1 &&& 31))) ||| (((a2 >>> ((Int32.ofInt 1) &&& 31)) &&& (Int32.ofInt 1)) <<< (((Int32.ofInt 15) + a1) &&& 31)))]) (h' := h) zp_49 rfl ?_
  exact zQ_retI zp_49 rfl H
theorem s_50 {h : zH} {Q : Option Value → zH → Prop} (a0 : Int32) (a1 : Int32) (a2 : Int32) (H : zqm 48 [.int a0, .int a1] h (fun rv h1 => zri rv (fun v1 => zqm 49 [.int a0, .int a1, .int ((v1 + a2) - (v1 + a2) / (Int32.ofInt 4) * (Int32.ofInt 4))] h1 (fun rv h2 => zri rv (fun v2 => Q (some (.int v2)) h2))))) : zqm 50 [.int a0, .int a1, .int a2] h Q := by
  refine zqm_of zp_50 (fun n => ?_)
  show zQ n 50 0 [some (.int a0), some (.int a1), some (.int a2)] [] h Q
  refine zQ_seq 4 (pc' := 4) (L' := [some (.int a0), some (.int a1), some (.int a2)]) (S' := [.int a1, .int a0, .int a1, .int a0]) (h' := h) zp_50 rfl ?_
  refine zQ_csI (M' := 48) (as := [.int a0, .int a1]) (S' := [.int a1, .int a0]) zp_50 rfl rfl rfl zp_48 (Or.inl rfl) rfl rfl (zqm_imp H (fun rv h1 r1 => zri_imp r1 (fun v1 r1' => ?_)))
  refine zQ_seq 3 (pc' := 10) (L' := [some (.int a0), some (.int a1), some (.int a2)]) (S' := [.int (Int32.ofInt 4), .int (v1 + a2), .int a1, .int a0]) (h' := h1) zp_50 rfl ?_
  refine zQ_rem zp_50 rfl (fun _ => ?_)
  refine zQ_csI (M' := 49) (as := [.int a0, .int a1, .int ((v1 + a2) - (v1 + a2) / (Int32.ofInt 4) * (Int32.ofInt 4))]) (S' := []) zp_50 rfl rfl rfl zp_49 (Or.inl rfl) rfl rfl (zqm_imp r1' (fun rv h2 r2 => zri_imp r2 (fun v2 r2' => ?_)))
  exact zQ_retI zp_50 rfl r2'
theorem s_51 {h : zH} {Q : Option Value → zH → Prop} (a0 : Int32) (a1 : Int32) (H : Q (some (.int (((a0 ^^^ a1) ||| ((a0 ^^^ a1) >>> ((Int32.ofInt 15) &&& 31))) &&& (Int32.ofInt 32767)))) h) : zqm 51 [.int a0, .int a1] h Q := by
  refine zqm_of zp_51 (fun n => ?_)
  show zQ n 51 0 [some (.int a0), some (.int a1), none] [] h Q
  refine zQ_seq 11 (pc' := 14) (L' := [some (.int a0), some (.int a1), some (.int (a0 ^^^ a1))]) (S' := [.int (((a0 ^^^ a1) ||| ((a0 ^^^ a1) >>> ((Int32.ofInt 15) &&& 31))) &&& (Int32.ofInt 32767))]) (h' := h) zp_51 rfl ?_
  exact zQ_retI zp_51 rfl H
theorem s_52 {h : zH} {Q : Option Value → zH → Prop} (a0 : Int32) (a1 : Int32) (a2 : Int32) (H : Q (some (.int ((a0 &&& ((a2 ||| (a2 <<< ((Int32.ofInt 15) &&& 31))) ^^^ (Int32.ofInt (-1)))) ||| (a1 &&& (a2 ||| (a2 <<< ((Int32.ofInt 15) &&& 31))))))) h) : zqm 52 [.int a0, .int a1, .int a2] h Q := by
  refine zqm_of zp_52 (fun n => ?_)
  show zQ n 52 0 [some (.int a0), some (.int a1), some (.int a2), none] [] h Q
  refine zQ_seq 15 (pc' := 16) (L' := [some (.int a0), some (.int a1), some (.int a2), some (.int (a2 ||| (a2 <<< ((Int32.ofInt 15) &&& 31))))]) (S' := [.int ((a0 &&& ((a2 ||| (a2 <<< ((Int32.ofInt 15) &&& 31))) ^^^ (Int32.ofInt (-1)))) ||| (a1 &&& (a2 ||| (a2 <<< ((Int32.ofInt 15) &&& 31)))))]) (h' := h) zp_52 rfl ?_
  exact zQ_retI zp_52 rfl H
theorem s_53 {h : zH} {Q : Option Value → zH → Prop} (H : (((h.1 13 1).toInt < (120 : Int) → Q (some (.int (Int32.ofInt 0))) h) ∧ (¬ ((h.1 13 1).toInt < (120 : Int)) → Q (some (.int (Int32.ofInt 1))) h))) : zqm 53 [.ref 13] h Q := by
  refine zqm_of zp_53 (fun n => ?_)
  show zQ n 53 0 [some (.ref 13)] [] h Q
  refine zQ_seq 3 (pc' := 6) (L' := [some (.ref 13)]) (S' := [.int (Int32.ofInt 120), .int (h.1 13 1)]) (h' := h) zp_53 rfl ?_
  refine zQ_ic zp_53 rfl (t := 13) rfl (i := (h.1 13 1).toInt) (j := (120 : Int)) rfl kc_120 (fun c1 => ?_) (fun c1 => ?_)
  · refine zQ_seq 1 (pc' := 14) (L' := [some (.ref 13)]) (S' := [.int (Int32.ofInt 0)]) (h' := h) zp_53 rfl ?_
    exact zQ_retI zp_53 rfl (H.1 c1)
  · refine zQ_seq 1 (pc' := 10) (L' := [some (.ref 13)]) (S' := [.int (Int32.ofInt 1)]) (h' := h) zp_53 rfl ?_
    refine zQ_goto zp_53 rfl (t := 14) rfl ?_
    exact zQ_retI zp_53 rfl (H.2 c1)
theorem s_54 {h : zH} {Q : Option Value → zH → Prop} (a1 : Int32) (H : (((120 : Int) ≤ (h.1 13 1).toInt → Q (some (.int (h.1 13 1))) h) ∧ (¬ ((120 : Int) ≤ (h.1 13 1).toInt) → (0 ≤ (h.1 13 1).toInt → (h.1 13 1).toInt < 120 → Q (some (.int ((h.1 13 1) + (Int32.ofInt 1)))) (zSet (zSet h 14 (h.1 13 1).toInt.toNat a1) 13 1 ((h.1 13 1) + (Int32.ofInt 1))))))) : zqm 54 [.ref 13, .int a1] h Q := by
  refine zqm_of zp_54 (fun n => ?_)
  show zQ n 54 0 [some (.ref 13), some (.int a1)] [] h Q
  refine zQ_seq 3 (pc' := 6) (L' := [some (.ref 13), some (.int a1)]) (S' := [.int (Int32.ofInt 120), .int (h.1 13 1)]) (h' := h) zp_54 rfl ?_
  refine zQ_ic zp_54 rfl (t := 29) rfl (i := (h.1 13 1).toInt) (j := (120 : Int)) rfl kc_120 (fun c1 => ?_) (fun c1 => ?_)
  · refine zQ_seq 2 (pc' := 33) (L' := [some (.ref 13), some (.int a1)]) (S' := [.int (h.1 13 1)]) (h' := h) zp_54 rfl ?_
    exact zQ_retI zp_54 rfl (H.1 c1)
  · refine zQ_seq 5 (pc' := 18) (L' := [some (.ref 13), some (.int a1)]) (S' := [.int a1, .int (h.1 13 1), .ref 14]) (h' := h) zp_54 rfl ?_
    refine zQ_ias (N := 120) zp_54 rfl rfl rfl (fun b2 b2' => ?_)
    refine zQ_seq 8 (pc' := 33) (L' := [some (.ref 13), some (.int a1)]) (S' := [.int ((h.1 13 1) + (Int32.ofInt 1))]) (h' := (zSet (zSet h 14 (h.1 13 1).toInt.toNat a1) 13 1 ((h.1 13 1) + (Int32.ofInt 1)))) zp_54 rfl ?_
    exact zQ_retI zp_54 rfl ((H.2 c1) b2 b2')
theorem s_55 {h : zH} {Q : Option Value → zH → Prop} (H : (∀ n, zqm 10 [.ref 23] (zSet (zSet h 13 2 (Int32.ofInt 0)) 13 3 (Int32.ofInt 0)) (fun _ h1 => zqm 56 [.ref 13, .ref 23] h1 (fun _ h2 => zqm 57 [.ref 13, .int (Int32.ofInt 109)] h2 (fun rv h3 => zri rv (fun v3 => zqm 57 [.ref 13, .int (Int32.ofInt 110)] (zSet h3 23 3 v3) (fun rv h4 => zri rv (fun v4 => zqm 58 [.ref 13, .ref 23] (zSet h4 23 4 v4) (fun _ h5 => zQ n 55 46 [some (.ref 13), some (.ref 23), some (.int (Int32.ofInt 0))] [] h5 Q))))))))) : zqm 55 [.ref 13, .ref 23] h Q := by
  refine zqm_of zp_55 (fun n => ?_)
  have H := H n
  show zQ n 55 0 [some (.ref 13), some (.ref 23), none] [] h Q
  refine zQ_seq 7 (pc' := 11) (L' := [some (.ref 13), some (.ref 23), none]) (S' := [.ref 23]) (h' := (zSet (zSet h 13 2 (Int32.ofInt 0)) 13 3 (Int32.ofInt 0))) zp_55 rfl ?_
  refine zQ_cvV (M' := 10) (as := [.ref 23]) (S' := []) zp_55 rfl rfl zp_10 rfl rfl rfl (zqm_imp H (fun rv h1 r1 => ?_))
  refine zQ_seq 2 (pc' := 16) (L' := [some (.ref 13), some (.ref 23), none]) (S' := [.ref 23, .ref 13]) (h' := h1) zp_55 rfl ?_
  refine zQ_cvV (M' := 56) (as := [.ref 13, .ref 23]) (S' := []) zp_55 rfl rfl zp_56 rfl rfl rfl (zqm_imp r1 (fun rv h2 r2 => ?_))
  refine zQ_seq 3 (pc' := 23) (L' := [some (.ref 13), some (.ref 23), none]) (S' := [.int (Int32.ofInt 109), .ref 13, .ref 23]) (h' := h2) zp_55 rfl ?_
  refine zQ_cvI (M' := 57) (as := [.ref 13, .int (Int32.ofInt 109)]) (S' := [.ref 23]) zp_55 rfl rfl zp_57 (Or.inl rfl) rfl rfl (zqm_imp r2 (fun rv h3 r3 => zri_imp r3 (fun v3 r3' => ?_)))
  refine zQ_seq 4 (pc' := 33) (L' := [some (.ref 13), some (.ref 23), none]) (S' := [.int (Int32.ofInt 110), .ref 13, .ref 23]) (h' := (zSet h3 23 3 v3)) zp_55 rfl ?_
  refine zQ_cvI (M' := 57) (as := [.ref 13, .int (Int32.ofInt 110)]) (S' := [.ref 23]) zp_55 rfl rfl zp_57 (Or.inl rfl) rfl rfl (zqm_imp r3' (fun rv h4 r4 => zri_imp r4 (fun v4 r4' => ?_)))
  refine zQ_seq 3 (pc' := 41) (L' := [some (.ref 13), some (.ref 23), none]) (S' := [.ref 23, .ref 13]) (h' := (zSet h4 23 4 v4)) zp_55 rfl ?_
  refine zQ_cvV (M' := 58) (as := [.ref 13, .ref 23]) (S' := []) zp_55 rfl rfl zp_58 rfl rfl rfl (zqm_imp r4' (fun rv h5 r5 => ?_))
  refine zQ_seq 2 (pc' := 46) (L' := [some (.ref 13), some (.ref 23), some (.int (Int32.ofInt 0))]) (S' := []) (h' := h5) zp_55 rfl ?_
  exact r5
theorem s_55_46 {n : Nat} {h : zH} {Q : Option Value → zH → Prop} (x2 : Int32) (H : (((4 : Int) < x2.toInt → ((¬ (h.1 13 3).toInt = 0 → Q none (zSet h 13 1 (Int32.ofInt 0))) ∧ (¬ (¬ (h.1 13 3).toInt = 0) → zqm 12 [.ref 23] h (fun _ h3 => Q none (zSet h3 13 1 (Int32.ofInt 0)))))) ∧ (¬ ((4 : Int) < x2.toInt) → ((¬ (h.1 13 3).toInt = 0 → ((¬ (h.1 13 3).toInt = 0 → Q none (zSet h 13 1 (Int32.ofInt 0))) ∧ (¬ (¬ (h.1 13 3).toInt = 0) → zqm 12 [.ref 23] h (fun _ h6 => Q none (zSet h6 13 1 (Int32.ofInt 0)))))) ∧ (¬ (¬ (h.1 13 3).toInt = 0) → (((h.1 13 1).toInt ≤ (h.1 13 2).toInt → ((¬ (h.1 13 3).toInt = 0 → Q none (zSet h 13 1 (Int32.ofInt 0))) ∧ (¬ (¬ (h.1 13 3).toInt = 0) → zqm 12 [.ref 23] h (fun _ h9 => Q none (zSet h9 13 1 (Int32.ofInt 0)))))) ∧ (¬ ((h.1 13 1).toInt ≤ (h.1 13 2).toInt) → zqm 59 [.ref 13, .ref 23] h (fun _ h10 => zQ n 55 46 [some (.ref 13), some (.ref 23), some (.int (x2 + Int32.ofInt 1))] [] h10 Q)))))))) : zQ (n + 1) 55 46 [some (.ref 13), some (.ref 23), some (.int x2)] [] h Q := by
  refine zQ_seqL 1 (pc' := 48) (L' := [some (.ref 13), some (.ref 23), some (.int x2)]) (S' := [.int (Int32.ofInt 4), .int x2]) (h' := h) zp_55 rfl ?_
  refine zQ_ic zp_55 rfl (t := 80) rfl (i := x2.toInt) (j := (4 : Int)) rfl kc_4 (fun c1 => ?_) (fun c1 => ?_)
  · refine zQ_seq 2 (pc' := 84) (L' := [some (.ref 13), some (.ref 23), some (.int x2)]) (S' := [.int (h.1 13 3)]) (h' := h) zp_55 rfl ?_
    refine zQ_if zp_55 rfl (t := 91) rfl (i := (h.1 13 3).toInt) rfl (fun c2 => ?_) (fun c2 => ?_)
    · refine zQ_seq 3 (pc' := 96) (L' := [some (.ref 13), some (.ref 23), some (.int x2)]) (S' := []) (h' := (zSet h 13 1 (Int32.ofInt 0))) zp_55 rfl ?_
      exact zQ_retV zp_55 rfl ((H.1 c1).1 c2)
    · refine zQ_seq 1 (pc' := 88) (L' := [some (.ref 13), some (.ref 23), some (.int x2)]) (S' := [.ref 23]) (h' := h) zp_55 rfl ?_
      refine zQ_cvV (M' := 12) (as := [.ref 23]) (S' := []) zp_55 rfl rfl zp_12 rfl rfl rfl (zqm_imp ((H.1 c1).2 c2) (fun rv h3 r3 => ?_))
      refine zQ_seq 3 (pc' := 96) (L' := [some (.ref 13), some (.ref 23), some (.int x2)]) (S' := []) (h' := (zSet h3 13 1 (Int32.ofInt 0))) zp_55 rfl ?_
      exact zQ_retV zp_55 rfl r3
  · refine zQ_seq 2 (pc' := 55) (L' := [some (.ref 13), some (.ref 23), some (.int x2)]) (S' := [.int (h.1 13 3)]) (h' := h) zp_55 rfl ?_
    refine zQ_if zp_55 rfl (t := 80) rfl (i := (h.1 13 3).toInt) rfl (fun c4 => ?_) (fun c4 => ?_)
    · refine zQ_seq 2 (pc' := 84) (L' := [some (.ref 13), some (.ref 23), some (.int x2)]) (S' := [.int (h.1 13 3)]) (h' := h) zp_55 rfl ?_
      refine zQ_if zp_55 rfl (t := 91) rfl (i := (h.1 13 3).toInt) rfl (fun c5 => ?_) (fun c5 => ?_)
      · refine zQ_seq 3 (pc' := 96) (L' := [some (.ref 13), some (.ref 23), some (.int x2)]) (S' := []) (h' := (zSet h 13 1 (Int32.ofInt 0))) zp_55 rfl ?_
        exact zQ_retV zp_55 rfl (((H.2 c1).1 c4).1 c5)
      · refine zQ_seq 1 (pc' := 88) (L' := [some (.ref 13), some (.ref 23), some (.int x2)]) (S' := [.ref 23]) (h' := h) zp_55 rfl ?_
        refine zQ_cvV (M' := 12) (as := [.ref 23]) (S' := []) zp_55 rfl rfl zp_12 rfl rfl rfl (zqm_imp (((H.2 c1).1 c4).2 c5) (fun rv h6 r6 => ?_))
        refine zQ_seq 3 (pc' := 96) (L' := [some (.ref 13), some (.ref 23), some (.int x2)]) (S' := []) (h' := (zSet h6 13 1 (Int32.ofInt 0))) zp_55 rfl ?_
        exact zQ_retV zp_55 rfl r6
    · refine zQ_seq 4 (pc' := 66) (L' := [some (.ref 13), some (.ref 23), some (.int x2)]) (S' := [.int (h.1 13 1), .int (h.1 13 2)]) (h' := h) zp_55 rfl ?_
      refine zQ_ic zp_55 rfl (t := 80) rfl (i := (h.1 13 2).toInt) (j := (h.1 13 1).toInt) rfl rfl (fun c7 => ?_) (fun c7 => ?_)
      · refine zQ_seq 2 (pc' := 84) (L' := [some (.ref 13), some (.ref 23), some (.int x2)]) (S' := [.int (h.1 13 3)]) (h' := h) zp_55 rfl ?_
        refine zQ_if zp_55 rfl (t := 91) rfl (i := (h.1 13 3).toInt) rfl (fun c8 => ?_) (fun c8 => ?_)
        · refine zQ_seq 3 (pc' := 96) (L' := [some (.ref 13), some (.ref 23), some (.int x2)]) (S' := []) (h' := (zSet h 13 1 (Int32.ofInt 0))) zp_55 rfl ?_
          exact zQ_retV zp_55 rfl ((((H.2 c1).2 c4).1 c7).1 c8)
        · refine zQ_seq 1 (pc' := 88) (L' := [some (.ref 13), some (.ref 23), some (.int x2)]) (S' := [.ref 23]) (h' := h) zp_55 rfl ?_
          refine zQ_cvV (M' := 12) (as := [.ref 23]) (S' := []) zp_55 rfl rfl zp_12 rfl rfl rfl (zqm_imp ((((H.2 c1).2 c4).1 c7).2 c8) (fun rv h9 r9 => ?_))
          refine zQ_seq 3 (pc' := 96) (L' := [some (.ref 13), some (.ref 23), some (.int x2)]) (S' := []) (h' := (zSet h9 13 1 (Int32.ofInt 0))) zp_55 rfl ?_
          exact zQ_retV zp_55 rfl r9
      · refine zQ_seq 2 (pc' := 71) (L' := [some (.ref 13), some (.ref 23), some (.int x2)]) (S' := [.ref 23, .ref 13]) (h' := h) zp_55 rfl ?_
        refine zQ_cvV (M' := 59) (as := [.ref 13, .ref 23]) (S' := []) zp_55 rfl rfl zp_59 rfl rfl rfl (zqm_imp (((H.2 c1).2 c4).2 c7) (fun rv h10 r10 => ?_))
        refine zQ_seq 1 (pc' := 77) (L' := [some (.ref 13), some (.ref 23), some (.int (x2 + Int32.ofInt 1))]) (S' := []) (h' := h10) zp_55 rfl ?_
        refine zQ_goto zp_55 rfl (t := 46) rfl ?_
        exact r10
theorem s_56 {h : zH} {Q : Option Value → zH → Prop} (H : zqm 64 [.ref 13, .int (Int32.ofInt 108)] h (fun _ h1 => zqm 66 [.ref 13, .int (Int32.ofInt 0), .int (Int32.ofInt 14)] h1 (fun rv h2 => zri rv (fun v2 => zqm 64 [.ref 13, .int (Int32.ofInt 44)] (zSet h2 23 1 v2) (fun _ h3 => zqm 66 [.ref 13, .int (Int32.ofInt 0), .int (Int32.ofInt 3)] h3 (fun rv h4 => zri rv (fun v4 => zqm 64 [.ref 13, .int (Int32.ofInt 59)] (zSet h4 23 2 v4) (fun _ h5 => Q none h5)))))))) : zqm 56 [.ref 13, .ref 23] h Q := by
  refine zqm_of zp_56 (fun n => ?_)
  show zQ n 56 0 [some (.ref 13), some (.ref 23)] [] h Q
  refine zQ_seq 2 (pc' := 3) (L' := [some (.ref 13), some (.ref 23)]) (S' := [.int (Int32.ofInt 108), .ref 13]) (h' := h) zp_56 rfl ?_
  refine zQ_cvV (M' := 64) (as := [.ref 13, .int (Int32.ofInt 108)]) (S' := []) zp_56 rfl rfl zp_64 rfl rfl rfl (zqm_imp H (fun rv h1 r1 => ?_))
  refine zQ_seq 4 (pc' := 11) (L' := [some (.ref 13), some (.ref 23)]) (S' := [.int (Int32.ofInt 14), .int (Int32.ofInt 0), .ref 13, .ref 23]) (h' := h1) zp_56 rfl ?_
  refine zQ_cvI (M' := 66) (as := [.ref 13, .int (Int32.ofInt 0), .int (Int32.ofInt 14)]) (S' := [.ref 23]) zp_56 rfl rfl zp_66 (Or.inl rfl) rfl rfl (zqm_imp r1 (fun rv h2 r2 => zri_imp r2 (fun v2 r2' => ?_)))
  refine zQ_seq 3 (pc' := 20) (L' := [some (.ref 13), some (.ref 23)]) (S' := [.int (Int32.ofInt 44), .ref 13]) (h' := (zSet h2 23 1 v2)) zp_56 rfl ?_
  refine zQ_cvV (M' := 64) (as := [.ref 13, .int (Int32.ofInt 44)]) (S' := []) zp_56 rfl rfl zp_64 rfl rfl rfl (zqm_imp r2' (fun rv h3 r3 => ?_))
  refine zQ_seq 4 (pc' := 27) (L' := [some (.ref 13), some (.ref 23)]) (S' := [.int (Int32.ofInt 3), .int (Int32.ofInt 0), .ref 13, .ref 23]) (h' := h3) zp_56 rfl ?_
  refine zQ_cvI (M' := 66) (as := [.ref 13, .int (Int32.ofInt 0), .int (Int32.ofInt 3)]) (S' := [.ref 23]) zp_56 rfl rfl zp_66 (Or.inl rfl) rfl rfl (zqm_imp r3 (fun rv h4 r4 => zri_imp r4 (fun v4 r4' => ?_)))
  refine zQ_seq 3 (pc' := 36) (L' := [some (.ref 13), some (.ref 23)]) (S' := [.int (Int32.ofInt 59), .ref 13]) (h' := (zSet h4 23 2 v4)) zp_56 rfl ?_
  refine zQ_cvV (M' := 64) (as := [.ref 13, .int (Int32.ofInt 59)]) (S' := []) zp_56 rfl rfl zp_64 rfl rfl rfl (zqm_imp r4' (fun rv h5 r5 => ?_))
  exact zQ_retV zp_56 rfl r5
theorem s_57 {h : zH} {Q : Option Value → zH → Prop} (a1 : Int32) (H : (∀ n, zqm 64 [.ref 13, .int a1] h (fun _ h1 => zQ n 57 9 [some (.ref 13), some (.int a1), some (.int (Int32.ofInt 0)), some (.int (Int32.ofInt 0))] [] h1 Q))) : zqm 57 [.ref 13, .int a1] h Q := by
  refine zqm_of zp_57 (fun n => ?_)
  have H := H n
  show zQ n 57 0 [some (.ref 13), some (.int a1), none, none] [] h Q
  refine zQ_seq 4 (pc' := 4) (L' := [some (.ref 13), some (.int a1), some (.int (Int32.ofInt 0)), none]) (S' := [.int a1, .ref 13]) (h' := h) zp_57 rfl ?_
  refine zQ_cvV (M' := 64) (as := [.ref 13, .int a1]) (S' := []) zp_57 rfl rfl zp_64 rfl rfl rfl (zqm_imp H (fun rv h1 r1 => ?_))
  refine zQ_seq 2 (pc' := 9) (L' := [some (.ref 13), some (.int a1), some (.int (Int32.ofInt 0)), some (.int (Int32.ofInt 0))]) (S' := []) (h' := h1) zp_57 rfl ?_
  exact r1
theorem s_57_9 {n : Nat} {h : zH} {Q : Option Value → zH → Prop} (x1 : Int32) (x2 : Int32) (x3 : Int32) (H : (((15 : Int) ≤ x3.toInt → zqm 64 [.ref 13, .int (Int32.ofInt 59)] h (fun _ h2 => Q (some (.int x2)) h2)) ∧ (¬ ((15 : Int) ≤ x3.toInt) → zqm 65 [.ref 13, .int (Int32.ofInt 97), .int (Int32.ofInt 100)] h (fun rv h3 => zri rv (fun v3 => zqm 49 [.int x2, .int x3, .int v3] h3 (fun rv h4 => zri rv (fun v4 => zQ n 57 9 [some (.ref 13), some (.int x1), some (.int v4), some (.int (x3 + Int32.ofInt 1))] [] h4 Q))))))) : zQ (n + 1) 57 9 [some (.ref 13), some (.int x1), some (.int x2), some (.int x3)] [] h Q := by
  refine zQ_seqL 1 (pc' := 12) (L' := [some (.ref 13), some (.int x1), some (.int x2), some (.int x3)]) (S' := [.int (Int32.ofInt 15), .int x3]) (h' := h) zp_57 rfl ?_
  refine zQ_ic zp_57 rfl (t := 35) rfl (i := x3.toInt) (j := (15 : Int)) rfl kc_15 (fun c1 => ?_) (fun c1 => ?_)
  · refine zQ_seq 2 (pc' := 38) (L' := [some (.ref 13), some (.int x1), some (.int x2), some (.int x3)]) (S' := [.int (Int32.ofInt 59), .ref 13]) (h' := h) zp_57 rfl ?_
    refine zQ_cvV (M' := 64) (as := [.ref 13, .int (Int32.ofInt 59)]) (S' := []) zp_57 rfl rfl zp_64 rfl rfl rfl (zqm_imp (H.1 c1) (fun rv h2 r2 => ?_))
    refine zQ_seq 1 (pc' := 42) (L' := [some (.ref 13), some (.int x1), some (.int x2), some (.int x3)]) (S' := [.int x2]) (h' := h2) zp_57 rfl ?_
    exact zQ_retI zp_57 rfl r2
  · refine zQ_seq 5 (pc' := 22) (L' := [some (.ref 13), some (.int x1), some (.int x2), some (.int x3)]) (S' := [.int (Int32.ofInt 100), .int (Int32.ofInt 97), .ref 13, .int x3, .int x2]) (h' := h) zp_57 rfl ?_
    refine zQ_cvI (M' := 65) (as := [.ref 13, .int (Int32.ofInt 97), .int (Int32.ofInt 100)]) (S' := [.int x3, .int x2]) zp_57 rfl rfl zp_65 (Or.inl rfl) rfl rfl (zqm_imp (H.2 c1) (fun rv h3 r3 => zri_imp r3 (fun v3 r3' => ?_)))
    refine zQ_csI (M' := 49) (as := [.int x2, .int x3, .int v3]) (S' := []) zp_57 rfl rfl rfl zp_49 (Or.inl rfl) rfl rfl (zqm_imp r3' (fun rv h4 r4 => zri_imp r4 (fun v4 r4' => ?_)))
    refine zQ_seq 2 (pc' := 32) (L' := [some (.ref 13), some (.int x1), some (.int v4), some (.int (x3 + Int32.ofInt 1))]) (S' := []) (h' := h4) zp_57 rfl ?_
    refine zQ_goto zp_57 rfl (t := 9) rfl ?_
    exact r4'
theorem s_58 {h : zH} {Q : Option Value → zH → Prop} (H : (∀ n, zqm 64 [.ref 13, .int (Int32.ofInt 99)] h (fun _ h1 => zQ n 58 8 [some (.ref 13), some (.ref 23), some (.int (Int32.ofInt 0)), none] [] h1 Q))) : zqm 58 [.ref 13, .ref 23] h Q := by
  refine zqm_of zp_58 (fun n => ?_)
  have H := H n
  show zQ n 58 0 [some (.ref 13), some (.ref 23), none, none] [] h Q
  refine zQ_seq 2 (pc' := 3) (L' := [some (.ref 13), some (.ref 23), none, none]) (S' := [.int (Int32.ofInt 99), .ref 13]) (h' := h) zp_58 rfl ?_
  refine zQ_cvV (M' := 64) (as := [.ref 13, .int (Int32.ofInt 99)]) (S' := []) zp_58 rfl rfl zp_64 rfl rfl rfl (zqm_imp H (fun rv h1 r1 => ?_))
  refine zQ_seq 2 (pc' := 8) (L' := [some (.ref 13), some (.ref 23), some (.int (Int32.ofInt 0)), none]) (S' := []) (h' := h1) zp_58 rfl ?_
  exact r1
theorem s_58_8 {n : Nat} {h : zH} {Q : Option Value → zH → Prop} (x2 : Int32) (o3 : Option Value) (H : (((15 : Int) ≤ x2.toInt → zqm 64 [.ref 13, .int (Int32.ofInt 59)] h (fun _ h2 => Q none h2)) ∧ (¬ ((15 : Int) ≤ x2.toInt) → zqm 65 [.ref 13, .int (Int32.ofInt 101), .int (Int32.ofInt 103)] h (fun rv h3 => zri rv (fun v3 => ((v3.toInt < 0 → zQ n 58 8 [some (.ref 13), some (.ref 23), some (.int (x2 + Int32.ofInt 1)), some (.int v3)] [] h3 Q) ∧ (¬ (v3.toInt < 0) → (((3 : Int) ≤ v3.toInt → zQ n 58 8 [some (.ref 13), some (.ref 23), some (.int (x2 + Int32.ofInt 1)), some (.int v3)] [] h3 Q) ∧ (¬ ((3 : Int) ≤ v3.toInt) → (0 ≤ v3.toInt → v3.toInt < 3 → (0 ≤ v3.toInt → v3.toInt < 3 → zQ n 58 8 [some (.ref 13), some (.ref 23), some (.int (x2 + Int32.ofInt 1)), some (.int v3)] [] (zSet h3 24 v3.toInt.toNat ((h3.1 24 v3.toInt.toNat) ||| ((Int32.ofInt 1) <<< (x2 &&& 31)))) Q))))))))))) : zQ (n + 1) 58 8 [some (.ref 13), some (.ref 23), some (.int x2), o3] [] h Q := by
  refine zQ_seqL 1 (pc' := 11) (L' := [some (.ref 13), some (.ref 23), some (.int x2), o3]) (S' := [.int (Int32.ofInt 15), .int x2]) (h' := h) zp_58 rfl ?_
  refine zQ_ic zp_58 rfl (t := 50) rfl (i := x2.toInt) (j := (15 : Int)) rfl kc_15 (fun c1 => ?_) (fun c1 => ?_)
  · refine zQ_seq 2 (pc' := 53) (L' := [some (.ref 13), some (.ref 23), some (.int x2), o3]) (S' := [.int (Int32.ofInt 59), .ref 13]) (h' := h) zp_58 rfl ?_
    refine zQ_cvV (M' := 64) (as := [.ref 13, .int (Int32.ofInt 59)]) (S' := []) zp_58 rfl rfl zp_64 rfl rfl rfl (zqm_imp (H.1 c1) (fun rv h2 r2 => ?_))
    exact zQ_retV zp_58 rfl r2
  · refine zQ_seq 3 (pc' := 19) (L' := [some (.ref 13), some (.ref 23), some (.int x2), o3]) (S' := [.int (Int32.ofInt 103), .int (Int32.ofInt 101), .ref 13]) (h' := h) zp_58 rfl ?_
    refine zQ_cvI (M' := 65) (as := [.ref 13, .int (Int32.ofInt 101), .int (Int32.ofInt 103)]) (S' := []) zp_58 rfl rfl zp_65 (Or.inl rfl) rfl rfl (zqm_imp (H.2 c1) (fun rv h3 r3 => zri_imp r3 (fun v3 r3' => ?_)))
    refine zQ_seq 2 (pc' := 24) (L' := [some (.ref 13), some (.ref 23), some (.int x2), some (.int v3)]) (S' := [.int v3]) (h' := h3) zp_58 rfl ?_
    refine zQ_if zp_58 rfl (t := 44) rfl (i := v3.toInt) rfl (fun c4 => ?_) (fun c4 => ?_)
    · refine zQ_seq 1 (pc' := 47) (L' := [some (.ref 13), some (.ref 23), some (.int (x2 + Int32.ofInt 1)), some (.int v3)]) (S' := []) (h' := h3) zp_58 rfl ?_
      refine zQ_goto zp_58 rfl (t := 8) rfl ?_
      exact (r3'.1 c4)
    · refine zQ_seq 2 (pc' := 29) (L' := [some (.ref 13), some (.ref 23), some (.int x2), some (.int v3)]) (S' := [.int (Int32.ofInt 3), .int v3]) (h' := h3) zp_58 rfl ?_
      refine zQ_ic zp_58 rfl (t := 44) rfl (i := v3.toInt) (j := (3 : Int)) rfl kc_3 (fun c5 => ?_) (fun c5 => ?_)
      · refine zQ_seq 1 (pc' := 47) (L' := [some (.ref 13), some (.ref 23), some (.int (x2 + Int32.ofInt 1)), some (.int v3)]) (S' := []) (h' := h3) zp_58 rfl ?_
        refine zQ_goto zp_58 rfl (t := 8) rfl ?_
        exact ((r3'.2 c4).1 c5)
      · refine zQ_seq 4 (pc' := 38) (L' := [some (.ref 13), some (.ref 23), some (.int x2), some (.int v3)]) (S' := [.int v3, .ref 24, .int v3, .ref 24]) (h' := h3) zp_58 rfl ?_
        refine zQ_ial (N := 3) (f := h3.1 24) zp_58 rfl rfl rfl (fun b6 b6' => ?_)
        refine zQ_seq 4 (pc' := 43) (L' := [some (.ref 13), some (.ref 23), some (.int x2), some (.int v3)]) (S' := [.int ((h3.1 24 v3.toInt.toNat) ||| ((Int32.ofInt 1) <<< (x2 &&& 31))), .int v3, .ref 24]) (h' := h3) zp_58 rfl ?_
        refine zQ_ias (N := 3) zp_58 rfl rfl rfl (fun b7 b7' => ?_)
        refine zQ_seq 1 (pc' := 47) (L' := [some (.ref 13), some (.ref 23), some (.int (x2 + Int32.ofInt 1)), some (.int v3)]) (S' := []) (h' := (zSet h3 24 v3.toInt.toNat ((h3.1 24 v3.toInt.toNat) ||| ((Int32.ofInt 1) <<< (x2 &&& 31))))) zp_58 rfl ?_
        refine zQ_goto zp_58 rfl (t := 8) rfl ?_
        exact ((((r3'.2 c4).2 c5) b6 b6') b7 b7')
theorem s_59 {h : zH} {Q : Option Value → zH → Prop} (H : zqm 62 [.ref 13] h (fun rv h1 => zri rv (fun v1 => zqm 60 [.int v1] h1 (fun rv h2 => zri rv (fun v2 => ((¬ v2.toInt = 0 → (((h2.1 23 6).toInt < 0 → zqm 61 [.ref 13, .int (Int32.ofInt 3)] h2 (fun _ h5 => Q none h5)) ∧ (¬ ((h2.1 23 6).toInt < 0) → (((h2.1 23 6).toInt < (4 : Int) → zqm 62 [.ref 13] h2 (fun rv h7 => zri rv (fun v7 => zqm 64 [.ref 13, .int v7] h7 (fun _ h8 => (0 ≤ (h2.1 23 6).toInt → (h2.1 23 6).toInt < 4 → zqm 66 [.ref 13, .int (Int32.ofInt 0), .int (Int32.ofInt 2)] (zSet h8 25 (h2.1 23 6).toInt.toNat v2) (fun rv h10 => zri rv (fun v10 => (0 ≤ (h2.1 23 6).toInt → (h2.1 23 6).toInt < 4 → zqm 64 [.ref 13, .int (Int32.ofInt 44)] (zSet h10 26 (h2.1 23 6).toInt.toNat v10) (fun _ h12 => zqm 66 [.ref 13, .int (Int32.ofInt 1), .int (Int32.ofInt 5)] h12 (fun rv h13 => zri rv (fun v13 => (0 ≤ (h2.1 23 6).toInt → (h2.1 23 6).toInt < 4 → zqm 64 [.ref 13, .int (Int32.ofInt 59)] (zSet h13 27 (h2.1 23 6).toInt.toNat v13) (fun _ h15 => Q none (zSet h15 23 6 ((h15.1 23 6) + (Int32.ofInt 1)))))))))))))))) ∧ (¬ ((h2.1 23 6).toInt < (4 : Int)) → zqm 61 [.ref 13, .int (Int32.ofInt 3)] h2 (fun _ h16 => Q none h16)))))) ∧ (¬ (¬ v2.toInt = 0) → zqm 61 [.ref 13, .int (Int32.ofInt 1)] h2 (fun _ h17 => Q none h17)))))))) : zqm 59 [.ref 13, .ref 23] h Q := by
  refine zqm_of zp_59 (fun n => ?_)
  show zQ n 59 0 [some (.ref 13), some (.ref 23), none, none] [] h Q
  refine zQ_seq 1 (pc' := 1) (L' := [some (.ref 13), some (.ref 23), none, none]) (S' := [.ref 13]) (h' := h) zp_59 rfl ?_
  refine zQ_cvI (M' := 62) (as := [.ref 13]) (S' := []) zp_59 rfl rfl zp_62 (Or.inl rfl) rfl rfl (zqm_imp H (fun rv h1 r1 => zri_imp r1 (fun v1 r1' => ?_)))
  refine zQ_csI (M' := 60) (as := [.int v1]) (S' := []) zp_59 rfl rfl rfl zp_60 (Or.inl rfl) rfl rfl (zqm_imp r1' (fun rv h2 r2 => zri_imp r2 (fun v2 r2' => ?_)))
  refine zQ_seq 5 (pc' := 14) (L' := [some (.ref 13), some (.ref 23), some (.int v2), some (.int (h2.1 23 6))]) (S' := [.int v2]) (h' := h2) zp_59 rfl ?_
  refine zQ_if zp_59 rfl (t := 23) rfl (i := v2.toInt) rfl (fun c3 => ?_) (fun c3 => ?_)
  · refine zQ_seq 1 (pc' := 24) (L' := [some (.ref 13), some (.ref 23), some (.int v2), some (.int (h2.1 23 6))]) (S' := [.int (h2.1 23 6)]) (h' := h2) zp_59 rfl ?_
    refine zQ_if zp_59 rfl (t := 32) rfl (i := (h2.1 23 6).toInt) rfl (fun c4 => ?_) (fun c4 => ?_)
    · refine zQ_seq 2 (pc' := 34) (L' := [some (.ref 13), some (.ref 23), some (.int v2), some (.int (h2.1 23 6))]) (S' := [.int (Int32.ofInt 3), .ref 13]) (h' := h2) zp_59 rfl ?_
      refine zQ_cvV (M' := 61) (as := [.ref 13, .int (Int32.ofInt 3)]) (S' := []) zp_59 rfl rfl zp_61 rfl rfl rfl (zqm_imp ((r2'.1 c3).1 c4) (fun rv h5 r5 => ?_))
      exact zQ_retV zp_59 rfl r5
    · refine zQ_seq 2 (pc' := 29) (L' := [some (.ref 13), some (.ref 23), some (.int v2), some (.int (h2.1 23 6))]) (S' := [.int (Int32.ofInt 4), .int (h2.1 23 6)]) (h' := h2) zp_59 rfl ?_
      refine zQ_ic zp_59 rfl (t := 38) rfl (i := (h2.1 23 6).toInt) (j := (4 : Int)) rfl kc_4 (fun c6 => ?_) (fun c6 => ?_)
      · refine zQ_seq 2 (pc' := 40) (L' := [some (.ref 13), some (.ref 23), some (.int v2), some (.int (h2.1 23 6))]) (S' := [.ref 13, .ref 13]) (h' := h2) zp_59 rfl ?_
        refine zQ_cvI (M' := 62) (as := [.ref 13]) (S' := [.ref 13]) zp_59 rfl rfl zp_62 (Or.inl rfl) rfl rfl (zqm_imp (((r2'.1 c3).2 c4).1 c6) (fun rv h7 r7 => zri_imp r7 (fun v7 r7' => ?_)))
        refine zQ_cvV (M' := 64) (as := [.ref 13, .int v7]) (S' := []) zp_59 rfl rfl zp_64 rfl rfl rfl (zqm_imp r7' (fun rv h8 r8 => ?_))
        refine zQ_seq 4 (pc' := 52) (L' := [some (.ref 13), some (.ref 23), some (.int v2), some (.int (h2.1 23 6))]) (S' := [.int v2, .int (h2.1 23 6), .ref 25]) (h' := h8) zp_59 rfl ?_
        refine zQ_ias (N := 4) zp_59 rfl rfl rfl (fun b9 b9' => ?_)
        refine zQ_seq 6 (pc' := 61) (L' := [some (.ref 13), some (.ref 23), some (.int v2), some (.int (h2.1 23 6))]) (S' := [.int (Int32.ofInt 2), .int (Int32.ofInt 0), .ref 13, .int (h2.1 23 6), .ref 26]) (h' := (zSet h8 25 (h2.1 23 6).toInt.toNat v2)) zp_59 rfl ?_
        refine zQ_cvI (M' := 66) (as := [.ref 13, .int (Int32.ofInt 0), .int (Int32.ofInt 2)]) (S' := [.int (h2.1 23 6), .ref 26]) zp_59 rfl rfl zp_66 (Or.inl rfl) rfl rfl (zqm_imp (r8 b9 b9') (fun rv h10 r10 => zri_imp r10 (fun v10 r10' => ?_)))
        refine zQ_ias (N := 4) zp_59 rfl rfl rfl (fun b11 b11' => ?_)
        refine zQ_seq 2 (pc' := 68) (L' := [some (.ref 13), some (.ref 23), some (.int v2), some (.int (h2.1 23 6))]) (S' := [.int (Int32.ofInt 44), .ref 13]) (h' := (zSet h10 26 (h2.1 23 6).toInt.toNat v10)) zp_59 rfl ?_
        refine zQ_cvV (M' := 64) (as := [.ref 13, .int (Int32.ofInt 44)]) (S' := []) zp_59 rfl rfl zp_64 rfl rfl rfl (zqm_imp (r10' b11 b11') (fun rv h12 r12 => ?_))
        refine zQ_seq 6 (pc' := 79) (L' := [some (.ref 13), some (.ref 23), some (.int v2), some (.int (h2.1 23 6))]) (S' := [.int (Int32.ofInt 5), .int (Int32.ofInt 1), .ref 13, .int (h2.1 23 6), .ref 27]) (h' := h12) zp_59 rfl ?_
        refine zQ_cvI (M' := 66) (as := [.ref 13, .int (Int32.ofInt 1), .int (Int32.ofInt 5)]) (S' := [.int (h2.1 23 6), .ref 27]) zp_59 rfl rfl zp_66 (Or.inl rfl) rfl rfl (zqm_imp r12 (fun rv h13 r13 => zri_imp r13 (fun v13 r13' => ?_)))
        refine zQ_ias (N := 4) zp_59 rfl rfl rfl (fun b14 b14' => ?_)
        refine zQ_seq 2 (pc' := 86) (L' := [some (.ref 13), some (.ref 23), some (.int v2), some (.int (h2.1 23 6))]) (S' := [.int (Int32.ofInt 59), .ref 13]) (h' := (zSet h13 27 (h2.1 23 6).toInt.toNat v13)) zp_59 rfl ?_
        refine zQ_cvV (M' := 64) (as := [.ref 13, .int (Int32.ofInt 59)]) (S' := []) zp_59 rfl rfl zp_64 rfl rfl rfl (zqm_imp (r13' b14 b14') (fun rv h15 r15 => ?_))
        refine zQ_seq 6 (pc' := 99) (L' := [some (.ref 13), some (.ref 23), some (.int v2), some (.int (h2.1 23 6))]) (S' := []) (h' := (zSet h15 23 6 ((h15.1 23 6) + (Int32.ofInt 1)))) zp_59 rfl ?_
        exact zQ_retV zp_59 rfl r15
      · refine zQ_seq 2 (pc' := 34) (L' := [some (.ref 13), some (.ref 23), some (.int v2), some (.int (h2.1 23 6))]) (S' := [.int (Int32.ofInt 3), .ref 13]) (h' := h2) zp_59 rfl ?_
        refine zQ_cvV (M' := 61) (as := [.ref 13, .int (Int32.ofInt 3)]) (S' := []) zp_59 rfl rfl zp_61 rfl rfl rfl (zqm_imp (((r2'.1 c3).2 c4).2 c6) (fun rv h16 r16 => ?_))
        exact zQ_retV zp_59 rfl r16
  · refine zQ_seq 2 (pc' := 19) (L' := [some (.ref 13), some (.ref 23), some (.int v2), some (.int (h2.1 23 6))]) (S' := [.int (Int32.ofInt 1), .ref 13]) (h' := h2) zp_59 rfl ?_
    refine zQ_cvV (M' := 61) (as := [.ref 13, .int (Int32.ofInt 1)]) (S' := []) zp_59 rfl rfl zp_61 rfl rfl rfl (zqm_imp (r2'.2 c3) (fun rv h17 r17 => ?_))
    exact zQ_retV zp_59 rfl r17
theorem s_60 {h : zH} {Q : Option Value → zH → Prop} (a0 : Int32) (H : ((a0.toInt = 107 → Q (some (.int (Int32.ofInt 4))) h) ∧ ((a0.toInt = 111 → Q (some (.int (Int32.ofInt 5))) h) ∧ ((a0.toInt = 112 → Q (some (.int (Int32.ofInt 1))) h) ∧ ((a0.toInt = 121 → Q (some (.int (Int32.ofInt 3))) h) ∧ ((a0.toInt = 122 → Q (some (.int (Int32.ofInt 2))) h) ∧ ((¬ a0.toInt = 107 ∧ ¬ a0.toInt = 111 ∧ ¬ a0.toInt = 112 ∧ ¬ a0.toInt = 121 ∧ ¬ a0.toInt = 122) → Q (some (.int (Int32.ofInt 0))) h))))))) : zqm 60 [.int a0] h Q := by
  refine zqm_of zp_60 (fun n => ?_)
  show zQ n 60 0 [some (.int a0)] [] h Q
  refine zQ_seq 1 (pc' := 1) (L' := [some (.int a0)]) (S' := [.int a0]) (h' := h) zp_60 rfl ?_
  refine zQ_lsw zp_60 rfl (fun t ht => ?_)
  rcases (by omega : a0.toInt = 107 ∨ a0.toInt = 111 ∨ a0.toInt = 112 ∨ a0.toInt = 121 ∨ a0.toInt = 122 ∨ (¬ a0.toInt = 107 ∧ ¬ a0.toInt = 111 ∧ ¬ a0.toInt = 112 ∧ ¬ a0.toInt = 121 ∧ ¬ a0.toInt = 122)) with c1 | c1 | c1 | c1 | c1 | c1
  · have e : (some 58 : Option Nat) = some t := by rw [c1] at ht; exact ht
    cases e
    refine zQ_seq 1 (pc' := 59) (L' := [some (.int a0)]) (S' := [.int (Int32.ofInt 4)]) (h' := h) zp_60 rfl ?_
    exact zQ_retI zp_60 rfl (H.1 c1)
  · have e : (some 60 : Option Nat) = some t := by rw [c1] at ht; exact ht
    cases e
    refine zQ_seq 1 (pc' := 61) (L' := [some (.int a0)]) (S' := [.int (Int32.ofInt 5)]) (h' := h) zp_60 rfl ?_
    exact zQ_retI zp_60 rfl (H.2.1 c1)
  · have e : (some 52 : Option Nat) = some t := by rw [c1] at ht; exact ht
    cases e
    refine zQ_seq 1 (pc' := 53) (L' := [some (.int a0)]) (S' := [.int (Int32.ofInt 1)]) (h' := h) zp_60 rfl ?_
    exact zQ_retI zp_60 rfl (H.2.2.1 c1)
  · have e : (some 56 : Option Nat) = some t := by rw [c1] at ht; exact ht
    cases e
    refine zQ_seq 1 (pc' := 57) (L' := [some (.int a0)]) (S' := [.int (Int32.ofInt 3)]) (h' := h) zp_60 rfl ?_
    exact zQ_retI zp_60 rfl (H.2.2.2.1 c1)
  · have e : (some 54 : Option Nat) = some t := by rw [c1] at ht; exact ht
    cases e
    refine zQ_seq 1 (pc' := 55) (L' := [some (.int a0)]) (S' := [.int (Int32.ofInt 2)]) (h' := h) zp_60 rfl ?_
    exact zQ_retI zp_60 rfl (H.2.2.2.2.1 c1)
  · have e : (some 62 : Option Nat) = some t := by rw [zLsw_d (by simpa using c1)] at ht; exact ht
    cases e
    refine zQ_seq 1 (pc' := 63) (L' := [some (.int a0)]) (S' := [.int (Int32.ofInt 0)]) (h' := h) zp_60 rfl ?_
    exact zQ_retI zp_60 rfl (H.2.2.2.2.2 c1)
theorem s_61 {h : zH} {Q : Option Value → zH → Prop} (a1 : Int32) (H : ((¬ (h.1 13 3).toInt = 0 → Q none h) ∧ (¬ (¬ (h.1 13 3).toInt = 0) → Q none (zSet h 13 3 a1)))) : zqm 61 [.ref 13, .int a1] h Q := by
  refine zqm_of zp_61 (fun n => ?_)
  show zQ n 61 0 [some (.ref 13), some (.int a1)] [] h Q
  refine zQ_seq 2 (pc' := 4) (L' := [some (.ref 13), some (.int a1)]) (S' := [.int (h.1 13 3)]) (h' := h) zp_61 rfl ?_
  refine zQ_if zp_61 rfl (t := 12) rfl (i := (h.1 13 3).toInt) rfl (fun c1 => ?_) (fun c1 => ?_)
  · exact zQ_retV zp_61 rfl (H.1 c1)
  · refine zQ_seq 3 (pc' := 12) (L' := [some (.ref 13), some (.int a1)]) (S' := []) (h' := (zSet h 13 3 a1)) zp_61 rfl ?_
    exact zQ_retV zp_61 rfl (H.2 c1)
theorem s_62 {h : zH} {Q : Option Value → zH → Prop} (H : zqm 63 [.ref 13, .int (h.1 13 2)] h (fun rv h1 => zri rv (fun v1 => Q (some (.int v1)) h1))) : zqm 62 [.ref 13] h Q := by
  refine zqm_of zp_62 (fun n => ?_)
  show zQ n 62 0 [some (.ref 13)] [] h Q
  refine zQ_seq 3 (pc' := 5) (L' := [some (.ref 13)]) (S' := [.int (h.1 13 2), .ref 13]) (h' := h) zp_62 rfl ?_
  refine zQ_cvI (M' := 63) (as := [.ref 13, .int (h.1 13 2)]) (S' := []) zp_62 rfl rfl zp_63 (Or.inl rfl) rfl rfl (zqm_imp H (fun rv h1 r1 => zri_imp r1 (fun v1 r1' => ?_)))
  exact zQ_retI zp_62 rfl r1'
theorem s_63 {h : zH} {Q : Option Value → zH → Prop} (a1 : Int32) (H : ((a1.toInt < 0 → Q (some (.int (-1000000 : Int32))) h) ∧ (¬ (a1.toInt < 0) → (((h.1 13 1).toInt ≤ a1.toInt → Q (some (.int (-1000000 : Int32))) h) ∧ (¬ ((h.1 13 1).toInt ≤ a1.toInt) → (((120 : Int) ≤ a1.toInt → Q (some (.int (-1000000 : Int32))) h) ∧ (¬ ((120 : Int) ≤ a1.toInt) → (0 ≤ a1.toInt → a1.toInt < 120 → Q (some (.int (h.1 14 a1.toInt.toNat))) h)))))))) : zqm 63 [.ref 13, .int a1] h Q := by
  refine zqm_of zp_63 (fun n => ?_)
  show zQ n 63 0 [some (.ref 13), some (.int a1)] [] h Q
  refine zQ_seq 1 (pc' := 1) (L' := [some (.ref 13), some (.int a1)]) (S' := [.int a1]) (h' := h) zp_63 rfl ?_
  refine zQ_if zp_63 rfl (t := 27) rfl (i := a1.toInt) rfl (fun c1 => ?_) (fun c1 => ?_)
  · refine zQ_seq 1 (pc' := 29) (L' := [some (.ref 13), some (.int a1)]) (S' := [.int (-1000000 : Int32)]) (h' := h) zp_63 rfl ?_
    exact zQ_retI zp_63 rfl (H.1 c1)
  · refine zQ_seq 3 (pc' := 9) (L' := [some (.ref 13), some (.int a1)]) (S' := [.int (h.1 13 1), .int a1]) (h' := h) zp_63 rfl ?_
    refine zQ_ic zp_63 rfl (t := 27) rfl (i := a1.toInt) (j := (h.1 13 1).toInt) rfl rfl (fun c2 => ?_) (fun c2 => ?_)
    · refine zQ_seq 1 (pc' := 29) (L' := [some (.ref 13), some (.int a1)]) (S' := [.int (-1000000 : Int32)]) (h' := h) zp_63 rfl ?_
      exact zQ_retI zp_63 rfl ((H.2 c1).1 c2)
    · refine zQ_seq 2 (pc' := 15) (L' := [some (.ref 13), some (.int a1)]) (S' := [.int (Int32.ofInt 120), .int a1]) (h' := h) zp_63 rfl ?_
      refine zQ_ic zp_63 rfl (t := 27) rfl (i := a1.toInt) (j := (120 : Int)) rfl kc_120 (fun c3 => ?_) (fun c3 => ?_)
      · refine zQ_seq 1 (pc' := 29) (L' := [some (.ref 13), some (.int a1)]) (S' := [.int (-1000000 : Int32)]) (h' := h) zp_63 rfl ?_
        exact zQ_retI zp_63 rfl (((H.2 c1).2 c2).1 c3)
      · refine zQ_seq 3 (pc' := 23) (L' := [some (.ref 13), some (.int a1)]) (S' := [.int a1, .ref 14]) (h' := h) zp_63 rfl ?_
        refine zQ_ial (N := 120) (f := h.1 14) zp_63 rfl rfl rfl (fun b4 b4' => ?_)
        refine zQ_goto zp_63 rfl (t := 29) rfl ?_
        exact zQ_retI zp_63 rfl ((((H.2 c1).2 c2).2 c3) b4 b4')
theorem s_64 {h : zH} {Q : Option Value → zH → Prop} (a1 : Int32) (H : zqm 65 [.ref 13, .int a1, .int a1] h (fun rv h1 => zri rv (fun v1 => Q none h1))) : zqm 64 [.ref 13, .int a1] h Q := by
  refine zqm_of zp_64 (fun n => ?_)
  show zQ n 64 0 [some (.ref 13), some (.int a1)] [] h Q
  refine zQ_seq 3 (pc' := 3) (L' := [some (.ref 13), some (.int a1)]) (S' := [.int a1, .int a1, .ref 13]) (h' := h) zp_64 rfl ?_
  refine zQ_cvI (M' := 65) (as := [.ref 13, .int a1, .int a1]) (S' := []) zp_64 rfl rfl zp_65 (Or.inl rfl) rfl rfl (zqm_imp H (fun rv h1 r1 => zri_imp r1 (fun v1 r1' => ?_)))
  refine zQ_seq 1 (pc' := 7) (L' := [some (.ref 13), some (.int a1)]) (S' := []) (h' := h1) zp_64 rfl ?_
  exact zQ_retV zp_64 rfl r1'
theorem s_65 {h : zH} {Q : Option Value → zH → Prop} (a1 : Int32) (a2 : Int32) (H : zqm 62 [.ref 13] h (fun rv h1 => zri rv (fun v1 => (((h1.1 13 3).toInt = 0 → ((v1.toInt < a1.toInt → zqm 61 [.ref 13, .int (Int32.ofInt 1)] h1 (fun _ h4 => Q (some (.int (Int32.ofInt 0))) h4)) ∧ (¬ (v1.toInt < a1.toInt) → ((v1.toInt ≤ a2.toInt → Q (some (.int (v1 - a1))) (zSet h1 13 2 ((h1.1 13 2) + (Int32.ofInt 1)))) ∧ (¬ (v1.toInt ≤ a2.toInt) → zqm 61 [.ref 13, .int (Int32.ofInt 1)] h1 (fun _ h6 => Q (some (.int (Int32.ofInt 0))) h6)))))) ∧ (¬ ((h1.1 13 3).toInt = 0) → Q (some (.int (Int32.ofInt 0))) h1))))) : zqm 65 [.ref 13, .int a1, .int a2] h Q := by
  refine zqm_of zp_65 (fun n => ?_)
  show zQ n 65 0 [some (.ref 13), some (.int a1), some (.int a2), none] [] h Q
  refine zQ_seq 1 (pc' := 1) (L' := [some (.ref 13), some (.int a1), some (.int a2), none]) (S' := [.ref 13]) (h' := h) zp_65 rfl ?_
  refine zQ_cvI (M' := 62) (as := [.ref 13]) (S' := []) zp_65 rfl rfl zp_62 (Or.inl rfl) rfl rfl (zqm_imp H (fun rv h1 r1 => zri_imp r1 (fun v1 r1' => ?_)))
  refine zQ_seq 3 (pc' := 9) (L' := [some (.ref 13), some (.int a1), some (.int a2), some (.int v1)]) (S' := [.int (h1.1 13 3)]) (h' := h1) zp_65 rfl ?_
  refine zQ_if zp_65 rfl (t := 14) rfl (i := (h1.1 13 3).toInt) rfl (fun c2 => ?_) (fun c2 => ?_)
  · refine zQ_seq 2 (pc' := 16) (L' := [some (.ref 13), some (.int a1), some (.int a2), some (.int v1)]) (S' := [.int a1, .int v1]) (h' := h1) zp_65 rfl ?_
    refine zQ_ic zp_65 rfl (t := 24) rfl (i := v1.toInt) (j := a1.toInt) rfl rfl (fun c3 => ?_) (fun c3 => ?_)
    · refine zQ_seq 2 (pc' := 26) (L' := [some (.ref 13), some (.int a1), some (.int a2), some (.int v1)]) (S' := [.int (Int32.ofInt 1), .ref 13]) (h' := h1) zp_65 rfl ?_
      refine zQ_cvV (M' := 61) (as := [.ref 13, .int (Int32.ofInt 1)]) (S' := []) zp_65 rfl rfl zp_61 rfl rfl rfl (zqm_imp ((r1'.1 c2).1 c3) (fun rv h4 r4 => ?_))
      refine zQ_seq 1 (pc' := 30) (L' := [some (.ref 13), some (.int a1), some (.int a2), some (.int v1)]) (S' := [.int (Int32.ofInt 0)]) (h' := h4) zp_65 rfl ?_
      exact zQ_retI zp_65 rfl r4
    · refine zQ_seq 2 (pc' := 21) (L' := [some (.ref 13), some (.int a1), some (.int a2), some (.int v1)]) (S' := [.int a2, .int v1]) (h' := h1) zp_65 rfl ?_
      refine zQ_ic zp_65 rfl (t := 31) rfl (i := v1.toInt) (j := a2.toInt) rfl rfl (fun c5 => ?_) (fun c5 => ?_)
      · refine zQ_seq 9 (pc' := 44) (L' := [some (.ref 13), some (.int a1), some (.int a2), some (.int v1)]) (S' := [.int (v1 - a1)]) (h' := (zSet h1 13 2 ((h1.1 13 2) + (Int32.ofInt 1)))) zp_65 rfl ?_
        exact zQ_retI zp_65 rfl (((r1'.1 c2).2 c3).1 c5)
      · refine zQ_seq 2 (pc' := 26) (L' := [some (.ref 13), some (.int a1), some (.int a2), some (.int v1)]) (S' := [.int (Int32.ofInt 1), .ref 13]) (h' := h1) zp_65 rfl ?_
        refine zQ_cvV (M' := 61) (as := [.ref 13, .int (Int32.ofInt 1)]) (S' := []) zp_65 rfl rfl zp_61 rfl rfl rfl (zqm_imp (((r1'.1 c2).2 c3).2 c5) (fun rv h6 r6 => ?_))
        refine zQ_seq 1 (pc' := 30) (L' := [some (.ref 13), some (.int a1), some (.int a2), some (.int v1)]) (S' := [.int (Int32.ofInt 0)]) (h' := h6) zp_65 rfl ?_
        exact zQ_retI zp_65 rfl r6
  · refine zQ_seq 1 (pc' := 13) (L' := [some (.ref 13), some (.int a1), some (.int a2), some (.int v1)]) (S' := [.int (Int32.ofInt 0)]) (h' := h1) zp_65 rfl ?_
    exact zQ_retI zp_65 rfl (r1'.2 c2)
theorem s_66 {h : zH} {Q : Option Value → zH → Prop} (a1 : Int32) (a2 : Int32) (H : (∀ n, (((h.1 13 3).toInt = 0 → zQ n 66 20 [some (.ref 13), some (.int a1), some (.int a2), some (.int (Int32.ofInt 0)), some (.int (Int32.ofInt 0)), some (.int (h.1 13 2))] [] h Q) ∧ (¬ ((h.1 13 3).toInt = 0) → Q (some (.int (Int32.ofInt 0))) h)))) : zqm 66 [.ref 13, .int a1, .int a2] h Q := by
  refine zqm_of zp_66 (fun n => ?_)
  have H := H n
  show zQ n 66 0 [some (.ref 13), some (.int a1), some (.int a2), none, none, none] [] h Q
  refine zQ_seq 2 (pc' := 4) (L' := [some (.ref 13), some (.int a1), some (.int a2), none, none, none]) (S' := [.int (h.1 13 3)]) (h' := h) zp_66 rfl ?_
  refine zQ_if zp_66 rfl (t := 9) rfl (i := (h.1 13 3).toInt) rfl (fun c1 => ?_) (fun c1 => ?_)
  · refine zQ_seq 7 (pc' := 20) (L' := [some (.ref 13), some (.int a1), some (.int a2), some (.int (Int32.ofInt 0)), some (.int (Int32.ofInt 0)), some (.int (h.1 13 2))]) (S' := []) (h' := h) zp_66 rfl ?_
    exact (H.1 c1)
  · refine zQ_seq 1 (pc' := 8) (L' := [some (.ref 13), some (.int a1), some (.int a2), none, none, none]) (S' := [.int (Int32.ofInt 0)]) (h' := h) zp_66 rfl ?_
    exact zQ_retI zp_66 rfl (H.2 c1)
theorem s_66_20 {n : Nat} {h : zH} {Q : Option Value → zH → Prop} (x1 : Int32) (x2 : Int32) (x3 : Int32) (x4 : Int32) (x5 : Int32) (H : (((h.1 13 1).toInt ≤ x5.toInt → ((x3.toInt = 0 → zqm 61 [.ref 13, .int (Int32.ofInt 1)] h (fun _ h3 => Q (some (.int (Int32.ofInt 0))) h3)) ∧ (¬ (x3.toInt = 0) → ((x3.toInt ≤ (2 : Int) → ((x4.toInt < x1.toInt → zqm 61 [.ref 13, .int (Int32.ofInt 2)] h (fun _ h6 => Q (some (.int (Int32.ofInt 0))) h6)) ∧ (¬ (x4.toInt < x1.toInt) → ((x4.toInt ≤ x2.toInt → Q (some (.int x4)) (zSet h 13 2 ((h.1 13 2) + x3))) ∧ (¬ (x4.toInt ≤ x2.toInt) → zqm 61 [.ref 13, .int (Int32.ofInt 2)] h (fun _ h8 => Q (some (.int (Int32.ofInt 0))) h8)))))) ∧ (¬ (x3.toInt ≤ (2 : Int)) → zqm 61 [.ref 13, .int (Int32.ofInt 1)] h (fun _ h9 => Q (some (.int (Int32.ofInt 0))) h9)))))) ∧ (¬ ((h.1 13 1).toInt ≤ x5.toInt) → zqm 63 [.ref 13, .int x5] h (fun rv h10 => zri rv (fun v10 => zqm 67 [.int v10] h10 (fun rv h11 => zri rv (fun v11 => ((v11.toInt = 0 → ((x3.toInt = 0 → zqm 61 [.ref 13, .int (Int32.ofInt 1)] h11 (fun _ h14 => Q (some (.int (Int32.ofInt 0))) h14)) ∧ (¬ (x3.toInt = 0) → ((x3.toInt ≤ (2 : Int) → ((x4.toInt < x1.toInt → zqm 61 [.ref 13, .int (Int32.ofInt 2)] h11 (fun _ h17 => Q (some (.int (Int32.ofInt 0))) h17)) ∧ (¬ (x4.toInt < x1.toInt) → ((x4.toInt ≤ x2.toInt → Q (some (.int x4)) (zSet h11 13 2 ((h11.1 13 2) + x3))) ∧ (¬ (x4.toInt ≤ x2.toInt) → zqm 61 [.ref 13, .int (Int32.ofInt 2)] h11 (fun _ h19 => Q (some (.int (Int32.ofInt 0))) h19)))))) ∧ (¬ (x3.toInt ≤ (2 : Int)) → zqm 61 [.ref 13, .int (Int32.ofInt 1)] h11 (fun _ h20 => Q (some (.int (Int32.ofInt 0))) h20)))))) ∧ (¬ (v11.toInt = 0) → (((2 : Int) ≤ x3.toInt → zQ n 66 20 [some (.ref 13), some (.int x1), some (.int x2), some (.int (x3 + Int32.ofInt 1)), some (.int x4), some (.int (x5 + Int32.ofInt 1))] [] h11 Q) ∧ (¬ ((2 : Int) ≤ x3.toInt) → zqm 63 [.ref 13, .int x5] h11 (fun rv h22 => zri rv (fun v22 => zQ n 66 20 [some (.ref 13), some (.int x1), some (.int x2), some (.int (x3 + Int32.ofInt 1)), some (.int ((((Int32.ofInt 10) * x4) + v22) - (Int32.ofInt 48))), some (.int (x5 + Int32.ofInt 1))] [] h22 Q))))))))))))) : zQ (n + 1) 66 20 [some (.ref 13), some (.int x1), some (.int x2), some (.int x3), some (.int x4), some (.int x5)] [] h Q := by
  refine zQ_seqL 2 (pc' := 26) (L' := [some (.ref 13), some (.int x1), some (.int x2), some (.int x3), some (.int x4), some (.int x5)]) (S' := [.int (h.1 13 1), .int x5]) (h' := h) zp_66 rfl ?_
  refine zQ_ic zp_66 rfl (t := 77) rfl (i := x5.toInt) (j := (h.1 13 1).toInt) rfl rfl (fun c1 => ?_) (fun c1 => ?_)
  · refine zQ_seq 1 (pc' := 78) (L' := [some (.ref 13), some (.int x1), some (.int x2), some (.int x3), some (.int x4), some (.int x5)]) (S' := [.int x3]) (h' := h) zp_66 rfl ?_
    refine zQ_if zp_66 rfl (t := 86) rfl (i := x3.toInt) rfl (fun c2 => ?_) (fun c2 => ?_)
    · refine zQ_seq 2 (pc' := 88) (L' := [some (.ref 13), some (.int x1), some (.int x2), some (.int x3), some (.int x4), some (.int x5)]) (S' := [.int (Int32.ofInt 1), .ref 13]) (h' := h) zp_66 rfl ?_
      refine zQ_cvV (M' := 61) (as := [.ref 13, .int (Int32.ofInt 1)]) (S' := []) zp_66 rfl rfl zp_61 rfl rfl rfl (zqm_imp ((H.1 c1).1 c2) (fun rv h3 r3 => ?_))
      refine zQ_seq 1 (pc' := 92) (L' := [some (.ref 13), some (.int x1), some (.int x2), some (.int x3), some (.int x4), some (.int x5)]) (S' := [.int (Int32.ofInt 0)]) (h' := h3) zp_66 rfl ?_
      exact zQ_retI zp_66 rfl r3
    · refine zQ_seq 2 (pc' := 83) (L' := [some (.ref 13), some (.int x1), some (.int x2), some (.int x3), some (.int x4), some (.int x5)]) (S' := [.int (Int32.ofInt 2), .int x3]) (h' := h) zp_66 rfl ?_
      refine zQ_ic zp_66 rfl (t := 93) rfl (i := x3.toInt) (j := (2 : Int)) rfl kc_2 (fun c4 => ?_) (fun c4 => ?_)
      · refine zQ_seq 2 (pc' := 96) (L' := [some (.ref 13), some (.int x1), some (.int x2), some (.int x3), some (.int x4), some (.int x5)]) (S' := [.int x1, .int x4]) (h' := h) zp_66 rfl ?_
        refine zQ_ic zp_66 rfl (t := 105) rfl (i := x4.toInt) (j := x1.toInt) rfl rfl (fun c5 => ?_) (fun c5 => ?_)
        · refine zQ_seq 2 (pc' := 107) (L' := [some (.ref 13), some (.int x1), some (.int x2), some (.int x3), some (.int x4), some (.int x5)]) (S' := [.int (Int32.ofInt 2), .ref 13]) (h' := h) zp_66 rfl ?_
          refine zQ_cvV (M' := 61) (as := [.ref 13, .int (Int32.ofInt 2)]) (S' := []) zp_66 rfl rfl zp_61 rfl rfl rfl (zqm_imp ((((H.1 c1).2 c2).1 c4).1 c5) (fun rv h6 r6 => ?_))
          refine zQ_seq 1 (pc' := 111) (L' := [some (.ref 13), some (.int x1), some (.int x2), some (.int x3), some (.int x4), some (.int x5)]) (S' := [.int (Int32.ofInt 0)]) (h' := h6) zp_66 rfl ?_
          exact zQ_retI zp_66 rfl r6
        · refine zQ_seq 2 (pc' := 102) (L' := [some (.ref 13), some (.int x1), some (.int x2), some (.int x3), some (.int x4), some (.int x5)]) (S' := [.int x2, .int x4]) (h' := h) zp_66 rfl ?_
          refine zQ_ic zp_66 rfl (t := 112) rfl (i := x4.toInt) (j := x2.toInt) rfl rfl (fun c7 => ?_) (fun c7 => ?_)
          · refine zQ_seq 7 (pc' := 124) (L' := [some (.ref 13), some (.int x1), some (.int x2), some (.int x3), some (.int x4), some (.int x5)]) (S' := [.int x4]) (h' := (zSet h 13 2 ((h.1 13 2) + x3))) zp_66 rfl ?_
            exact zQ_retI zp_66 rfl (((((H.1 c1).2 c2).1 c4).2 c5).1 c7)
          · refine zQ_seq 2 (pc' := 107) (L' := [some (.ref 13), some (.int x1), some (.int x2), some (.int x3), some (.int x4), some (.int x5)]) (S' := [.int (Int32.ofInt 2), .ref 13]) (h' := h) zp_66 rfl ?_
            refine zQ_cvV (M' := 61) (as := [.ref 13, .int (Int32.ofInt 2)]) (S' := []) zp_66 rfl rfl zp_61 rfl rfl rfl (zqm_imp (((((H.1 c1).2 c2).1 c4).2 c5).2 c7) (fun rv h8 r8 => ?_))
            refine zQ_seq 1 (pc' := 111) (L' := [some (.ref 13), some (.int x1), some (.int x2), some (.int x3), some (.int x4), some (.int x5)]) (S' := [.int (Int32.ofInt 0)]) (h' := h8) zp_66 rfl ?_
            exact zQ_retI zp_66 rfl r8
      · refine zQ_seq 2 (pc' := 88) (L' := [some (.ref 13), some (.int x1), some (.int x2), some (.int x3), some (.int x4), some (.int x5)]) (S' := [.int (Int32.ofInt 1), .ref 13]) (h' := h) zp_66 rfl ?_
        refine zQ_cvV (M' := 61) (as := [.ref 13, .int (Int32.ofInt 1)]) (S' := []) zp_66 rfl rfl zp_61 rfl rfl rfl (zqm_imp (((H.1 c1).2 c2).2 c4) (fun rv h9 r9 => ?_))
        refine zQ_seq 1 (pc' := 92) (L' := [some (.ref 13), some (.int x1), some (.int x2), some (.int x3), some (.int x4), some (.int x5)]) (S' := [.int (Int32.ofInt 0)]) (h' := h9) zp_66 rfl ?_
        exact zQ_retI zp_66 rfl r9
  · refine zQ_seq 2 (pc' := 32) (L' := [some (.ref 13), some (.int x1), some (.int x2), some (.int x3), some (.int x4), some (.int x5)]) (S' := [.int x5, .ref 13]) (h' := h) zp_66 rfl ?_
    refine zQ_cvI (M' := 63) (as := [.ref 13, .int x5]) (S' := []) zp_66 rfl rfl zp_63 (Or.inl rfl) rfl rfl (zqm_imp (H.2 c1) (fun rv h10 r10 => zri_imp r10 (fun v10 r10' => ?_)))
    refine zQ_csI (M' := 67) (as := [.int v10]) (S' := []) zp_66 rfl rfl rfl zp_67 (Or.inr rfl) rfl rfl (zqm_imp r10' (fun rv h11 r11 => zri_imp r11 (fun v11 r11' => ?_)))
    refine zQ_if zp_66 rfl (t := 77) rfl (i := v11.toInt) rfl (fun c12 => ?_) (fun c12 => ?_)
    · refine zQ_seq 1 (pc' := 78) (L' := [some (.ref 13), some (.int x1), some (.int x2), some (.int x3), some (.int x4), some (.int x5)]) (S' := [.int x3]) (h' := h11) zp_66 rfl ?_
      refine zQ_if zp_66 rfl (t := 86) rfl (i := x3.toInt) rfl (fun c13 => ?_) (fun c13 => ?_)
      · refine zQ_seq 2 (pc' := 88) (L' := [some (.ref 13), some (.int x1), some (.int x2), some (.int x3), some (.int x4), some (.int x5)]) (S' := [.int (Int32.ofInt 1), .ref 13]) (h' := h11) zp_66 rfl ?_
        refine zQ_cvV (M' := 61) (as := [.ref 13, .int (Int32.ofInt 1)]) (S' := []) zp_66 rfl rfl zp_61 rfl rfl rfl (zqm_imp ((r11'.1 c12).1 c13) (fun rv h14 r14 => ?_))
        refine zQ_seq 1 (pc' := 92) (L' := [some (.ref 13), some (.int x1), some (.int x2), some (.int x3), some (.int x4), some (.int x5)]) (S' := [.int (Int32.ofInt 0)]) (h' := h14) zp_66 rfl ?_
        exact zQ_retI zp_66 rfl r14
      · refine zQ_seq 2 (pc' := 83) (L' := [some (.ref 13), some (.int x1), some (.int x2), some (.int x3), some (.int x4), some (.int x5)]) (S' := [.int (Int32.ofInt 2), .int x3]) (h' := h11) zp_66 rfl ?_
        refine zQ_ic zp_66 rfl (t := 93) rfl (i := x3.toInt) (j := (2 : Int)) rfl kc_2 (fun c15 => ?_) (fun c15 => ?_)
        · refine zQ_seq 2 (pc' := 96) (L' := [some (.ref 13), some (.int x1), some (.int x2), some (.int x3), some (.int x4), some (.int x5)]) (S' := [.int x1, .int x4]) (h' := h11) zp_66 rfl ?_
          refine zQ_ic zp_66 rfl (t := 105) rfl (i := x4.toInt) (j := x1.toInt) rfl rfl (fun c16 => ?_) (fun c16 => ?_)
          · refine zQ_seq 2 (pc' := 107) (L' := [some (.ref 13), some (.int x1), some (.int x2), some (.int x3), some (.int x4), some (.int x5)]) (S' := [.int (Int32.ofInt 2), .ref 13]) (h' := h11) zp_66 rfl ?_
            refine zQ_cvV (M' := 61) (as := [.ref 13, .int (Int32.ofInt 2)]) (S' := []) zp_66 rfl rfl zp_61 rfl rfl rfl (zqm_imp ((((r11'.1 c12).2 c13).1 c15).1 c16) (fun rv h17 r17 => ?_))
            refine zQ_seq 1 (pc' := 111) (L' := [some (.ref 13), some (.int x1), some (.int x2), some (.int x3), some (.int x4), some (.int x5)]) (S' := [.int (Int32.ofInt 0)]) (h' := h17) zp_66 rfl ?_
            exact zQ_retI zp_66 rfl r17
          · refine zQ_seq 2 (pc' := 102) (L' := [some (.ref 13), some (.int x1), some (.int x2), some (.int x3), some (.int x4), some (.int x5)]) (S' := [.int x2, .int x4]) (h' := h11) zp_66 rfl ?_
            refine zQ_ic zp_66 rfl (t := 112) rfl (i := x4.toInt) (j := x2.toInt) rfl rfl (fun c18 => ?_) (fun c18 => ?_)
            · refine zQ_seq 7 (pc' := 124) (L' := [some (.ref 13), some (.int x1), some (.int x2), some (.int x3), some (.int x4), some (.int x5)]) (S' := [.int x4]) (h' := (zSet h11 13 2 ((h11.1 13 2) + x3))) zp_66 rfl ?_
              exact zQ_retI zp_66 rfl (((((r11'.1 c12).2 c13).1 c15).2 c16).1 c18)
            · refine zQ_seq 2 (pc' := 107) (L' := [some (.ref 13), some (.int x1), some (.int x2), some (.int x3), some (.int x4), some (.int x5)]) (S' := [.int (Int32.ofInt 2), .ref 13]) (h' := h11) zp_66 rfl ?_
              refine zQ_cvV (M' := 61) (as := [.ref 13, .int (Int32.ofInt 2)]) (S' := []) zp_66 rfl rfl zp_61 rfl rfl rfl (zqm_imp (((((r11'.1 c12).2 c13).1 c15).2 c16).2 c18) (fun rv h19 r19 => ?_))
              refine zQ_seq 1 (pc' := 111) (L' := [some (.ref 13), some (.int x1), some (.int x2), some (.int x3), some (.int x4), some (.int x5)]) (S' := [.int (Int32.ofInt 0)]) (h' := h19) zp_66 rfl ?_
              exact zQ_retI zp_66 rfl r19
        · refine zQ_seq 2 (pc' := 88) (L' := [some (.ref 13), some (.int x1), some (.int x2), some (.int x3), some (.int x4), some (.int x5)]) (S' := [.int (Int32.ofInt 1), .ref 13]) (h' := h11) zp_66 rfl ?_
          refine zQ_cvV (M' := 61) (as := [.ref 13, .int (Int32.ofInt 1)]) (S' := []) zp_66 rfl rfl zp_61 rfl rfl rfl (zqm_imp (((r11'.1 c12).2 c13).2 c15) (fun rv h20 r20 => ?_))
          refine zQ_seq 1 (pc' := 92) (L' := [some (.ref 13), some (.int x1), some (.int x2), some (.int x3), some (.int x4), some (.int x5)]) (S' := [.int (Int32.ofInt 0)]) (h' := h20) zp_66 rfl ?_
          exact zQ_retI zp_66 rfl r20
    · refine zQ_seq 2 (pc' := 43) (L' := [some (.ref 13), some (.int x1), some (.int x2), some (.int x3), some (.int x4), some (.int x5)]) (S' := [.int (Int32.ofInt 2), .int x3]) (h' := h11) zp_66 rfl ?_
      refine zQ_ic zp_66 rfl (t := 64) rfl (i := x3.toInt) (j := (2 : Int)) rfl kc_2 (fun c21 => ?_) (fun c21 => ?_)
      · refine zQ_seq 4 (pc' := 74) (L' := [some (.ref 13), some (.int x1), some (.int x2), some (.int (x3 + Int32.ofInt 1)), some (.int x4), some (.int (x5 + Int32.ofInt 1))]) (S' := []) (h' := h11) zp_66 rfl ?_
        refine zQ_goto zp_66 rfl (t := 20) rfl ?_
        exact ((r11'.2 c12).1 c21)
      · refine zQ_seq 5 (pc' := 54) (L' := [some (.ref 13), some (.int x1), some (.int x2), some (.int x3), some (.int x4), some (.int x5)]) (S' := [.int x5, .ref 13, .int ((Int32.ofInt 10) * x4)]) (h' := h11) zp_66 rfl ?_
        refine zQ_cvI (M' := 63) (as := [.ref 13, .int x5]) (S' := [.int ((Int32.ofInt 10) * x4)]) zp_66 rfl rfl zp_63 (Or.inl rfl) rfl rfl (zqm_imp ((r11'.2 c12).2 c21) (fun rv h22 r22 => zri_imp r22 (fun v22 r22' => ?_)))
        refine zQ_seq 3 (pc' := 61) (L' := [some (.ref 13), some (.int x1), some (.int x2), some (.int x3), some (.int x4), some (.int x5)]) (S' := [.int ((((Int32.ofInt 10) * x4) + v22) - (Int32.ofInt 48))]) (h' := h22) zp_66 rfl ?_
        refine zQ_goto zp_66 rfl (t := 66) rfl ?_
        refine zQ_seq 3 (pc' := 74) (L' := [some (.ref 13), some (.int x1), some (.int x2), some (.int (x3 + Int32.ofInt 1)), some (.int ((((Int32.ofInt 10) * x4) + v22) - (Int32.ofInt 48))), some (.int (x5 + Int32.ofInt 1))]) (S' := []) (h' := h22) zp_66 rfl ?_
        refine zQ_goto zp_66 rfl (t := 20) rfl ?_
        exact r22'
theorem s_67 {h : zH} {Q : Option Value → zH → Prop} (a0 : Int32) (H : ((a0.toInt < (48 : Int) → Q (some (.int (Int32.ofInt 0))) h) ∧ (¬ (a0.toInt < (48 : Int)) → (((57 : Int) < a0.toInt → Q (some (.int (Int32.ofInt 0))) h) ∧ (¬ ((57 : Int) < a0.toInt) → Q (some (.int (Int32.ofInt 1))) h))))) : zqm 67 [.int a0] h Q := by
  refine zqm_of zp_67 (fun n => ?_)
  show zQ n 67 0 [some (.int a0)] [] h Q
  refine zQ_seq 2 (pc' := 3) (L' := [some (.int a0)]) (S' := [.int (Int32.ofInt 48), .int a0]) (h' := h) zp_67 rfl ?_
  refine zQ_ic zp_67 rfl (t := 16) rfl (i := a0.toInt) (j := (48 : Int)) rfl kc_48 (fun c1 => ?_) (fun c1 => ?_)
  · refine zQ_seq 1 (pc' := 17) (L' := [some (.int a0)]) (S' := [.int (Int32.ofInt 0)]) (h' := h) zp_67 rfl ?_
    exact zQ_retI zp_67 rfl (H.1 c1)
  · refine zQ_seq 2 (pc' := 9) (L' := [some (.int a0)]) (S' := [.int (Int32.ofInt 57), .int a0]) (h' := h) zp_67 rfl ?_
    refine zQ_ic zp_67 rfl (t := 16) rfl (i := a0.toInt) (j := (57 : Int)) rfl kc_57 (fun c2 => ?_) (fun c2 => ?_)
    · refine zQ_seq 1 (pc' := 17) (L' := [some (.int a0)]) (S' := [.int (Int32.ofInt 0)]) (h' := h) zp_67 rfl ?_
      exact zQ_retI zp_67 rfl ((H.2 c1).1 c2)
    · refine zQ_seq 1 (pc' := 13) (L' := [some (.int a0)]) (S' := [.int (Int32.ofInt 1)]) (h' := h) zp_67 rfl ?_
      refine zQ_goto zp_67 rfl (t := 17) rfl ?_
      exact zQ_retI zp_67 rfl ((H.2 c1).2 c2)
theorem s_68 {h : zH} {Q : Option Value → zH → Prop} (a0 : Int32) (H : ((a0.toInt < 0 → Q (some (.int (Int32.ofInt 0))) h) ∧ (¬ (a0.toInt < 0) → (((8 : Int) ≤ a0.toInt → Q (some (.int (Int32.ofInt 0))) h) ∧ (¬ ((8 : Int) ≤ a0.toInt) → Q (some (.int (Int32.ofInt 1))) h))))) : zqm 68 [.int a0] h Q := by
  refine zqm_of zp_68 (fun n => ?_)
  show zQ n 68 0 [some (.int a0)] [] h Q
  refine zQ_seq 1 (pc' := 1) (L' := [some (.int a0)]) (S' := [.int a0]) (h' := h) zp_68 rfl ?_
  refine zQ_if zp_68 rfl (t := 14) rfl (i := a0.toInt) rfl (fun c1 => ?_) (fun c1 => ?_)
  · refine zQ_seq 1 (pc' := 15) (L' := [some (.int a0)]) (S' := [.int (Int32.ofInt 0)]) (h' := h) zp_68 rfl ?_
    exact zQ_retI zp_68 rfl (H.1 c1)
  · refine zQ_seq 2 (pc' := 7) (L' := [some (.int a0)]) (S' := [.int (Int32.ofInt 8), .int a0]) (h' := h) zp_68 rfl ?_
    refine zQ_ic zp_68 rfl (t := 14) rfl (i := a0.toInt) (j := (8 : Int)) rfl kc_8 (fun c2 => ?_) (fun c2 => ?_)
    · refine zQ_seq 1 (pc' := 15) (L' := [some (.int a0)]) (S' := [.int (Int32.ofInt 0)]) (h' := h) zp_68 rfl ?_
      exact zQ_retI zp_68 rfl ((H.2 c1).1 c2)
    · refine zQ_seq 1 (pc' := 11) (L' := [some (.int a0)]) (S' := [.int (Int32.ofInt 1)]) (h' := h) zp_68 rfl ?_
      refine zQ_goto zp_68 rfl (t := 15) rfl ?_
      exact zQ_retI zp_68 rfl ((H.2 c1).2 c2)
theorem s_69 {h : zH} {Q : Option Value → zH → Prop} (a0 : Int32) (H : ((a0.toInt < 0 → Q (some (.int (Int32.ofInt 0))) h) ∧ (¬ (a0.toInt < 0) → (((3 : Int) ≤ a0.toInt → Q (some (.int (Int32.ofInt 0))) h) ∧ (¬ ((3 : Int) ≤ a0.toInt) → Q (some (.int (Int32.ofInt 1))) h))))) : zqm 69 [.int a0] h Q := by
  refine zqm_of zp_69 (fun n => ?_)
  show zQ n 69 0 [some (.int a0)] [] h Q
  refine zQ_seq 1 (pc' := 1) (L' := [some (.int a0)]) (S' := [.int a0]) (h' := h) zp_69 rfl ?_
  refine zQ_if zp_69 rfl (t := 13) rfl (i := a0.toInt) rfl (fun c1 => ?_) (fun c1 => ?_)
  · refine zQ_seq 1 (pc' := 14) (L' := [some (.int a0)]) (S' := [.int (Int32.ofInt 0)]) (h' := h) zp_69 rfl ?_
    exact zQ_retI zp_69 rfl (H.1 c1)
  · refine zQ_seq 2 (pc' := 6) (L' := [some (.int a0)]) (S' := [.int (Int32.ofInt 3), .int a0]) (h' := h) zp_69 rfl ?_
    refine zQ_ic zp_69 rfl (t := 13) rfl (i := a0.toInt) (j := (3 : Int)) rfl kc_3 (fun c2 => ?_) (fun c2 => ?_)
    · refine zQ_seq 1 (pc' := 14) (L' := [some (.int a0)]) (S' := [.int (Int32.ofInt 0)]) (h' := h) zp_69 rfl ?_
      exact zQ_retI zp_69 rfl ((H.2 c1).1 c2)
    · refine zQ_seq 1 (pc' := 10) (L' := [some (.int a0)]) (S' := [.int (Int32.ofInt 1)]) (h' := h) zp_69 rfl ?_
      refine zQ_goto zp_69 rfl (t := 14) rfl ?_
      exact zQ_retI zp_69 rfl ((H.2 c1).2 c2)
theorem s_70 {h : zH} {Q : Option Value → zH → Prop} (a1 : Int32) (H : zqm 68 [.int a1] h (fun rv h1 => zri rv (fun v1 => ((v1.toInt = 0 → Q (some (.int (Int32.ofInt 1))) h1) ∧ (¬ (v1.toInt = 0) → (0 ≤ a1.toInt → a1.toInt < 8 → ((0 ≤ (h1.1 12 a1.toInt.toNat).toInt → Q (some (.int (Int32.ofInt 0))) h1) ∧ (¬ (0 ≤ (h1.1 12 a1.toInt.toNat).toInt) → Q (some (.int (Int32.ofInt 1))) h1)))))))) : zqm 70 [.ref 1, .int a1] h Q := by
  refine zqm_of zp_70 (fun n => ?_)
  show zQ n 70 0 [some (.ref 1), some (.int a1)] [] h Q
  refine zQ_seq 1 (pc' := 1) (L' := [some (.ref 1), some (.int a1)]) (S' := [.int a1]) (h' := h) zp_70 rfl ?_
  refine zQ_csI (M' := 68) (as := [.int a1]) (S' := []) zp_70 rfl rfl rfl zp_68 (Or.inr rfl) rfl rfl (zqm_imp H (fun rv h1 r1 => zri_imp r1 (fun v1 r1' => ?_)))
  refine zQ_if zp_70 rfl (t := 16) rfl (i := v1.toInt) rfl (fun c2 => ?_) (fun c2 => ?_)
  · refine zQ_seq 1 (pc' := 17) (L' := [some (.ref 1), some (.int a1)]) (S' := [.int (Int32.ofInt 1)]) (h' := h1) zp_70 rfl ?_
    refine zQ_goto zp_70 rfl (t := 21) rfl ?_
    exact zQ_retI zp_70 rfl (r1'.1 c2)
  · refine zQ_seq 3 (pc' := 12) (L' := [some (.ref 1), some (.int a1)]) (S' := [.int a1, .ref 12]) (h' := h1) zp_70 rfl ?_
    refine zQ_ial (N := 8) (f := h1.1 12) zp_70 rfl rfl rfl (fun b3 b3' => ?_)
    refine zQ_if zp_70 rfl (t := 20) rfl (i := (h1.1 12 a1.toInt.toNat).toInt) rfl (fun c4 => ?_) (fun c4 => ?_)
    · refine zQ_seq 1 (pc' := 21) (L' := [some (.ref 1), some (.int a1)]) (S' := [.int (Int32.ofInt 0)]) (h' := h1) zp_70 rfl ?_
      exact zQ_retI zp_70 rfl (((r1'.2 c2) b3 b3').1 c4)
    · refine zQ_seq 1 (pc' := 17) (L' := [some (.ref 1), some (.int a1)]) (S' := [.int (Int32.ofInt 1)]) (h' := h1) zp_70 rfl ?_
      refine zQ_goto zp_70 rfl (t := 21) rfl ?_
      exact zQ_retI zp_70 rfl (((r1'.2 c2) b3 b3').2 c4)
theorem s_71 {h : zH} {Q : Option Value → zH → Prop} (a1 : Int32) (a2 : Int32) (a3 : Int32) (H : zqm 68 [.int a1] h (fun rv h1 => zri rv (fun v1 => ((v1.toInt = 0 → Q (some (.int (Int32.ofInt 0))) h1) ∧ (¬ (v1.toInt = 0) → ((a2.toInt < 0 → Q (some (.int (Int32.ofInt 0))) h1) ∧ (¬ (a2.toInt < 0) → ((a3.toInt < 0 → Q (some (.int (Int32.ofInt 0))) h1) ∧ (¬ (a3.toInt < 0) → (0 ≤ a1.toInt → a1.toInt < 8 → (((h1.1 12 a1.toInt.toNat).toInt < a2.toInt → Q (some (.int (Int32.ofInt 0))) h1) ∧ (¬ ((h1.1 12 a1.toInt.toNat).toInt < a2.toInt) → (0 ≤ a1.toInt → a1.toInt < 8 → ((((h1.1 12 a1.toInt.toNat) - a2).toInt < a3.toInt → Q (some (.int (Int32.ofInt 0))) h1) ∧ (¬ (((h1.1 12 a1.toInt.toNat) - a2).toInt < a3.toInt) → Q (some (.int (Int32.ofInt 1))) h1))))))))))))))) : zqm 71 [.ref 1, .int a1, .int a2, .int a3] h Q := by
  refine zqm_of zp_71 (fun n => ?_)
  show zQ n 71 0 [some (.ref 1), some (.int a1), some (.int a2), some (.int a3)] [] h Q
  refine zQ_seq 1 (pc' := 1) (L' := [some (.ref 1), some (.int a1), some (.int a2), some (.int a3)]) (S' := [.int a1]) (h' := h) zp_71 rfl ?_
  refine zQ_csI (M' := 68) (as := [.int a1]) (S' := []) zp_71 rfl rfl rfl zp_68 (Or.inr rfl) rfl rfl (zqm_imp H (fun rv h1 r1 => zri_imp r1 (fun v1 r1' => ?_)))
  refine zQ_if zp_71 rfl (t := 41) rfl (i := v1.toInt) rfl (fun c2 => ?_) (fun c2 => ?_)
  · refine zQ_seq 1 (pc' := 42) (L' := [some (.ref 1), some (.int a1), some (.int a2), some (.int a3)]) (S' := [.int (Int32.ofInt 0)]) (h' := h1) zp_71 rfl ?_
    exact zQ_retI zp_71 rfl (r1'.1 c2)
  · refine zQ_seq 1 (pc' := 8) (L' := [some (.ref 1), some (.int a1), some (.int a2), some (.int a3)]) (S' := [.int a2]) (h' := h1) zp_71 rfl ?_
    refine zQ_if zp_71 rfl (t := 41) rfl (i := a2.toInt) rfl (fun c3 => ?_) (fun c3 => ?_)
    · refine zQ_seq 1 (pc' := 42) (L' := [some (.ref 1), some (.int a1), some (.int a2), some (.int a3)]) (S' := [.int (Int32.ofInt 0)]) (h' := h1) zp_71 rfl ?_
      exact zQ_retI zp_71 rfl ((r1'.2 c2).1 c3)
    · refine zQ_seq 1 (pc' := 12) (L' := [some (.ref 1), some (.int a1), some (.int a2), some (.int a3)]) (S' := [.int a3]) (h' := h1) zp_71 rfl ?_
      refine zQ_if zp_71 rfl (t := 41) rfl (i := a3.toInt) rfl (fun c4 => ?_) (fun c4 => ?_)
      · refine zQ_seq 1 (pc' := 42) (L' := [some (.ref 1), some (.int a1), some (.int a2), some (.int a3)]) (S' := [.int (Int32.ofInt 0)]) (h' := h1) zp_71 rfl ?_
        exact zQ_retI zp_71 rfl (((r1'.2 c2).2 c3).1 c4)
      · refine zQ_seq 4 (pc' := 21) (L' := [some (.ref 1), some (.int a1), some (.int a2), some (.int a3)]) (S' := [.int a1, .ref 12, .int a2]) (h' := h1) zp_71 rfl ?_
        refine zQ_ial (N := 8) (f := h1.1 12) zp_71 rfl rfl rfl (fun b5 b5' => ?_)
        refine zQ_ic zp_71 rfl (t := 41) rfl (i := a2.toInt) (j := (h1.1 12 a1.toInt.toNat).toInt) rfl rfl (fun c6 => ?_) (fun c6 => ?_)
        · refine zQ_seq 1 (pc' := 42) (L' := [some (.ref 1), some (.int a1), some (.int a2), some (.int a3)]) (S' := [.int (Int32.ofInt 0)]) (h' := h1) zp_71 rfl ?_
          exact zQ_retI zp_71 rfl (((((r1'.2 c2).2 c3).2 c4) b5 b5').1 c6)
        · refine zQ_seq 4 (pc' := 31) (L' := [some (.ref 1), some (.int a1), some (.int a2), some (.int a3)]) (S' := [.int a1, .ref 12, .int a3]) (h' := h1) zp_71 rfl ?_
          refine zQ_ial (N := 8) (f := h1.1 12) zp_71 rfl rfl rfl (fun b7 b7' => ?_)
          refine zQ_seq 2 (pc' := 34) (L' := [some (.ref 1), some (.int a1), some (.int a2), some (.int a3)]) (S' := [.int ((h1.1 12 a1.toInt.toNat) - a2), .int a3]) (h' := h1) zp_71 rfl ?_
          refine zQ_ic zp_71 rfl (t := 41) rfl (i := a3.toInt) (j := ((h1.1 12 a1.toInt.toNat) - a2).toInt) rfl rfl (fun c8 => ?_) (fun c8 => ?_)
          · refine zQ_seq 1 (pc' := 42) (L' := [some (.ref 1), some (.int a1), some (.int a2), some (.int a3)]) (S' := [.int (Int32.ofInt 0)]) (h' := h1) zp_71 rfl ?_
            exact zQ_retI zp_71 rfl (((((((r1'.2 c2).2 c3).2 c4) b5 b5').2 c6) b7 b7').1 c8)
          · refine zQ_seq 1 (pc' := 38) (L' := [some (.ref 1), some (.int a1), some (.int a2), some (.int a3)]) (S' := [.int (Int32.ofInt 1)]) (h' := h1) zp_71 rfl ?_
            refine zQ_goto zp_71 rfl (t := 42) rfl ?_
            exact zQ_retI zp_71 rfl (((((((r1'.2 c2).2 c3).2 c4) b5 b5').2 c6) b7 b7').2 c8)
theorem s_72 {h : zH} {Q : Option Value → zH → Prop} (a1 : Int32) (a2 : Int32) (H : zqm 68 [.int a1] h (fun rv h1 => zri rv (fun v1 => ((v1.toInt = 0 → Q (some (.int (Int32.ofInt 0))) h1) ∧ (¬ (v1.toInt = 0) → zqm 68 [.int a2] h1 (fun rv h3 => zri rv (fun v3 => ((v3.toInt = 0 → Q (some (.int (Int32.ofInt 0))) h3) ∧ (¬ (v3.toInt = 0) → (0 ≤ a1.toInt → a1.toInt < 8 → (0 ≤ a2.toInt → a2.toInt < 8 → ((¬ (h3.1 11 a1.toInt.toNat).toInt = (h3.1 11 a2.toInt.toNat).toInt → Q (some (.int (Int32.ofInt 0))) h3) ∧ (¬ (¬ (h3.1 11 a1.toInt.toNat).toInt = (h3.1 11 a2.toInt.toNat).toInt) → Q (some (.int (Int32.ofInt 1))) h3))))))))))))) : zqm 72 [.ref 1, .int a1, .int a2] h Q := by
  refine zqm_of zp_72 (fun n => ?_)
  show zQ n 72 0 [some (.ref 1), some (.int a1), some (.int a2)] [] h Q
  refine zQ_seq 1 (pc' := 1) (L' := [some (.ref 1), some (.int a1), some (.int a2)]) (S' := [.int a1]) (h' := h) zp_72 rfl ?_
  refine zQ_csI (M' := 68) (as := [.int a1]) (S' := []) zp_72 rfl rfl rfl zp_68 (Or.inr rfl) rfl rfl (zqm_imp H (fun rv h1 r1 => zri_imp r1 (fun v1 r1' => ?_)))
  refine zQ_if zp_72 rfl (t := 33) rfl (i := v1.toInt) rfl (fun c2 => ?_) (fun c2 => ?_)
  · refine zQ_seq 1 (pc' := 34) (L' := [some (.ref 1), some (.int a1), some (.int a2)]) (S' := [.int (Int32.ofInt 0)]) (h' := h1) zp_72 rfl ?_
    exact zQ_retI zp_72 rfl (r1'.1 c2)
  · refine zQ_seq 1 (pc' := 8) (L' := [some (.ref 1), some (.int a1), some (.int a2)]) (S' := [.int a2]) (h' := h1) zp_72 rfl ?_
    refine zQ_csI (M' := 68) (as := [.int a2]) (S' := []) zp_72 rfl rfl rfl zp_68 (Or.inr rfl) rfl rfl (zqm_imp (r1'.2 c2) (fun rv h3 r3 => zri_imp r3 (fun v3 r3' => ?_)))
    refine zQ_if zp_72 rfl (t := 33) rfl (i := v3.toInt) rfl (fun c4 => ?_) (fun c4 => ?_)
    · refine zQ_seq 1 (pc' := 34) (L' := [some (.ref 1), some (.int a1), some (.int a2)]) (S' := [.int (Int32.ofInt 0)]) (h' := h3) zp_72 rfl ?_
      exact zQ_retI zp_72 rfl (r3'.1 c4)
    · refine zQ_seq 3 (pc' := 19) (L' := [some (.ref 1), some (.int a1), some (.int a2)]) (S' := [.int a1, .ref 11]) (h' := h3) zp_72 rfl ?_
      refine zQ_ial (N := 8) (f := h3.1 11) zp_72 rfl rfl rfl (fun b5 b5' => ?_)
      refine zQ_seq 3 (pc' := 25) (L' := [some (.ref 1), some (.int a1), some (.int a2)]) (S' := [.int a2, .ref 11, .int (h3.1 11 a1.toInt.toNat)]) (h' := h3) zp_72 rfl ?_
      refine zQ_ial (N := 8) (f := h3.1 11) zp_72 rfl rfl rfl (fun b6 b6' => ?_)
      refine zQ_ic zp_72 rfl (t := 33) rfl (i := (h3.1 11 a1.toInt.toNat).toInt) (j := (h3.1 11 a2.toInt.toNat).toInt) rfl rfl (fun c7 => ?_) (fun c7 => ?_)
      · refine zQ_seq 1 (pc' := 34) (L' := [some (.ref 1), some (.int a1), some (.int a2)]) (S' := [.int (Int32.ofInt 0)]) (h' := h3) zp_72 rfl ?_
        exact zQ_retI zp_72 rfl ((((r3'.2 c4) b5 b5') b6 b6').1 c7)
      · refine zQ_seq 1 (pc' := 30) (L' := [some (.ref 1), some (.int a1), some (.int a2)]) (S' := [.int (Int32.ofInt 1)]) (h' := h3) zp_72 rfl ?_
        refine zQ_goto zp_72 rfl (t := 34) rfl ?_
        exact zQ_retI zp_72 rfl ((((r3'.2 c4) b5 b5') b6 b6').2 c7)
theorem s_73 {h : zH} {Q : Option Value → zH → Prop} (H : (∀ n, zQ n 73 4 [some (.ref 1), some (.int (Int32.ofInt 0)), some (.int (Int32.ofInt 0))] [] h Q)) : zqm 73 [.ref 1] h Q := by
  refine zqm_of zp_73 (fun n => ?_)
  have H := H n
  show zQ n 73 0 [some (.ref 1), none, none] [] h Q
  refine zQ_seq 4 (pc' := 4) (L' := [some (.ref 1), some (.int (Int32.ofInt 0)), some (.int (Int32.ofInt 0))]) (S' := []) (h' := h) zp_73 rfl ?_
  exact H
theorem s_73_4 {n : Nat} {h : zH} {Q : Option Value → zH → Prop} (x1 : Int32) (x2 : Int32) (H : (((8 : Int) ≤ x2.toInt → Q (some (.int x1)) h) ∧ (¬ ((8 : Int) ≤ x2.toInt) → zqm 70 [.ref 1, .int x2] h (fun rv h2 => zri rv (fun v2 => ((¬ v2.toInt = 0 → zQ n 73 4 [some (.ref 1), some (.int x1), some (.int (x2 + Int32.ofInt 1))] [] h2 Q) ∧ (¬ (¬ v2.toInt = 0) → zQ n 73 4 [some (.ref 1), some (.int (x1 + Int32.ofInt 1)), some (.int (x2 + Int32.ofInt 1))] [] h2 Q))))))) : zQ (n + 1) 73 4 [some (.ref 1), some (.int x1), some (.int x2)] [] h Q := by
  refine zQ_seqL 1 (pc' := 7) (L' := [some (.ref 1), some (.int x1), some (.int x2)]) (S' := [.int (Int32.ofInt 8), .int x2]) (h' := h) zp_73 rfl ?_
  refine zQ_ic zp_73 rfl (t := 27) rfl (i := x2.toInt) (j := (8 : Int)) rfl kc_8 (fun c1 => ?_) (fun c1 => ?_)
  · refine zQ_seq 1 (pc' := 28) (L' := [some (.ref 1), some (.int x1), some (.int x2)]) (S' := [.int x1]) (h' := h) zp_73 rfl ?_
    exact zQ_retI zp_73 rfl (H.1 c1)
  · refine zQ_seq 2 (pc' := 12) (L' := [some (.ref 1), some (.int x1), some (.int x2)]) (S' := [.int x2, .ref 1]) (h' := h) zp_73 rfl ?_
    refine zQ_cvI (M' := 70) (as := [.ref 1, .int x2]) (S' := []) zp_73 rfl rfl zp_70 (Or.inr rfl) rfl rfl (zqm_imp (H.2 c1) (fun rv h2 r2 => zri_imp r2 (fun v2 r2' => ?_)))
    refine zQ_if zp_73 rfl (t := 21) rfl (i := v2.toInt) rfl (fun c3 => ?_) (fun c3 => ?_)
    · refine zQ_seq 1 (pc' := 24) (L' := [some (.ref 1), some (.int x1), some (.int (x2 + Int32.ofInt 1))]) (S' := []) (h' := h2) zp_73 rfl ?_
      refine zQ_goto zp_73 rfl (t := 4) rfl ?_
      exact (r2'.1 c3)
    · refine zQ_seq 2 (pc' := 24) (L' := [some (.ref 1), some (.int (x1 + Int32.ofInt 1)), some (.int (x2 + Int32.ofInt 1))]) (S' := []) (h' := h2) zp_73 rfl ?_
      refine zQ_goto zp_73 rfl (t := 4) rfl ?_
      exact (r2'.2 c3)
theorem s_74 {h : zH} {Q : Option Value → zH → Prop} (a1 : Int32) (a2 : Int32) (a3 : Int32) (H : (∀ n, zqm 68 [.int a1] h (fun rv h1 => zri rv (fun v1 => ((v1.toInt = 0 → Q none h1) ∧ (¬ (v1.toInt = 0) → ((a3.toInt < 0 → Q none h1) ∧ (¬ (a3.toInt < 0) → ((a3.toInt ≤ (40 : Int) → (0 ≤ a1.toInt → a1.toInt < 8 → (0 ≤ a1.toInt → a1.toInt < 8 → zQ n 74 35 [some (.ref 1), some (.int a1), some (.int a2), some (.int a3), some (.int (Int32.ofInt 0))] [] (zSet (zSet h1 11 a1.toInt.toNat a2) 12 a1.toInt.toNat a3) Q))) ∧ (¬ (a3.toInt ≤ (40 : Int)) → Q none h1)))))))))) : zqm 74 [.ref 1, .int a1, .int a2, .int a3] h Q := by
  refine zqm_of zp_74 (fun n => ?_)
  have H := H n
  show zQ n 74 0 [some (.ref 1), some (.int a1), some (.int a2), some (.int a3), none] [] h Q
  refine zQ_seq 1 (pc' := 1) (L' := [some (.ref 1), some (.int a1), some (.int a2), some (.int a3), none]) (S' := [.int a1]) (h' := h) zp_74 rfl ?_
  refine zQ_csI (M' := 68) (as := [.int a1]) (S' := []) zp_74 rfl rfl rfl zp_68 (Or.inr rfl) rfl rfl (zqm_imp H (fun rv h1 r1 => zri_imp r1 (fun v1 r1' => ?_)))
  refine zQ_if zp_74 rfl (t := 17) rfl (i := v1.toInt) rfl (fun c2 => ?_) (fun c2 => ?_)
  · exact zQ_retV zp_74 rfl (r1'.1 c2)
  · refine zQ_seq 1 (pc' := 8) (L' := [some (.ref 1), some (.int a1), some (.int a2), some (.int a3), none]) (S' := [.int a3]) (h' := h1) zp_74 rfl ?_
    refine zQ_if zp_74 rfl (t := 17) rfl (i := a3.toInt) rfl (fun c3 => ?_) (fun c3 => ?_)
    · exact zQ_retV zp_74 rfl ((r1'.2 c2).1 c3)
    · refine zQ_seq 2 (pc' := 14) (L' := [some (.ref 1), some (.int a1), some (.int a2), some (.int a3), none]) (S' := [.int (Int32.ofInt 40), .int a3]) (h' := h1) zp_74 rfl ?_
      refine zQ_ic zp_74 rfl (t := 18) rfl (i := a3.toInt) (j := (40 : Int)) rfl kc_40 (fun c4 => ?_) (fun c4 => ?_)
      · refine zQ_seq 4 (pc' := 24) (L' := [some (.ref 1), some (.int a1), some (.int a2), some (.int a3), none]) (S' := [.int a2, .int a1, .ref 11]) (h' := h1) zp_74 rfl ?_
        refine zQ_ias (N := 8) zp_74 rfl rfl rfl (fun b5 b5' => ?_)
        refine zQ_seq 4 (pc' := 31) (L' := [some (.ref 1), some (.int a1), some (.int a2), some (.int a3), none]) (S' := [.int a3, .int a1, .ref 12]) (h' := (zSet h1 11 a1.toInt.toNat a2)) zp_74 rfl ?_
        refine zQ_ias (N := 8) zp_74 rfl rfl rfl (fun b6 b6' => ?_)
        refine zQ_seq 2 (pc' := 35) (L' := [some (.ref 1), some (.int a1), some (.int a2), some (.int a3), some (.int (Int32.ofInt 0))]) (S' := []) (h' := (zSet (zSet h1 11 a1.toInt.toNat a2) 12 a1.toInt.toNat a3)) zp_74 rfl ?_
        exact (((((r1'.2 c2).2 c3).1 c4) b5 b5') b6 b6')
      · exact zQ_retV zp_74 rfl (((r1'.2 c2).2 c3).2 c4)
theorem s_74_35 {n : Nat} {h : zH} {Q : Option Value → zH → Prop} (x1 : Int32) (x2 : Int32) (x3 : Int32) (x4 : Int32) (H : ((x3.toInt ≤ x4.toInt → Q none h) ∧ (¬ (x3.toInt ≤ x4.toInt) → (0 ≤ x1.toInt → x1.toInt < 8 → (0 ≤ x4.toInt → x4.toInt < 40 → zQ n 74 35 [some (.ref 1), some (.int x1), some (.int x2), some (.int x3), some (.int (x4 + Int32.ofInt 1))] [] (zSet h (3 + x1.toInt.toNat) x4.toInt.toNat (Int32.ofInt 0)) Q))))) : zQ (n + 1) 74 35 [some (.ref 1), some (.int x1), some (.int x2), some (.int x3), some (.int x4)] [] h Q := by
  refine zQ_seqL 1 (pc' := 38) (L' := [some (.ref 1), some (.int x1), some (.int x2), some (.int x3), some (.int x4)]) (S' := [.int x3, .int x4]) (h' := h) zp_74 rfl ?_
  refine zQ_ic zp_74 rfl (t := 57) rfl (i := x4.toInt) (j := x3.toInt) rfl rfl (fun c1 => ?_) (fun c1 => ?_)
  · exact zQ_retV zp_74 rfl (H.1 c1)
  · refine zQ_seq 3 (pc' := 46) (L' := [some (.ref 1), some (.int x1), some (.int x2), some (.int x3), some (.int x4)]) (S' := [.int x1, .ref 2]) (h' := h) zp_74 rfl ?_
    refine zQ_row zp_74 rfl (fun b2 b2' b2'' => ?_)
    refine zQ_seq 2 (pc' := 50) (L' := [some (.ref 1), some (.int x1), some (.int x2), some (.int x3), some (.int x4)]) (S' := [.int (Int32.ofInt 0), .int x4, .ref (3 + x1.toInt.toNat)]) (h' := h) zp_74 rfl ?_
    refine zQ_ias (N := 40) zp_74 rfl b2'' rfl (fun b3 b3' => ?_)
    refine zQ_seq 1 (pc' := 54) (L' := [some (.ref 1), some (.int x1), some (.int x2), some (.int x3), some (.int (x4 + Int32.ofInt 1))]) (S' := []) (h' := (zSet h (3 + x1.toInt.toNat) x4.toInt.toNat (Int32.ofInt 0))) zp_74 rfl ?_
    refine zQ_goto zp_74 rfl (t := 35) rfl ?_
    exact (((H.2 c1) b2 b2') b3 b3')
theorem s_75 {h : zH} {Q : Option Value → zH → Prop} (a1 : Int32) (H : zqm 70 [.ref 1, .int a1] h (fun rv h1 => zri rv (fun v1 => ((v1.toInt = 0 → (0 ≤ a1.toInt → a1.toInt < 8 → (0 ≤ a1.toInt → a1.toInt < 8 → Q (some (.int (h1.1 12 a1.toInt.toNat))) (zSet h1 12 a1.toInt.toNat (Int32.ofInt (-1)))))) ∧ (¬ (v1.toInt = 0) → Q (some (.int (Int32.ofInt 0))) h1))))) : zqm 75 [.ref 1, .int a1] h Q := by
  refine zqm_of zp_75 (fun n => ?_)
  show zQ n 75 0 [some (.ref 1), some (.int a1), none] [] h Q
  refine zQ_seq 2 (pc' := 2) (L' := [some (.ref 1), some (.int a1), none]) (S' := [.int a1, .ref 1]) (h' := h) zp_75 rfl ?_
  refine zQ_cvI (M' := 70) (as := [.ref 1, .int a1]) (S' := []) zp_75 rfl rfl zp_70 (Or.inr rfl) rfl rfl (zqm_imp H (fun rv h1 r1 => zri_imp r1 (fun v1 r1' => ?_)))
  refine zQ_if zp_75 rfl (t := 10) rfl (i := v1.toInt) rfl (fun c2 => ?_) (fun c2 => ?_)
  · refine zQ_seq 3 (pc' := 15) (L' := [some (.ref 1), some (.int a1), none]) (S' := [.int a1, .ref 12]) (h' := h1) zp_75 rfl ?_
    refine zQ_ial (N := 8) (f := h1.1 12) zp_75 rfl rfl rfl (fun b3 b3' => ?_)
    refine zQ_seq 5 (pc' := 23) (L' := [some (.ref 1), some (.int a1), some (.int (h1.1 12 a1.toInt.toNat))]) (S' := [.int (Int32.ofInt (-1)), .int a1, .ref 12]) (h' := h1) zp_75 rfl ?_
    refine zQ_ias (N := 8) zp_75 rfl rfl rfl (fun b4 b4' => ?_)
    refine zQ_seq 1 (pc' := 25) (L' := [some (.ref 1), some (.int a1), some (.int (h1.1 12 a1.toInt.toNat))]) (S' := [.int (h1.1 12 a1.toInt.toNat)]) (h' := (zSet h1 12 a1.toInt.toNat (Int32.ofInt (-1)))) zp_75 rfl ?_
    exact zQ_retI zp_75 rfl (((r1'.1 c2) b3 b3') b4 b4')
  · refine zQ_seq 1 (pc' := 9) (L' := [some (.ref 1), some (.int a1), none]) (S' := [.int (Int32.ofInt 0)]) (h' := h1) zp_75 rfl ?_
    exact zQ_retI zp_75 rfl (r1'.2 c2)
theorem s_76 {h : zH} {Q : Option Value → zH → Prop} (a1 : Int32) (a2 : Int32) (H : zqm 71 [.ref 1, .int a1, .int a2, .int (Int32.ofInt 1)] h (fun rv h1 => zri rv (fun v1 => ((v1.toInt = 0 → Q (some (.int (Int32.ofInt 0))) h1) ∧ (¬ (v1.toInt = 0) → (0 ≤ a1.toInt → a1.toInt < 8 → (0 ≤ a2.toInt → a2.toInt < 40 → Q (some (.int (h1.1 (3 + a1.toInt.toNat) a2.toInt.toNat))) h1))))))) : zqm 76 [.ref 1, .int a1, .int a2] h Q := by
  refine zqm_of zp_76 (fun n => ?_)
  show zQ n 76 0 [some (.ref 1), some (.int a1), some (.int a2)] [] h Q
  refine zQ_seq 4 (pc' := 4) (L' := [some (.ref 1), some (.int a1), some (.int a2)]) (S' := [.int (Int32.ofInt 1), .int a2, .int a1, .ref 1]) (h' := h) zp_76 rfl ?_
  refine zQ_cvI (M' := 71) (as := [.ref 1, .int a1, .int a2, .int (Int32.ofInt 1)]) (S' := []) zp_76 rfl rfl zp_71 (Or.inr rfl) rfl rfl (zqm_imp H (fun rv h1 r1 => zri_imp r1 (fun v1 r1' => ?_)))
  refine zQ_if zp_76 rfl (t := 21) rfl (i := v1.toInt) rfl (fun c2 => ?_) (fun c2 => ?_)
  · refine zQ_seq 1 (pc' := 22) (L' := [some (.ref 1), some (.int a1), some (.int a2)]) (S' := [.int (Int32.ofInt 0)]) (h' := h1) zp_76 rfl ?_
    exact zQ_retI zp_76 rfl (r1'.1 c2)
  · refine zQ_seq 3 (pc' := 15) (L' := [some (.ref 1), some (.int a1), some (.int a2)]) (S' := [.int a1, .ref 2]) (h' := h1) zp_76 rfl ?_
    refine zQ_row zp_76 rfl (fun b3 b3' b3'' => ?_)
    refine zQ_seq 1 (pc' := 17) (L' := [some (.ref 1), some (.int a1), some (.int a2)]) (S' := [.int a2, .ref (3 + a1.toInt.toNat)]) (h' := h1) zp_76 rfl ?_
    refine zQ_ial (N := 40) (f := h1.1 (3 + a1.toInt.toNat)) zp_76 rfl (wk_row b3'') rfl (fun b4 b4' => ?_)
    refine zQ_goto zp_76 rfl (t := 22) rfl ?_
    exact zQ_retI zp_76 rfl (((r1'.2 c2) b3 b3') b4 b4')
theorem s_77 {h : zH} {Q : Option Value → zH → Prop} (a1 : Int32) (a2 : Int32) (a3 : Int32) (H : zqm 71 [.ref 1, .int a1, .int a2, .int (Int32.ofInt 1)] h (fun rv h1 => zri rv (fun v1 => ((¬ v1.toInt = 0 → (0 ≤ a1.toInt → a1.toInt < 8 → (0 ≤ a1.toInt → a1.toInt < 8 → zqm 78 [.int (h1.1 11 a1.toInt.toNat), .int a3] h1 (fun rv h5 => zri rv (fun v5 => (0 ≤ a2.toInt → a2.toInt < 40 → (0 ≤ a1.toInt → a1.toInt < 8 → (0 ≤ a2.toInt → a2.toInt < 40 → Q (some (.int ((zSet h5 (3 + a1.toInt.toNat) a2.toInt.toNat v5).1 (3 + a1.toInt.toNat) a2.toInt.toNat))) (zSet h5 (3 + a1.toInt.toNat) a2.toInt.toNat v5))))))))) ∧ (¬ (¬ v1.toInt = 0) → Q (some (.int (Int32.ofInt 0))) h1))))) : zqm 77 [.ref 1, .int a1, .int a2, .int a3] h Q := by
  refine zqm_of zp_77 (fun n => ?_)
  show zQ n 77 0 [some (.ref 1), some (.int a1), some (.int a2), some (.int a3)] [] h Q
  refine zQ_seq 4 (pc' := 4) (L' := [some (.ref 1), some (.int a1), some (.int a2), some (.int a3)]) (S' := [.int (Int32.ofInt 1), .int a2, .int a1, .ref 1]) (h' := h) zp_77 rfl ?_
  refine zQ_cvI (M' := 71) (as := [.ref 1, .int a1, .int a2, .int (Int32.ofInt 1)]) (S' := []) zp_77 rfl rfl zp_71 (Or.inr rfl) rfl rfl (zqm_imp H (fun rv h1 r1 => zri_imp r1 (fun v1 r1' => ?_)))
  refine zQ_if zp_77 rfl (t := 12) rfl (i := v1.toInt) rfl (fun c2 => ?_) (fun c2 => ?_)
  · refine zQ_seq 3 (pc' := 17) (L' := [some (.ref 1), some (.int a1), some (.int a2), some (.int a3)]) (S' := [.int a1, .ref 2]) (h' := h1) zp_77 rfl ?_
    refine zQ_row zp_77 rfl (fun b3 b3' b3'' => ?_)
    refine zQ_seq 4 (pc' := 24) (L' := [some (.ref 1), some (.int a1), some (.int a2), some (.int a3)]) (S' := [.int a1, .ref 11, .int a2, .ref (3 + a1.toInt.toNat)]) (h' := h1) zp_77 rfl ?_
    refine zQ_ial (N := 8) (f := h1.1 11) zp_77 rfl rfl rfl (fun b4 b4' => ?_)
    refine zQ_seq 1 (pc' := 26) (L' := [some (.ref 1), some (.int a1), some (.int a2), some (.int a3)]) (S' := [.int a3, .int (h1.1 11 a1.toInt.toNat), .int a2, .ref (3 + a1.toInt.toNat)]) (h' := h1) zp_77 rfl ?_
    refine zQ_csI (M' := 78) (as := [.int (h1.1 11 a1.toInt.toNat), .int a3]) (S' := [.int a2, .ref (3 + a1.toInt.toNat)]) zp_77 rfl rfl rfl zp_78 (Or.inl rfl) rfl rfl (zqm_imp (((r1'.1 c2) b3 b3') b4 b4') (fun rv h5 r5 => zri_imp r5 (fun v5 r5' => ?_)))
    refine zQ_ias (N := 40) zp_77 rfl b3'' rfl (fun b6 b6' => ?_)
    refine zQ_seq 3 (pc' := 35) (L' := [some (.ref 1), some (.int a1), some (.int a2), some (.int a3)]) (S' := [.int a1, .ref 2]) (h' := (zSet h5 (3 + a1.toInt.toNat) a2.toInt.toNat v5)) zp_77 rfl ?_
    refine zQ_row zp_77 rfl (fun b7 b7' b7'' => ?_)
    refine zQ_seq 1 (pc' := 37) (L' := [some (.ref 1), some (.int a1), some (.int a2), some (.int a3)]) (S' := [.int a2, .ref (3 + a1.toInt.toNat)]) (h' := (zSet h5 (3 + a1.toInt.toNat) a2.toInt.toNat v5)) zp_77 rfl ?_
    refine zQ_ial (N := 40) (f := (zSet h5 (3 + a1.toInt.toNat) a2.toInt.toNat v5).1 (3 + a1.toInt.toNat)) zp_77 rfl (wk_row b7'') rfl (fun b8 b8' => ?_)
    exact zQ_retI zp_77 rfl (((r5' b6 b6') b7 b7') b8 b8')
  · refine zQ_seq 1 (pc' := 11) (L' := [some (.ref 1), some (.int a1), some (.int a2), some (.int a3)]) (S' := [.int (Int32.ofInt 0)]) (h' := h1) zp_77 rfl ?_
    exact zQ_retI zp_77 rfl (r1'.2 c2)
theorem s_78 {h : zH} {Q : Option Value → zH → Prop} (a0 : Int32) (a1 : Int32) (H : ((¬ a0.toInt = 0 → ((¬ a0.toInt = (1 : Int) → Q (some (.int a1)) h) ∧ (¬ (¬ a0.toInt = (1 : Int)) → Q (some (.int (a1.toInt16.toInt32))) h))) ∧ (¬ (¬ a0.toInt = 0) → Q (some (.int (a1.toInt8.toInt32))) h))) : zqm 78 [.int a0, .int a1] h Q := by
  refine zqm_of zp_78 (fun n => ?_)
  show zQ n 78 0 [some (.int a0), some (.int a1)] [] h Q
  refine zQ_seq 1 (pc' := 1) (L' := [some (.int a0), some (.int a1)]) (S' := [.int a0]) (h' := h) zp_78 rfl ?_
  refine zQ_if zp_78 rfl (t := 7) rfl (i := a0.toInt) rfl (fun c1 => ?_) (fun c1 => ?_)
  · refine zQ_seq 2 (pc' := 9) (L' := [some (.int a0), some (.int a1)]) (S' := [.int (Int32.ofInt 1), .int a0]) (h' := h) zp_78 rfl ?_
    refine zQ_ic zp_78 rfl (t := 17) rfl (i := a0.toInt) (j := (1 : Int)) rfl kc_1 (fun c2 => ?_) (fun c2 => ?_)
    · refine zQ_seq 1 (pc' := 18) (L' := [some (.int a0), some (.int a1)]) (S' := [.int a1]) (h' := h) zp_78 rfl ?_
      exact zQ_retI zp_78 rfl ((H.1 c1).1 c2)
    · refine zQ_seq 2 (pc' := 14) (L' := [some (.int a0), some (.int a1)]) (S' := [.int (a1.toInt16.toInt32)]) (h' := h) zp_78 rfl ?_
      refine zQ_goto zp_78 rfl (t := 18) rfl ?_
      exact zQ_retI zp_78 rfl ((H.1 c1).2 c2)
  · refine zQ_seq 2 (pc' := 6) (L' := [some (.int a0), some (.int a1)]) (S' := [.int (a1.toInt8.toInt32)]) (h' := h) zp_78 rfl ?_
    exact zQ_retI zp_78 rfl (H.2 c1)
theorem s_79 {h : zH} {Q : Option Value → zH → Prop} (a1 : Int32) (a2 : Int32) (a3 : Int32) (a4 : Int32) (a5 : Int32) (H : zqm 71 [.ref 1, .int a1, .int a2, .int a5] h (fun rv h1 => zri rv (fun v1 => ((v1.toInt = 0 → Q none h1) ∧ (¬ (v1.toInt = 0) → zqm 71 [.ref 1, .int a3, .int a4, .int a5] h1 (fun rv h3 => zri rv (fun v3 => ((v3.toInt = 0 → Q none h3) ∧ (¬ (v3.toInt = 0) → (0 ≤ a1.toInt → a1.toInt < 8 → (0 ≤ a3.toInt → a3.toInt < 8 → (0 ≤ a2.toInt → 0 ≤ a4.toInt → 0 ≤ a5.toInt → a2.toInt + a5.toInt ≤ 40 → a4.toInt + a5.toInt ≤ 40 → Q none (zCpy h3 (3 + a1.toInt.toNat) (3 + a3.toInt.toNat) a2.toInt.toNat a4.toInt.toNat a5.toInt.toNat))))))))))))) : zqm 79 [.ref 1, .int a1, .int a2, .int a3, .int a4, .int a5] h Q := by
  refine zqm_of zp_79 (fun n => ?_)
  show zQ n 79 0 [some (.ref 1), some (.int a1), some (.int a2), some (.int a3), some (.int a4), some (.int a5)] [] h Q
  refine zQ_seq 4 (pc' := 5) (L' := [some (.ref 1), some (.int a1), some (.int a2), some (.int a3), some (.int a4), some (.int a5)]) (S' := [.int a5, .int a2, .int a1, .ref 1]) (h' := h) zp_79 rfl ?_
  refine zQ_cvI (M' := 71) (as := [.ref 1, .int a1, .int a2, .int a5]) (S' := []) zp_79 rfl rfl zp_71 (Or.inr rfl) rfl rfl (zqm_imp H (fun rv h1 r1 => zri_imp r1 (fun v1 r1' => ?_)))
  refine zQ_if zp_79 rfl (t := 43) rfl (i := v1.toInt) rfl (fun c2 => ?_) (fun c2 => ?_)
  · exact zQ_retV zp_79 rfl (r1'.1 c2)
  · refine zQ_seq 4 (pc' := 17) (L' := [some (.ref 1), some (.int a1), some (.int a2), some (.int a3), some (.int a4), some (.int a5)]) (S' := [.int a5, .int a4, .int a3, .ref 1]) (h' := h1) zp_79 rfl ?_
    refine zQ_cvI (M' := 71) (as := [.ref 1, .int a3, .int a4, .int a5]) (S' := []) zp_79 rfl rfl zp_71 (Or.inr rfl) rfl rfl (zqm_imp (r1'.2 c2) (fun rv h3 r3 => zri_imp r3 (fun v3 r3' => ?_)))
    refine zQ_if zp_79 rfl (t := 43) rfl (i := v3.toInt) rfl (fun c4 => ?_) (fun c4 => ?_)
    · exact zQ_retV zp_79 rfl (r3'.1 c4)
    · refine zQ_seq 3 (pc' := 28) (L' := [some (.ref 1), some (.int a1), some (.int a2), some (.int a3), some (.int a4), some (.int a5)]) (S' := [.int a1, .ref 2]) (h' := h3) zp_79 rfl ?_
      refine zQ_row zp_79 rfl (fun b5 b5' b5'' => ?_)
      refine zQ_seq 4 (pc' := 35) (L' := [some (.ref 1), some (.int a1), some (.int a2), some (.int a3), some (.int a4), some (.int a5)]) (S' := [.int a3, .ref 2, .int a2, .ref (3 + a1.toInt.toNat)]) (h' := h3) zp_79 rfl ?_
      refine zQ_row zp_79 rfl (fun b6 b6' b6'' => ?_)
      refine zQ_seq 2 (pc' := 40) (L' := [some (.ref 1), some (.int a1), some (.int a2), some (.int a3), some (.int a4), some (.int a5)]) (S' := [.int a5, .int a4, .ref (3 + a3.toInt.toNat), .int a2, .ref (3 + a1.toInt.toNat)]) (h' := h3) zp_79 rfl ?_
      refine zQ_copy (n0 := 40) (n1 := 40) (i := a2.toInt) (j := a4.toInt) (l := a5.toInt) zp_79 rfl rfl b5'' b6'' rfl rfl rfl (fun b7 b7' b7'' b7''' b7'''' => ?_)
      exact zQ_retV zp_79 rfl ((((r3'.2 c4) b5 b5') b6 b6') b7 b7' b7'' b7''' b7'''')
theorem s_216 {h : zH} {Q : Option Value → zH → Prop} (a0 : Int32) (H : Q (some (.int (a0 &&& (-a0)))) h) : zqm 216 [.int a0] h Q := by
  refine zqm_of zp_216 (fun n => ?_)
  show zQ n 216 0 [some (.int a0)] [] h Q
  refine zQ_seq 4 (pc' := 4) (L' := [some (.int a0)]) (S' := [.int (a0 &&& (-a0))]) (h' := h) zp_216 rfl ?_
  exact zQ_retI zp_216 rfl H
theorem s_217 {h : zH} {Q : Option Value → zH → Prop} (a0 : Int32) (H : Q (some (.int ((((((((a0 - (((a0.toUInt32 >>> ((Int32.ofInt 1).toUInt32 &&& Int32.toUInt32 31)).toInt32) &&& (1431655765 : Int32))) &&& (858993459 : Int32)) + ((((a0 - (((a0.toUInt32 >>> ((Int32.ofInt 1).toUInt32 &&& Int32.toUInt32 31)).toInt32) &&& (1431655765 : Int32))).toUInt32 >>> ((Int32.ofInt 2).toUInt32 &&& Int32.toUInt32 31)).toInt32) &&& (858993459 : Int32))) + (((((a0 - (((a0.toUInt32 >>> ((Int32.ofInt 1).toUInt32 &&& Int32.toUInt32 31)).toInt32) &&& (1431655765 : Int32))) &&& (858993459 : Int32)) + ((((a0 - (((a0.toUInt32 >>> ((Int32.ofInt 1).toUInt32 &&& Int32.toUInt32 31)).toInt32) &&& (1431655765 : Int32))).toUInt32 >>> ((Int32.ofInt 2).toUInt32 &&& Int32.toUInt32 31)).toInt32) &&& (858993459 : Int32))).toUInt32 >>> ((Int32.ofInt 4).toUInt32 &&& Int32.toUInt32 31)).toInt32)) &&& (252645135 : Int32)) + (((((((a0 - (((a0.toUInt32 >>> ((Int32.ofInt 1).toUInt32 &&& Int32.toUInt32 31)).toInt32) &&& (1431655765 : Int32))) &&& (858993459 : Int32)) + ((((a0 - (((a0.toUInt32 >>> ((Int32.ofInt 1).toUInt32 &&& Int32.toUInt32 31)).toInt32) &&& (1431655765 : Int32))).toUInt32 >>> ((Int32.ofInt 2).toUInt32 &&& Int32.toUInt32 31)).toInt32) &&& (858993459 : Int32))) + (((((a0 - (((a0.toUInt32 >>> ((Int32.ofInt 1).toUInt32 &&& Int32.toUInt32 31)).toInt32) &&& (1431655765 : Int32))) &&& (858993459 : Int32)) + ((((a0 - (((a0.toUInt32 >>> ((Int32.ofInt 1).toUInt32 &&& Int32.toUInt32 31)).toInt32) &&& (1431655765 : Int32))).toUInt32 >>> ((Int32.ofInt 2).toUInt32 &&& Int32.toUInt32 31)).toInt32) &&& (858993459 : Int32))).toUInt32 >>> ((Int32.ofInt 4).toUInt32 &&& Int32.toUInt32 31)).toInt32)) &&& (252645135 : Int32)).toUInt32 >>> ((Int32.ofInt 8).toUInt32 &&& Int32.toUInt32 31)).toInt32)) + ((((((((a0 - (((a0.toUInt32 >>> ((Int32.ofInt 1).toUInt32 &&& Int32.toUInt32 31)).toInt32) &&& (1431655765 : Int32))) &&& (858993459 : Int32)) + ((((a0 - (((a0.toUInt32 >>> ((Int32.ofInt 1).toUInt32 &&& Int32.toUInt32 31)).toInt32) &&& (1431655765 : Int32))).toUInt32 >>> ((Int32.ofInt 2).toUInt32 &&& Int32.toUInt32 31)).toInt32) &&& (858993459 : Int32))) + (((((a0 - (((a0.toUInt32 >>> ((Int32.ofInt 1).toUInt32 &&& Int32.toUInt32 31)).toInt32) &&& (1431655765 : Int32))) &&& (858993459 : Int32)) + ((((a0 - (((a0.toUInt32 >>> ((Int32.ofInt 1).toUInt32 &&& Int32.toUInt32 31)).toInt32) &&& (1431655765 : Int32))).toUInt32 >>> ((Int32.ofInt 2).toUInt32 &&& Int32.toUInt32 31)).toInt32) &&& (858993459 : Int32))).toUInt32 >>> ((Int32.ofInt 4).toUInt32 &&& Int32.toUInt32 31)).toInt32)) &&& (252645135 : Int32)) + (((((((a0 - (((a0.toUInt32 >>> ((Int32.ofInt 1).toUInt32 &&& Int32.toUInt32 31)).toInt32) &&& (1431655765 : Int32))) &&& (858993459 : Int32)) + ((((a0 - (((a0.toUInt32 >>> ((Int32.ofInt 1).toUInt32 &&& Int32.toUInt32 31)).toInt32) &&& (1431655765 : Int32))).toUInt32 >>> ((Int32.ofInt 2).toUInt32 &&& Int32.toUInt32 31)).toInt32) &&& (858993459 : Int32))) + (((((a0 - (((a0.toUInt32 >>> ((Int32.ofInt 1).toUInt32 &&& Int32.toUInt32 31)).toInt32) &&& (1431655765 : Int32))) &&& (858993459 : Int32)) + ((((a0 - (((a0.toUInt32 >>> ((Int32.ofInt 1).toUInt32 &&& Int32.toUInt32 31)).toInt32) &&& (1431655765 : Int32))).toUInt32 >>> ((Int32.ofInt 2).toUInt32 &&& Int32.toUInt32 31)).toInt32) &&& (858993459 : Int32))).toUInt32 >>> ((Int32.ofInt 4).toUInt32 &&& Int32.toUInt32 31)).toInt32)) &&& (252645135 : Int32)).toUInt32 >>> ((Int32.ofInt 8).toUInt32 &&& Int32.toUInt32 31)).toInt32)).toUInt32 >>> ((Int32.ofInt 16).toUInt32 &&& Int32.toUInt32 31)).toInt32)) &&& (Int32.ofInt 63)))) h) : zqm 217 [.int a0] h Q := by
  refine zqm_of zp_217 (fun n => ?_)
  show zQ n 217 0 [some (.int a0)] [] h Q
  refine zQ_seq 41 (pc' := 52) (L' := [some (.int (((((((a0 - (((a0.toUInt32 >>> ((Int32.ofInt 1).toUInt32 &&& Int32.toUInt32 31)).toInt32) &&& (1431655765 : Int32))) &&& (858993459 : Int32)) + ((((a0 - (((a0.toUInt32 >>> ((Int32.ofInt 1).toUInt32 &&& Int32.toUInt32 31)).toInt32) &&& (1431655765 : Int32))).toUInt32 >>> ((Int32.ofInt 2).toUInt32 &&& Int32.toUInt32 31)).toInt32) &&& (858993459 : Int32))) + (((((a0 - (((a0.toUInt32 >>> ((Int32.ofInt 1).toUInt32 &&& Int32.toUInt32 31)).toInt32) &&& (1431655765 : Int32))) &&& (858993459 : Int32)) + ((((a0 - (((a0.toUInt32 >>> ((Int32.ofInt 1).toUInt32 &&& Int32.toUInt32 31)).toInt32) &&& (1431655765 : Int32))).toUInt32 >>> ((Int32.ofInt 2).toUInt32 &&& Int32.toUInt32 31)).toInt32) &&& (858993459 : Int32))).toUInt32 >>> ((Int32.ofInt 4).toUInt32 &&& Int32.toUInt32 31)).toInt32)) &&& (252645135 : Int32)) + (((((((a0 - (((a0.toUInt32 >>> ((Int32.ofInt 1).toUInt32 &&& Int32.toUInt32 31)).toInt32) &&& (1431655765 : Int32))) &&& (858993459 : Int32)) + ((((a0 - (((a0.toUInt32 >>> ((Int32.ofInt 1).toUInt32 &&& Int32.toUInt32 31)).toInt32) &&& (1431655765 : Int32))).toUInt32 >>> ((Int32.ofInt 2).toUInt32 &&& Int32.toUInt32 31)).toInt32) &&& (858993459 : Int32))) + (((((a0 - (((a0.toUInt32 >>> ((Int32.ofInt 1).toUInt32 &&& Int32.toUInt32 31)).toInt32) &&& (1431655765 : Int32))) &&& (858993459 : Int32)) + ((((a0 - (((a0.toUInt32 >>> ((Int32.ofInt 1).toUInt32 &&& Int32.toUInt32 31)).toInt32) &&& (1431655765 : Int32))).toUInt32 >>> ((Int32.ofInt 2).toUInt32 &&& Int32.toUInt32 31)).toInt32) &&& (858993459 : Int32))).toUInt32 >>> ((Int32.ofInt 4).toUInt32 &&& Int32.toUInt32 31)).toInt32)) &&& (252645135 : Int32)).toUInt32 >>> ((Int32.ofInt 8).toUInt32 &&& Int32.toUInt32 31)).toInt32)) + ((((((((a0 - (((a0.toUInt32 >>> ((Int32.ofInt 1).toUInt32 &&& Int32.toUInt32 31)).toInt32) &&& (1431655765 : Int32))) &&& (858993459 : Int32)) + ((((a0 - (((a0.toUInt32 >>> ((Int32.ofInt 1).toUInt32 &&& Int32.toUInt32 31)).toInt32) &&& (1431655765 : Int32))).toUInt32 >>> ((Int32.ofInt 2).toUInt32 &&& Int32.toUInt32 31)).toInt32) &&& (858993459 : Int32))) + (((((a0 - (((a0.toUInt32 >>> ((Int32.ofInt 1).toUInt32 &&& Int32.toUInt32 31)).toInt32) &&& (1431655765 : Int32))) &&& (858993459 : Int32)) + ((((a0 - (((a0.toUInt32 >>> ((Int32.ofInt 1).toUInt32 &&& Int32.toUInt32 31)).toInt32) &&& (1431655765 : Int32))).toUInt32 >>> ((Int32.ofInt 2).toUInt32 &&& Int32.toUInt32 31)).toInt32) &&& (858993459 : Int32))).toUInt32 >>> ((Int32.ofInt 4).toUInt32 &&& Int32.toUInt32 31)).toInt32)) &&& (252645135 : Int32)) + (((((((a0 - (((a0.toUInt32 >>> ((Int32.ofInt 1).toUInt32 &&& Int32.toUInt32 31)).toInt32) &&& (1431655765 : Int32))) &&& (858993459 : Int32)) + ((((a0 - (((a0.toUInt32 >>> ((Int32.ofInt 1).toUInt32 &&& Int32.toUInt32 31)).toInt32) &&& (1431655765 : Int32))).toUInt32 >>> ((Int32.ofInt 2).toUInt32 &&& Int32.toUInt32 31)).toInt32) &&& (858993459 : Int32))) + (((((a0 - (((a0.toUInt32 >>> ((Int32.ofInt 1).toUInt32 &&& Int32.toUInt32 31)).toInt32) &&& (1431655765 : Int32))) &&& (858993459 : Int32)) + ((((a0 - (((a0.toUInt32 >>> ((Int32.ofInt 1).toUInt32 &&& Int32.toUInt32 31)).toInt32) &&& (1431655765 : Int32))).toUInt32 >>> ((Int32.ofInt 2).toUInt32 &&& Int32.toUInt32 31)).toInt32) &&& (858993459 : Int32))).toUInt32 >>> ((Int32.ofInt 4).toUInt32 &&& Int32.toUInt32 31)).toInt32)) &&& (252645135 : Int32)).toUInt32 >>> ((Int32.ofInt 8).toUInt32 &&& Int32.toUInt32 31)).toInt32)).toUInt32 >>> ((Int32.ofInt 16).toUInt32 &&& Int32.toUInt32 31)).toInt32)))]) (S' := [.int ((((((((a0 - (((a0.toUInt32 >>> ((Int32.ofInt 1).toUInt32 &&& Int32.toUInt32 31)).toInt32) &&& (1431655765 : Int32))) &&& (858993459 : Int32)) + ((((a0 - (((a0.toUInt32 >>> ((Int32.ofInt 1).toUInt32 &&& Int32.toUInt32 31)).toInt32) &&& (1431655765 : Int32))).toUInt32 >>> ((Int32.ofInt 2).toUInt32 &&& Int32.toUInt32 31)).toInt32) &&& (858993459 : Int32))) + (((((a0 - (((a0.toUInt32 >>> ((Int32.ofInt 1).toUInt32 &&& Int32.toUInt32 31)).toInt32) &&& (1431655765 : Int32))) &&& (858993459 : Int32)) + ((((a0 - (((a0.toUInt32 >>> ((Int32.ofInt 1).toUInt32 &&& Int32.toUInt32 31)).toInt32) &&& (1431655765 : Int32))).toUInt32 >>> ((Int32.ofInt 2).toUInt32 &&& Int32.toUInt32 31)).toInt32) &&& (858993459 : Int32))).toUInt32 >>> ((Int32.ofInt 4).toUInt32 &&& Int32.toUInt32 31)).toInt32)) &&& (252645135 : Int32)) + (((((((a0 - (((a0.toUInt32 >>> ((Int32.ofInt 1).toUInt32 &&& Int32.toUInt32 31)).toInt32) &&& (1431655765 : Int32))) &&& (858993459 : Int32)) + ((((a0 - (((a0.toUInt32 >>> ((Int32.ofInt 1).toUInt32 &&& Int32.toUInt32 31)).toInt32) &&& (1431655765 : Int32))).toUInt32 >>> ((Int32.ofInt 2).toUInt32 &&& Int32.toUInt32 31)).toInt32) &&& (858993459 : Int32))) + (((((a0 - (((a0.toUInt32 >>> ((Int32.ofInt 1).toUInt32 &&& Int32.toUInt32 31)).toInt32) &&& (1431655765 : Int32))) &&& (858993459 : Int32)) + ((((a0 - (((a0.toUInt32 >>> ((Int32.ofInt 1).toUInt32 &&& Int32.toUInt32 31)).toInt32) &&& (1431655765 : Int32))).toUInt32 >>> ((Int32.ofInt 2).toUInt32 &&& Int32.toUInt32 31)).toInt32) &&& (858993459 : Int32))).toUInt32 >>> ((Int32.ofInt 4).toUInt32 &&& Int32.toUInt32 31)).toInt32)) &&& (252645135 : Int32)).toUInt32 >>> ((Int32.ofInt 8).toUInt32 &&& Int32.toUInt32 31)).toInt32)) + ((((((((a0 - (((a0.toUInt32 >>> ((Int32.ofInt 1).toUInt32 &&& Int32.toUInt32 31)).toInt32) &&& (1431655765 : Int32))) &&& (858993459 : Int32)) + ((((a0 - (((a0.toUInt32 >>> ((Int32.ofInt 1).toUInt32 &&& Int32.toUInt32 31)).toInt32) &&& (1431655765 : Int32))).toUInt32 >>> ((Int32.ofInt 2).toUInt32 &&& Int32.toUInt32 31)).toInt32) &&& (858993459 : Int32))) + (((((a0 - (((a0.toUInt32 >>> ((Int32.ofInt 1).toUInt32 &&& Int32.toUInt32 31)).toInt32) &&& (1431655765 : Int32))) &&& (858993459 : Int32)) + ((((a0 - (((a0.toUInt32 >>> ((Int32.ofInt 1).toUInt32 &&& Int32.toUInt32 31)).toInt32) &&& (1431655765 : Int32))).toUInt32 >>> ((Int32.ofInt 2).toUInt32 &&& Int32.toUInt32 31)).toInt32) &&& (858993459 : Int32))).toUInt32 >>> ((Int32.ofInt 4).toUInt32 &&& Int32.toUInt32 31)).toInt32)) &&& (252645135 : Int32)) + (((((((a0 - (((a0.toUInt32 >>> ((Int32.ofInt 1).toUInt32 &&& Int32.toUInt32 31)).toInt32) &&& (1431655765 : Int32))) &&& (858993459 : Int32)) + ((((a0 - (((a0.toUInt32 >>> ((Int32.ofInt 1).toUInt32 &&& Int32.toUInt32 31)).toInt32) &&& (1431655765 : Int32))).toUInt32 >>> ((Int32.ofInt 2).toUInt32 &&& Int32.toUInt32 31)).toInt32) &&& (858993459 : Int32))) + (((((a0 - (((a0.toUInt32 >>> ((Int32.ofInt 1).toUInt32 &&& Int32.toUInt32 31)).toInt32) &&& (1431655765 : Int32))) &&& (858993459 : Int32)) + ((((a0 - (((a0.toUInt32 >>> ((Int32.ofInt 1).toUInt32 &&& Int32.toUInt32 31)).toInt32) &&& (1431655765 : Int32))).toUInt32 >>> ((Int32.ofInt 2).toUInt32 &&& Int32.toUInt32 31)).toInt32) &&& (858993459 : Int32))).toUInt32 >>> ((Int32.ofInt 4).toUInt32 &&& Int32.toUInt32 31)).toInt32)) &&& (252645135 : Int32)).toUInt32 >>> ((Int32.ofInt 8).toUInt32 &&& Int32.toUInt32 31)).toInt32)).toUInt32 >>> ((Int32.ofInt 16).toUInt32 &&& Int32.toUInt32 31)).toInt32)) &&& (Int32.ofInt 63))]) (h' := h) zp_217 rfl ?_
  exact zQ_retI zp_217 rfl H
theorem s_218 {h : zH} {Q : Option Value → zH → Prop} (a0 : Int32) (a1 : Int32) (H : (¬ a1 = 0 → ((0 ≤ (a0 ^^^ a1).toInt → Q (some (.int (a0 - a0 / a1 * a1))) h) ∧ (¬ (0 ≤ (a0 ^^^ a1).toInt) → (((a0 - a0 / a1 * a1).toInt = 0 → Q (some (.int (a0 - a0 / a1 * a1))) h) ∧ (¬ ((a0 - a0 / a1 * a1).toInt = 0) → Q (some (.int ((a0 - a0 / a1 * a1) + a1))) h)))))) : zqm 218 [.int a0, .int a1] h Q := by
  refine zqm_of zp_218 (fun n => ?_)
  show zQ n 218 0 [some (.int a0), some (.int a1), none] [] h Q
  refine zQ_seq 2 (pc' := 2) (L' := [some (.int a0), some (.int a1), none]) (S' := [.int a1, .int a0]) (h' := h) zp_218 rfl ?_
  refine zQ_rem zp_218 rfl (fun b1 => ?_)
  refine zQ_seq 4 (pc' := 7) (L' := [some (.int a0), some (.int a1), some (.int (a0 - a0 / a1 * a1))]) (S' := [.int (a0 ^^^ a1)]) (h' := h) zp_218 rfl ?_
  refine zQ_if zp_218 rfl (t := 18) rfl (i := (a0 ^^^ a1).toInt) rfl (fun c2 => ?_) (fun c2 => ?_)
  · refine zQ_seq 1 (pc' := 19) (L' := [some (.int a0), some (.int a1), some (.int (a0 - a0 / a1 * a1))]) (S' := [.int (a0 - a0 / a1 * a1)]) (h' := h) zp_218 rfl ?_
    exact zQ_retI zp_218 rfl ((H b1).1 c2)
  · refine zQ_seq 1 (pc' := 11) (L' := [some (.int a0), some (.int a1), some (.int (a0 - a0 / a1 * a1))]) (S' := [.int (a0 - a0 / a1 * a1)]) (h' := h) zp_218 rfl ?_
    refine zQ_if zp_218 rfl (t := 18) rfl (i := (a0 - a0 / a1 * a1).toInt) rfl (fun c3 => ?_) (fun c3 => ?_)
    · refine zQ_seq 1 (pc' := 19) (L' := [some (.int a0), some (.int a1), some (.int (a0 - a0 / a1 * a1))]) (S' := [.int (a0 - a0 / a1 * a1)]) (h' := h) zp_218 rfl ?_
      exact zQ_retI zp_218 rfl (((H b1).2 c2).1 c3)
    · refine zQ_seq 3 (pc' := 17) (L' := [some (.int a0), some (.int a1), some (.int (a0 - a0 / a1 * a1))]) (S' := [.int ((a0 - a0 / a1 * a1) + a1)]) (h' := h) zp_218 rfl ?_
      exact zQ_retI zp_218 rfl (((H b1).2 c2).2 c3)
theorem s_219 {h : zH} {Q : Option Value → zH → Prop} (a0 : Int32) (H : ((0 ≤ a0.toInt → Q (some (.int a0)) h) ∧ (¬ (0 ≤ a0.toInt) → Q (some (.int (-a0))) h))) : zqm 219 [.int a0] h Q := by
  refine zqm_of zp_219 (fun n => ?_)
  show zQ n 219 0 [some (.int a0)] [] h Q
  refine zQ_seq 1 (pc' := 1) (L' := [some (.int a0)]) (S' := [.int a0]) (h' := h) zp_219 rfl ?_
  refine zQ_if zp_219 rfl (t := 9) rfl (i := a0.toInt) rfl (fun c1 => ?_) (fun c1 => ?_)
  · refine zQ_seq 1 (pc' := 10) (L' := [some (.int a0)]) (S' := [.int a0]) (h' := h) zp_219 rfl ?_
    exact zQ_retI zp_219 rfl (H.1 c1)
  · refine zQ_seq 2 (pc' := 6) (L' := [some (.int a0)]) (S' := [.int (-a0)]) (h' := h) zp_219 rfl ?_
    refine zQ_goto zp_219 rfl (t := 10) rfl ?_
    exact zQ_retI zp_219 rfl (H.2 c1)
theorem s_220 {h : zH} {Q : Option Value → zH → Prop} (a0 : Int32) (a1 : Int32) (H : ((a0.toInt < a1.toInt → Q (some (.int a1)) h) ∧ (¬ (a0.toInt < a1.toInt) → Q (some (.int a0)) h))) : zqm 220 [.int a0, .int a1] h Q := by
  refine zqm_of zp_220 (fun n => ?_)
  show zQ n 220 0 [some (.int a0), some (.int a1)] [] h Q
  refine zQ_seq 2 (pc' := 2) (L' := [some (.int a0), some (.int a1)]) (S' := [.int a1, .int a0]) (h' := h) zp_220 rfl ?_
  refine zQ_ic zp_220 rfl (t := 9) rfl (i := a0.toInt) (j := a1.toInt) rfl rfl (fun c1 => ?_) (fun c1 => ?_)
  · refine zQ_seq 1 (pc' := 10) (L' := [some (.int a0), some (.int a1)]) (S' := [.int a1]) (h' := h) zp_220 rfl ?_
    exact zQ_retI zp_220 rfl (H.1 c1)
  · refine zQ_seq 1 (pc' := 6) (L' := [some (.int a0), some (.int a1)]) (S' := [.int a0]) (h' := h) zp_220 rfl ?_
    refine zQ_goto zp_220 rfl (t := 10) rfl ?_
    exact zQ_retI zp_220 rfl (H.2 c1)
theorem s_221 {h : zH} {Q : Option Value → zH → Prop} (a0 : Int32) (a1 : Int32) (H : ((a1.toInt < a0.toInt → Q (some (.int a1)) h) ∧ (¬ (a1.toInt < a0.toInt) → Q (some (.int a0)) h))) : zqm 221 [.int a0, .int a1] h Q := by
  refine zqm_of zp_221 (fun n => ?_)
  show zQ n 221 0 [some (.int a0), some (.int a1)] [] h Q
  refine zQ_seq 2 (pc' := 2) (L' := [some (.int a0), some (.int a1)]) (S' := [.int a1, .int a0]) (h' := h) zp_221 rfl ?_
  refine zQ_ic zp_221 rfl (t := 9) rfl (i := a0.toInt) (j := a1.toInt) rfl rfl (fun c1 => ?_) (fun c1 => ?_)
  · refine zQ_seq 1 (pc' := 10) (L' := [some (.int a0), some (.int a1)]) (S' := [.int a1]) (h' := h) zp_221 rfl ?_
    exact zQ_retI zp_221 rfl (H.1 c1)
  · refine zQ_seq 1 (pc' := 6) (L' := [some (.int a0), some (.int a1)]) (S' := [.int a0]) (h' := h) zp_221 rfl ?_
    refine zQ_goto zp_221 rfl (t := 10) rfl ?_
    exact zQ_retI zp_221 rfl (H.2 c1)

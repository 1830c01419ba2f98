/-! segments: the class, its parts -/
theorem s_0 {h : zH} {Q : Option Value → zH → Prop} (H : Q none (zSet (zSet h 48 3 (Int32.ofInt 0)) 48 4 (Int32.ofInt 0))) : zqm 0 [.ref 48] h Q := by
  refine zqm_of zp_0 (fun n => ?_)
  show zQ n 0 0 [some (.ref 48)] [] h Q
  refine zQ_seq 6 (pc' := 10) (L' := [some (.ref 48)]) (S' := []) (h' := (zSet (zSet h 48 3 (Int32.ofInt 0)) 48 4 (Int32.ofInt 0))) zp_0 rfl ?_
  exact zQ_retV zp_0 rfl H
theorem s_1 {h : zH} {Q : Option Value → zH → Prop} (H : (((h.1 48 3).toInt < 0 → Q none h) ∧ (¬ ((h.1 48 3).toInt < 0) → (((h.1 48 3).toInt < (24 : Int) → (0 ≤ (h.1 48 3).toInt → (h.1 48 3).toInt < 24 → (0 ≤ (h.1 48 3).toInt → (h.1 48 3).toInt < 24 → (0 ≤ (h.1 48 3).toInt → (h.1 48 3).toInt < 24 → zqm 221 [.int ((h.1 48 4) + (Int32.ofInt 1)), .int (Int32.ofInt 24)] (zSet (zSet (zSet (zSet h 49 (h.1 48 3).toInt.toNat (h.1 15 3)) 50 (h.1 48 3).toInt.toNat (h.1 15 4)) 51 (h.1 48 3).toInt.toNat (h.1 15 5)) 48 3 (((h.1 48 3) + (Int32.ofInt 1)) - ((h.1 48 3) + (Int32.ofInt 1)) / (Int32.ofInt 24) * (Int32.ofInt 24))) (fun rv h6 => zri rv (fun v6 => Q none (zSet h6 48 4 v6))))))) ∧ (¬ ((h.1 48 3).toInt < (24 : Int)) → Q none h))))) : zqm 1 [.ref 48, .ref 15] h Q := by
  refine zqm_of zp_1 (fun n => ?_)
  show zQ n 1 0 [some (.ref 48), some (.ref 15)] [] h Q
  refine zQ_seq 2 (pc' := 4) (L' := [some (.ref 48), some (.ref 15)]) (S' := [.int (h.1 48 3)]) (h' := h) zp_1 rfl ?_
  refine zQ_if zp_1 rfl (t := 16) rfl (i := (h.1 48 3).toInt) rfl (fun c1 => ?_) (fun c1 => ?_)
  · exact zQ_retV zp_1 rfl (H.1 c1)
  · refine zQ_seq 3 (pc' := 13) (L' := [some (.ref 48), some (.ref 15)]) (S' := [.int (Int32.ofInt 24), .int (h.1 48 3)]) (h' := h) zp_1 rfl ?_
    refine zQ_ic zp_1 rfl (t := 17) rfl (i := (h.1 48 3).toInt) (j := (24 : Int)) rfl kc_24 (fun c2 => ?_) (fun c2 => ?_)
    · refine zQ_seq 6 (pc' := 29) (L' := [some (.ref 48), some (.ref 15)]) (S' := [.int (h.1 15 3), .int (h.1 48 3), .ref 49]) (h' := h) zp_1 rfl ?_
      refine zQ_ias (N := 24) zp_1 rfl rfl rfl (fun b3 b3' => ?_)
      refine zQ_seq 6 (pc' := 42) (L' := [some (.ref 48), some (.ref 15)]) (S' := [.int (h.1 15 4), .int (h.1 48 3), .ref 50]) (h' := (zSet h 49 (h.1 48 3).toInt.toNat (h.1 15 3))) zp_1 rfl ?_
      refine zQ_ias (N := 24) zp_1 rfl rfl rfl (fun b4 b4' => ?_)
      refine zQ_seq 6 (pc' := 55) (L' := [some (.ref 48), some (.ref 15)]) (S' := [.int (h.1 15 5), .int (h.1 48 3), .ref 51]) (h' := (zSet (zSet h 49 (h.1 48 3).toInt.toNat (h.1 15 3)) 50 (h.1 48 3).toInt.toNat (h.1 15 4))) zp_1 rfl ?_
      refine zQ_ias (N := 24) zp_1 rfl rfl rfl (fun b5 b5' => ?_)
      refine zQ_seq 6 (pc' := 65) (L' := [some (.ref 48), some (.ref 15)]) (S' := [.int (Int32.ofInt 24), .int ((h.1 48 3) + (Int32.ofInt 1)), .ref 48]) (h' := (zSet (zSet (zSet h 49 (h.1 48 3).toInt.toNat (h.1 15 3)) 50 (h.1 48 3).toInt.toNat (h.1 15 4)) 51 (h.1 48 3).toInt.toNat (h.1 15 5))) zp_1 rfl ?_
      refine zQ_rem zp_1 rfl (fun _ => ?_)
      refine zQ_seq 7 (pc' := 78) (L' := [some (.ref 48), some (.ref 15)]) (S' := [.int (Int32.ofInt 24), .int ((h.1 48 4) + (Int32.ofInt 1)), .ref 48]) (h' := (zSet (zSet (zSet (zSet h 49 (h.1 48 3).toInt.toNat (h.1 15 3)) 50 (h.1 48 3).toInt.toNat (h.1 15 4)) 51 (h.1 48 3).toInt.toNat (h.1 15 5)) 48 3 (((h.1 48 3) + (Int32.ofInt 1)) - ((h.1 48 3) + (Int32.ofInt 1)) / (Int32.ofInt 24) * (Int32.ofInt 24)))) zp_1 rfl ?_
      refine zQ_csI (M' := 221) (as := [.int ((h.1 48 4) + (Int32.ofInt 1)), .int (Int32.ofInt 24)]) (S' := [.ref 48]) zp_1 rfl rfl rfl zp_221 (Or.inl rfl) rfl rfl (zqm_imp (((((H.2 c1).1 c2) b3 b3') b4 b4') b5 b5') (fun rv h6 r6 => zri_imp r6 (fun v6 r6' => ?_)))
      refine zQ_seq 1 (pc' := 84) (L' := [some (.ref 48), some (.ref 15)]) (S' := []) (h' := (zSet h6 48 4 v6)) zp_1 rfl ?_
      exact zQ_retV zp_1 rfl r6'
    · exact zQ_retV zp_1 rfl ((H.2 c1).2 c2)
theorem s_2 {h : zH} {Q : Option Value → zH → Prop} (H : (((h.1 48 4).toInt = 0 → Q none h) ∧ (¬ ((h.1 48 4).toInt = 0) → ((0 ≤ ((((h.1 48 3) + (Int32.ofInt 24)) - (Int32.ofInt 1)) - (((h.1 48 3) + (Int32.ofInt 24)) - (Int32.ofInt 1)) / (Int32.ofInt 24) * (Int32.ofInt 24)).toInt → (0 ≤ ((((h.1 48 3) + (Int32.ofInt 24)) - (Int32.ofInt 1)) - (((h.1 48 3) + (Int32.ofInt 24)) - (Int32.ofInt 1)) / (Int32.ofInt 24) * (Int32.ofInt 24)).toInt → ((((h.1 48 3) + (Int32.ofInt 24)) - (Int32.ofInt 1)) - (((h.1 48 3) + (Int32.ofInt 24)) - (Int32.ofInt 1)) / (Int32.ofInt 24) * (Int32.ofInt 24)).toInt < 24 → (0 ≤ ((((h.1 48 3) + (Int32.ofInt 24)) - (Int32.ofInt 1)) - (((h.1 48 3) + (Int32.ofInt 24)) - (Int32.ofInt 1)) / (Int32.ofInt 24) * (Int32.ofInt 24)).toInt → ((((h.1 48 3) + (Int32.ofInt 24)) - (Int32.ofInt 1)) - (((h.1 48 3) + (Int32.ofInt 24)) - (Int32.ofInt 1)) / (Int32.ofInt 24) * (Int32.ofInt 24)).toInt < 24 → (0 ≤ ((((h.1 48 3) + (Int32.ofInt 24)) - (Int32.ofInt 1)) - (((h.1 48 3) + (Int32.ofInt 24)) - (Int32.ofInt 1)) / (Int32.ofInt 24) * (Int32.ofInt 24)).toInt → ((((h.1 48 3) + (Int32.ofInt 24)) - (Int32.ofInt 1)) - (((h.1 48 3) + (Int32.ofInt 24)) - (Int32.ofInt 1)) / (Int32.ofInt 24) * (Int32.ofInt 24)).toInt < 24 → Q none (zSet (zSet (zSet (zSet (zSet h 15 3 (h.1 49 ((((h.1 48 3) + (Int32.ofInt 24)) - (Int32.ofInt 1)) - (((h.1 48 3) + (Int32.ofInt 24)) - (Int32.ofInt 1)) / (Int32.ofInt 24) * (Int32.ofInt 24)).toInt.toNat)) 15 4 (h.1 50 ((((h.1 48 3) + (Int32.ofInt 24)) - (Int32.ofInt 1)) - (((h.1 48 3) + (Int32.ofInt 24)) - (Int32.ofInt 1)) / (Int32.ofInt 24) * (Int32.ofInt 24)).toInt.toNat)) 15 5 (h.1 51 ((((h.1 48 3) + (Int32.ofInt 24)) - (Int32.ofInt 1)) - (((h.1 48 3) + (Int32.ofInt 24)) - (Int32.ofInt 1)) / (Int32.ofInt 24) * (Int32.ofInt 24)).toInt.toNat)) 48 3 ((((h.1 48 3) + (Int32.ofInt 24)) - (Int32.ofInt 1)) - (((h.1 48 3) + (Int32.ofInt 24)) - (Int32.ofInt 1)) / (Int32.ofInt 24) * (Int32.ofInt 24))) 48 4 ((h.1 48 4) - (Int32.ofInt 1))))))) ∧ (¬ (0 ≤ ((((h.1 48 3) + (Int32.ofInt 24)) - (Int32.ofInt 1)) - (((h.1 48 3) + (Int32.ofInt 24)) - (Int32.ofInt 1)) / (Int32.ofInt 24) * (Int32.ofInt 24)).toInt) → Q none h))))) : zqm 2 [.ref 48, .ref 15] h Q := by
  refine zqm_of zp_2 (fun n => ?_)
  show zQ n 2 0 [some (.ref 48), some (.ref 15), none] [] h Q
  refine zQ_seq 7 (pc' := 11) (L' := [some (.ref 48), some (.ref 15), none]) (S' := [.int (Int32.ofInt 24), .int (((h.1 48 3) + (Int32.ofInt 24)) - (Int32.ofInt 1))]) (h' := h) zp_2 rfl ?_
  refine zQ_rem zp_2 rfl (fun _ => ?_)
  refine zQ_seq 3 (pc' := 17) (L' := [some (.ref 48), some (.ref 15), some (.int ((((h.1 48 3) + (Int32.ofInt 24)) - (Int32.ofInt 1)) - (((h.1 48 3) + (Int32.ofInt 24)) - (Int32.ofInt 1)) / (Int32.ofInt 24) * (Int32.ofInt 24)))]) (S' := [.int (h.1 48 4)]) (h' := h) zp_2 rfl ?_
  refine zQ_if zp_2 rfl (t := 24) rfl (i := (h.1 48 4).toInt) rfl (fun c1 => ?_) (fun c1 => ?_)
  · exact zQ_retV zp_2 rfl (H.1 c1)
  · refine zQ_seq 1 (pc' := 21) (L' := [some (.ref 48), some (.ref 15), some (.int ((((h.1 48 3) + (Int32.ofInt 24)) - (Int32.ofInt 1)) - (((h.1 48 3) + (Int32.ofInt 24)) - (Int32.ofInt 1)) / (Int32.ofInt 24) * (Int32.ofInt 24)))]) (S' := [.int ((((h.1 48 3) + (Int32.ofInt 24)) - (Int32.ofInt 1)) - (((h.1 48 3) + (Int32.ofInt 24)) - (Int32.ofInt 1)) / (Int32.ofInt 24) * (Int32.ofInt 24))]) (h' := h) zp_2 rfl ?_
    refine zQ_if zp_2 rfl (t := 25) rfl (i := ((((h.1 48 3) + (Int32.ofInt 24)) - (Int32.ofInt 1)) - (((h.1 48 3) + (Int32.ofInt 24)) - (Int32.ofInt 1)) / (Int32.ofInt 24) * (Int32.ofInt 24)).toInt) rfl (fun c2 => ?_) (fun c2 => ?_)
    · refine zQ_seq 4 (pc' := 31) (L' := [some (.ref 48), some (.ref 15), some (.int ((((h.1 48 3) + (Int32.ofInt 24)) - (Int32.ofInt 1)) - (((h.1 48 3) + (Int32.ofInt 24)) - (Int32.ofInt 1)) / (Int32.ofInt 24) * (Int32.ofInt 24)))]) (S' := [.int ((((h.1 48 3) + (Int32.ofInt 24)) - (Int32.ofInt 1)) - (((h.1 48 3) + (Int32.ofInt 24)) - (Int32.ofInt 1)) / (Int32.ofInt 24) * (Int32.ofInt 24)), .ref 49, .ref 15]) (h' := h) zp_2 rfl ?_
      refine zQ_ial (N := 24) (f := h.1 49) zp_2 rfl rfl rfl (fun b3 b3' => ?_)
      refine zQ_seq 5 (pc' := 41) (L' := [some (.ref 48), some (.ref 15), some (.int ((((h.1 48 3) + (Int32.ofInt 24)) - (Int32.ofInt 1)) - (((h.1 48 3) + (Int32.ofInt 24)) - (Int32.ofInt 1)) / (Int32.ofInt 24) * (Int32.ofInt 24)))]) (S' := [.int ((((h.1 48 3) + (Int32.ofInt 24)) - (Int32.ofInt 1)) - (((h.1 48 3) + (Int32.ofInt 24)) - (Int32.ofInt 1)) / (Int32.ofInt 24) * (Int32.ofInt 24)), .ref 50, .ref 15]) (h' := (zSet h 15 3 (h.1 49 ((((h.1 48 3) + (Int32.ofInt 24)) - (Int32.ofInt 1)) - (((h.1 48 3) + (Int32.ofInt 24)) - (Int32.ofInt 1)) / (Int32.ofInt 24) * (Int32.ofInt 24)).toInt.toNat))) zp_2 rfl ?_
      refine zQ_ial (N := 24) (f := (zSet h 15 3 (h.1 49 ((((h.1 48 3) + (Int32.ofInt 24)) - (Int32.ofInt 1)) - (((h.1 48 3) + (Int32.ofInt 24)) - (Int32.ofInt 1)) / (Int32.ofInt 24) * (Int32.ofInt 24)).toInt.toNat)).1 50) zp_2 rfl rfl rfl (fun b4 b4' => ?_)
      refine zQ_seq 5 (pc' := 51) (L' := [some (.ref 48), some (.ref 15), some (.int ((((h.1 48 3) + (Int32.ofInt 24)) - (Int32.ofInt 1)) - (((h.1 48 3) + (Int32.ofInt 24)) - (Int32.ofInt 1)) / (Int32.ofInt 24) * (Int32.ofInt 24)))]) (S' := [.int ((((h.1 48 3) + (Int32.ofInt 24)) - (Int32.ofInt 1)) - (((h.1 48 3) + (Int32.ofInt 24)) - (Int32.ofInt 1)) / (Int32.ofInt 24) * (Int32.ofInt 24)), .ref 51, .ref 15]) (h' := (zSet (zSet h 15 3 (h.1 49 ((((h.1 48 3) + (Int32.ofInt 24)) - (Int32.ofInt 1)) - (((h.1 48 3) + (Int32.ofInt 24)) - (Int32.ofInt 1)) / (Int32.ofInt 24) * (Int32.ofInt 24)).toInt.toNat)) 15 4 (h.1 50 ((((h.1 48 3) + (Int32.ofInt 24)) - (Int32.ofInt 1)) - (((h.1 48 3) + (Int32.ofInt 24)) - (Int32.ofInt 1)) / (Int32.ofInt 24) * (Int32.ofInt 24)).toInt.toNat))) zp_2 rfl ?_
      refine zQ_ial (N := 24) (f := (zSet (zSet h 15 3 (h.1 49 ((((h.1 48 3) + (Int32.ofInt 24)) - (Int32.ofInt 1)) - (((h.1 48 3) + (Int32.ofInt 24)) - (Int32.ofInt 1)) / (Int32.ofInt 24) * (Int32.ofInt 24)).toInt.toNat)) 15 4 (h.1 50 ((((h.1 48 3) + (Int32.ofInt 24)) - (Int32.ofInt 1)) - (((h.1 48 3) + (Int32.ofInt 24)) - (Int32.ofInt 1)) / (Int32.ofInt 24) * (Int32.ofInt 24)).toInt.toNat)).1 51) zp_2 rfl rfl rfl (fun b5 b5' => ?_)
      refine zQ_seq 10 (pc' := 70) (L' := [some (.ref 48), some (.ref 15), some (.int ((((h.1 48 3) + (Int32.ofInt 24)) - (Int32.ofInt 1)) - (((h.1 48 3) + (Int32.ofInt 24)) - (Int32.ofInt 1)) / (Int32.ofInt 24) * (Int32.ofInt 24)))]) (S' := []) (h' := (zSet (zSet (zSet (zSet (zSet h 15 3 (h.1 49 ((((h.1 48 3) + (Int32.ofInt 24)) - (Int32.ofInt 1)) - (((h.1 48 3) + (Int32.ofInt 24)) - (Int32.ofInt 1)) / (Int32.ofInt 24) * (Int32.ofInt 24)).toInt.toNat)) 15 4 (h.1 50 ((((h.1 48 3) + (Int32.ofInt 24)) - (Int32.ofInt 1)) - (((h.1 48 3) + (Int32.ofInt 24)) - (Int32.ofInt 1)) / (Int32.ofInt 24) * (Int32.ofInt 24)).toInt.toNat)) 15 5 (h.1 51 ((((h.1 48 3) + (Int32.ofInt 24)) - (Int32.ofInt 1)) - (((h.1 48 3) + (Int32.ofInt 24)) - (Int32.ofInt 1)) / (Int32.ofInt 24) * (Int32.ofInt 24)).toInt.toNat)) 48 3 ((((h.1 48 3) + (Int32.ofInt 24)) - (Int32.ofInt 1)) - (((h.1 48 3) + (Int32.ofInt 24)) - (Int32.ofInt 1)) / (Int32.ofInt 24) * (Int32.ofInt 24))) 48 4 ((h.1 48 4) - (Int32.ofInt 1)))) zp_2 rfl ?_
      exact zQ_retV zp_2 rfl (((((H.2 c1).1 c2) b3 b3') b4 b4') b5 b5')
    · exact zQ_retV zp_2 rfl ((H.2 c1).2 c2)
theorem s_10 {h : zH} {Q : Option Value → zH → Prop} (H : (∀ n, zQ n 10 37 [some (.ref 23), some (.int (Int32.ofInt 0))] [] (zSet (zSet (zSet (zSet (zSet (zSet (zSet h 23 0 (Int32.ofInt 0)) 23 1 (Int32.ofInt 0)) 23 2 (Int32.ofInt 0)) 23 3 (Int32.ofInt 0)) 23 4 (Int32.ofInt 0)) 23 5 (Int32.ofInt 0)) 23 6 (Int32.ofInt 0)) Q)) : zqm 10 [.ref 23] h Q := by
  refine zqm_of zp_10 (fun n => ?_)
  have H := H n
  show zQ n 10 0 [some (.ref 23), none] [] h Q
  refine zQ_seq 2 (pc' := 2) (L' := [some (.ref 23), none]) (S' := [.int (Int32.ofInt 0), .ref 23]) (h' := h) zp_10 rfl ?_
  refine zQ_putb zp_10 rfl rfl rfl rfl ?_
  refine zQ_seq 20 (pc' := 37) (L' := [some (.ref 23), some (.int (Int32.ofInt 0))]) (S' := []) (h' := (zSet (zSet (zSet (zSet (zSet (zSet (zSet h 23 0 (Int32.ofInt 0)) 23 1 (Int32.ofInt 0)) 23 2 (Int32.ofInt 0)) 23 3 (Int32.ofInt 0)) 23 4 (Int32.ofInt 0)) 23 5 (Int32.ofInt 0)) 23 6 (Int32.ofInt 0))) zp_10 rfl ?_
  exact H
theorem s_10_37 {n : Nat} {h : zH} {Q : Option Value → zH → Prop} (x1 : Int32) (H : (((3 : Int) ≤ x1.toInt → Q none h) ∧ (¬ ((3 : Int) ≤ x1.toInt) → (0 ≤ x1.toInt → x1.toInt < 3 → zQ n 10 37 [some (.ref 23), some (.int (x1 + Int32.ofInt 1))] [] (zSet h 24 x1.toInt.toNat (Int32.ofInt 0)) Q)))) : zQ (n + 1) 10 37 [some (.ref 23), some (.int x1)] [] h Q := by
  refine zQ_seqL 1 (pc' := 39) (L' := [some (.ref 23), some (.int x1)]) (S' := [.int (Int32.ofInt 3), .int x1]) (h' := h) zp_10 rfl ?_
  refine zQ_ic zp_10 rfl (t := 55) rfl (i := x1.toInt) (j := (3 : Int)) rfl kc_3 (fun c1 => ?_) (fun c1 => ?_)
  · exact zQ_retV zp_10 rfl (H.1 c1)
  · refine zQ_seq 4 (pc' := 48) (L' := [some (.ref 23), some (.int x1)]) (S' := [.int (Int32.ofInt 0), .int x1, .ref 24]) (h' := h) zp_10 rfl ?_
    refine zQ_ias (N := 3) zp_10 rfl rfl rfl (fun b2 b2' => ?_)
    refine zQ_seq 1 (pc' := 52) (L' := [some (.ref 23), some (.int (x1 + Int32.ofInt 1))]) (S' := []) (h' := (zSet h 24 x1.toInt.toNat (Int32.ofInt 0))) zp_10 rfl ?_
    refine zQ_goto zp_10 rfl (t := 37) rfl ?_
    exact ((H.2 c1) b2 b2')
theorem s_11_15_23 {h : zH} {Q : Option Value → zH → Prop} (H : Q none (zCpy (zCpy (zCpy (zCpy (zCpy (zCpy (zCpy (zSet (zSet (zSet (zSet (zSet (zSet (zSet (zSet (zSet h 15 0 (h.1 23 0)) 15 1 (h.1 23 1)) 15 2 (h.1 23 2)) 15 3 (h.1 23 3)) 15 4 (h.1 23 4)) 15 5 (h.1 23 5)) 15 6 (h.1 23 6)) 15 7 (h.1 23 7)) 15 8 (h.1 23 8)) 24 16 0 0 3) 25 17 0 0 4) 26 18 0 0 4) 27 19 0 0 4) 28 20 0 0 4) 29 21 0 0 4) 30 22 0 0 4)) : zqm 11 [.ref 15, .ref 23] h Q := by
  refine zqm_of zp_11 (fun n => ?_)
  show zQ n 11 0 [some (.ref 15), some (.ref 23)] [] h Q
  refine zQ_seq 3 (pc' := 5) (L' := [some (.ref 15), some (.ref 23)]) (S' := [.int (h.1 23 0), .ref 15]) (h' := h) zp_11 rfl ?_
  refine zQ_putb zp_11 rfl rfl rfl rfl ?_
  refine zQ_seq 39 (pc' := 83) (L' := [some (.ref 15), some (.ref 23)]) (S' := [.int (Int32.ofInt 3), .int (Int32.ofInt 0), .ref 16, .int (Int32.ofInt 0), .ref 24]) (h' := (zSet (zSet (zSet (zSet (zSet (zSet (zSet (zSet (zSet h 15 0 (h.1 23 0)) 15 1 (h.1 23 1)) 15 2 (h.1 23 2)) 15 3 (h.1 23 3)) 15 4 (h.1 23 4)) 15 5 (h.1 23 5)) 15 6 (h.1 23 6)) 15 7 (h.1 23 7)) 15 8 (h.1 23 8))) zp_11 rfl ?_
  refine zQ_copy (n0 := 3) (n1 := 3) (i := (0 : Int)) (j := (0 : Int)) (l := (3 : Int)) zp_11 rfl rfl rfl rfl kc_0 kc_0 kc_3 (fun _ _ _ _ _ => ?_)
  refine zQ_seq 7 (pc' := 97) (L' := [some (.ref 15), some (.ref 23)]) (S' := [.int (Int32.ofInt 4), .int (Int32.ofInt 0), .ref 17, .int (Int32.ofInt 0), .ref 25]) (h' := (zCpy (zSet (zSet (zSet (zSet (zSet (zSet (zSet (zSet (zSet h 15 0 (h.1 23 0)) 15 1 (h.1 23 1)) 15 2 (h.1 23 2)) 15 3 (h.1 23 3)) 15 4 (h.1 23 4)) 15 5 (h.1 23 5)) 15 6 (h.1 23 6)) 15 7 (h.1 23 7)) 15 8 (h.1 23 8)) 24 16 0 0 3)) zp_11 rfl ?_
  refine zQ_copy (n0 := 4) (n1 := 4) (i := (0 : Int)) (j := (0 : Int)) (l := (4 : Int)) zp_11 rfl rfl rfl rfl kc_0 kc_0 kc_4 (fun _ _ _ _ _ => ?_)
  refine zQ_seq 7 (pc' := 111) (L' := [some (.ref 15), some (.ref 23)]) (S' := [.int (Int32.ofInt 4), .int (Int32.ofInt 0), .ref 18, .int (Int32.ofInt 0), .ref 26]) (h' := (zCpy (zCpy (zSet (zSet (zSet (zSet (zSet (zSet (zSet (zSet (zSet h 15 0 (h.1 23 0)) 15 1 (h.1 23 1)) 15 2 (h.1 23 2)) 15 3 (h.1 23 3)) 15 4 (h.1 23 4)) 15 5 (h.1 23 5)) 15 6 (h.1 23 6)) 15 7 (h.1 23 7)) 15 8 (h.1 23 8)) 24 16 0 0 3) 25 17 0 0 4)) zp_11 rfl ?_
  refine zQ_copy (n0 := 4) (n1 := 4) (i := (0 : Int)) (j := (0 : Int)) (l := (4 : Int)) zp_11 rfl rfl rfl rfl kc_0 kc_0 kc_4 (fun _ _ _ _ _ => ?_)
  refine zQ_seq 7 (pc' := 125) (L' := [some (.ref 15), some (.ref 23)]) (S' := [.int (Int32.ofInt 4), .int (Int32.ofInt 0), .ref 19, .int (Int32.ofInt 0), .ref 27]) (h' := (zCpy (zCpy (zCpy (zSet (zSet (zSet (zSet (zSet (zSet (zSet (zSet (zSet h 15 0 (h.1 23 0)) 15 1 (h.1 23 1)) 15 2 (h.1 23 2)) 15 3 (h.1 23 3)) 15 4 (h.1 23 4)) 15 5 (h.1 23 5)) 15 6 (h.1 23 6)) 15 7 (h.1 23 7)) 15 8 (h.1 23 8)) 24 16 0 0 3) 25 17 0 0 4) 26 18 0 0 4)) zp_11 rfl ?_
  refine zQ_copy (n0 := 4) (n1 := 4) (i := (0 : Int)) (j := (0 : Int)) (l := (4 : Int)) zp_11 rfl rfl rfl rfl kc_0 kc_0 kc_4 (fun _ _ _ _ _ => ?_)
  refine zQ_seq 7 (pc' := 139) (L' := [some (.ref 15), some (.ref 23)]) (S' := [.int (Int32.ofInt 4), .int (Int32.ofInt 0), .ref 20, .int (Int32.ofInt 0), .ref 28]) (h' := (zCpy (zCpy (zCpy (zCpy (zSet (zSet (zSet (zSet (zSet (zSet (zSet (zSet (zSet h 15 0 (h.1 23 0)) 15 1 (h.1 23 1)) 15 2 (h.1 23 2)) 15 3 (h.1 23 3)) 15 4 (h.1 23 4)) 15 5 (h.1 23 5)) 15 6 (h.1 23 6)) 15 7 (h.1 23 7)) 15 8 (h.1 23 8)) 24 16 0 0 3) 25 17 0 0 4) 26 18 0 0 4) 27 19 0 0 4)) zp_11 rfl ?_
  refine zQ_copy (n0 := 4) (n1 := 4) (i := (0 : Int)) (j := (0 : Int)) (l := (4 : Int)) zp_11 rfl rfl rfl rfl kc_0 kc_0 kc_4 (fun _ _ _ _ _ => ?_)
  refine zQ_seq 7 (pc' := 153) (L' := [some (.ref 15), some (.ref 23)]) (S' := [.int (Int32.ofInt 4), .int (Int32.ofInt 0), .ref 21, .int (Int32.ofInt 0), .ref 29]) (h' := (zCpy (zCpy (zCpy (zCpy (zCpy (zSet (zSet (zSet (zSet (zSet (zSet (zSet (zSet (zSet h 15 0 (h.1 23 0)) 15 1 (h.1 23 1)) 15 2 (h.1 23 2)) 15 3 (h.1 23 3)) 15 4 (h.1 23 4)) 15 5 (h.1 23 5)) 15 6 (h.1 23 6)) 15 7 (h.1 23 7)) 15 8 (h.1 23 8)) 24 16 0 0 3) 25 17 0 0 4) 26 18 0 0 4) 27 19 0 0 4) 28 20 0 0 4)) zp_11 rfl ?_
  refine zQ_copy (n0 := 4) (n1 := 4) (i := (0 : Int)) (j := (0 : Int)) (l := (4 : Int)) zp_11 rfl rfl rfl rfl kc_0 kc_0 kc_4 (fun _ _ _ _ _ => ?_)
  refine zQ_seq 7 (pc' := 167) (L' := [some (.ref 15), some (.ref 23)]) (S' := [.int (Int32.ofInt 4), .int (Int32.ofInt 0), .ref 22, .int (Int32.ofInt 0), .ref 30]) (h' := (zCpy (zCpy (zCpy (zCpy (zCpy (zCpy (zSet (zSet (zSet (zSet (zSet (zSet (zSet (zSet (zSet h 15 0 (h.1 23 0)) 15 1 (h.1 23 1)) 15 2 (h.1 23 2)) 15 3 (h.1 23 3)) 15 4 (h.1 23 4)) 15 5 (h.1 23 5)) 15 6 (h.1 23 6)) 15 7 (h.1 23 7)) 15 8 (h.1 23 8)) 24 16 0 0 3) 25 17 0 0 4) 26 18 0 0 4) 27 19 0 0 4) 28 20 0 0 4) 29 21 0 0 4)) zp_11 rfl ?_
  refine zQ_copy (n0 := 4) (n1 := 4) (i := (0 : Int)) (j := (0 : Int)) (l := (4 : Int)) zp_11 rfl rfl rfl rfl kc_0 kc_0 kc_4 (fun _ _ _ _ _ => ?_)
  exact zQ_retV zp_11 rfl H
theorem s_11_15_31 {h : zH} {Q : Option Value → zH → Prop} (H : Q none (zCpy (zCpy (zCpy (zCpy (zCpy (zCpy (zCpy (zSet (zSet (zSet (zSet (zSet (zSet (zSet (zSet (zSet h 15 0 (h.1 31 0)) 15 1 (h.1 31 1)) 15 2 (h.1 31 2)) 15 3 (h.1 31 3)) 15 4 (h.1 31 4)) 15 5 (h.1 31 5)) 15 6 (h.1 31 6)) 15 7 (h.1 31 7)) 15 8 (h.1 31 8)) 32 16 0 0 3) 33 17 0 0 4) 34 18 0 0 4) 35 19 0 0 4) 36 20 0 0 4) 37 21 0 0 4) 38 22 0 0 4)) : zqm 11 [.ref 15, .ref 31] h Q := by
  refine zqm_of zp_11 (fun n => ?_)
  show zQ n 11 0 [some (.ref 15), some (.ref 31)] [] h Q
  refine zQ_seq 3 (pc' := 5) (L' := [some (.ref 15), some (.ref 31)]) (S' := [.int (h.1 31 0), .ref 15]) (h' := h) zp_11 rfl ?_
  refine zQ_putb zp_11 rfl rfl rfl rfl ?_
  refine zQ_seq 39 (pc' := 83) (L' := [some (.ref 15), some (.ref 31)]) (S' := [.int (Int32.ofInt 3), .int (Int32.ofInt 0), .ref 16, .int (Int32.ofInt 0), .ref 32]) (h' := (zSet (zSet (zSet (zSet (zSet (zSet (zSet (zSet (zSet h 15 0 (h.1 31 0)) 15 1 (h.1 31 1)) 15 2 (h.1 31 2)) 15 3 (h.1 31 3)) 15 4 (h.1 31 4)) 15 5 (h.1 31 5)) 15 6 (h.1 31 6)) 15 7 (h.1 31 7)) 15 8 (h.1 31 8))) zp_11 rfl ?_
  refine zQ_copy (n0 := 3) (n1 := 3) (i := (0 : Int)) (j := (0 : Int)) (l := (3 : Int)) zp_11 rfl rfl rfl rfl kc_0 kc_0 kc_3 (fun _ _ _ _ _ => ?_)
  refine zQ_seq 7 (pc' := 97) (L' := [some (.ref 15), some (.ref 31)]) (S' := [.int (Int32.ofInt 4), .int (Int32.ofInt 0), .ref 17, .int (Int32.ofInt 0), .ref 33]) (h' := (zCpy (zSet (zSet (zSet (zSet (zSet (zSet (zSet (zSet (zSet h 15 0 (h.1 31 0)) 15 1 (h.1 31 1)) 15 2 (h.1 31 2)) 15 3 (h.1 31 3)) 15 4 (h.1 31 4)) 15 5 (h.1 31 5)) 15 6 (h.1 31 6)) 15 7 (h.1 31 7)) 15 8 (h.1 31 8)) 32 16 0 0 3)) zp_11 rfl ?_
  refine zQ_copy (n0 := 4) (n1 := 4) (i := (0 : Int)) (j := (0 : Int)) (l := (4 : Int)) zp_11 rfl rfl rfl rfl kc_0 kc_0 kc_4 (fun _ _ _ _ _ => ?_)
  refine zQ_seq 7 (pc' := 111) (L' := [some (.ref 15), some (.ref 31)]) (S' := [.int (Int32.ofInt 4), .int (Int32.ofInt 0), .ref 18, .int (Int32.ofInt 0), .ref 34]) (h' := (zCpy (zCpy (zSet (zSet (zSet (zSet (zSet (zSet (zSet (zSet (zSet h 15 0 (h.1 31 0)) 15 1 (h.1 31 1)) 15 2 (h.1 31 2)) 15 3 (h.1 31 3)) 15 4 (h.1 31 4)) 15 5 (h.1 31 5)) 15 6 (h.1 31 6)) 15 7 (h.1 31 7)) 15 8 (h.1 31 8)) 32 16 0 0 3) 33 17 0 0 4)) zp_11 rfl ?_
  refine zQ_copy (n0 := 4) (n1 := 4) (i := (0 : Int)) (j := (0 : Int)) (l := (4 : Int)) zp_11 rfl rfl rfl rfl kc_0 kc_0 kc_4 (fun _ _ _ _ _ => ?_)
  refine zQ_seq 7 (pc' := 125) (L' := [some (.ref 15), some (.ref 31)]) (S' := [.int (Int32.ofInt 4), .int (Int32.ofInt 0), .ref 19, .int (Int32.ofInt 0), .ref 35]) (h' := (zCpy (zCpy (zCpy (zSet (zSet (zSet (zSet (zSet (zSet (zSet (zSet (zSet h 15 0 (h.1 31 0)) 15 1 (h.1 31 1)) 15 2 (h.1 31 2)) 15 3 (h.1 31 3)) 15 4 (h.1 31 4)) 15 5 (h.1 31 5)) 15 6 (h.1 31 6)) 15 7 (h.1 31 7)) 15 8 (h.1 31 8)) 32 16 0 0 3) 33 17 0 0 4) 34 18 0 0 4)) zp_11 rfl ?_
  refine zQ_copy (n0 := 4) (n1 := 4) (i := (0 : Int)) (j := (0 : Int)) (l := (4 : Int)) zp_11 rfl rfl rfl rfl kc_0 kc_0 kc_4 (fun _ _ _ _ _ => ?_)
  refine zQ_seq 7 (pc' := 139) (L' := [some (.ref 15), some (.ref 31)]) (S' := [.int (Int32.ofInt 4), .int (Int32.ofInt 0), .ref 20, .int (Int32.ofInt 0), .ref 36]) (h' := (zCpy (zCpy (zCpy (zCpy (zSet (zSet (zSet (zSet (zSet (zSet (zSet (zSet (zSet h 15 0 (h.1 31 0)) 15 1 (h.1 31 1)) 15 2 (h.1 31 2)) 15 3 (h.1 31 3)) 15 4 (h.1 31 4)) 15 5 (h.1 31 5)) 15 6 (h.1 31 6)) 15 7 (h.1 31 7)) 15 8 (h.1 31 8)) 32 16 0 0 3) 33 17 0 0 4) 34 18 0 0 4) 35 19 0 0 4)) zp_11 rfl ?_
  refine zQ_copy (n0 := 4) (n1 := 4) (i := (0 : Int)) (j := (0 : Int)) (l := (4 : Int)) zp_11 rfl rfl rfl rfl kc_0 kc_0 kc_4 (fun _ _ _ _ _ => ?_)
  refine zQ_seq 7 (pc' := 153) (L' := [some (.ref 15), some (.ref 31)]) (S' := [.int (Int32.ofInt 4), .int (Int32.ofInt 0), .ref 21, .int (Int32.ofInt 0), .ref 37]) (h' := (zCpy (zCpy (zCpy (zCpy (zCpy (zSet (zSet (zSet (zSet (zSet (zSet (zSet (zSet (zSet h 15 0 (h.1 31 0)) 15 1 (h.1 31 1)) 15 2 (h.1 31 2)) 15 3 (h.1 31 3)) 15 4 (h.1 31 4)) 15 5 (h.1 31 5)) 15 6 (h.1 31 6)) 15 7 (h.1 31 7)) 15 8 (h.1 31 8)) 32 16 0 0 3) 33 17 0 0 4) 34 18 0 0 4) 35 19 0 0 4) 36 20 0 0 4)) zp_11 rfl ?_
  refine zQ_copy (n0 := 4) (n1 := 4) (i := (0 : Int)) (j := (0 : Int)) (l := (4 : Int)) zp_11 rfl rfl rfl rfl kc_0 kc_0 kc_4 (fun _ _ _ _ _ => ?_)
  refine zQ_seq 7 (pc' := 167) (L' := [some (.ref 15), some (.ref 31)]) (S' := [.int (Int32.ofInt 4), .int (Int32.ofInt 0), .ref 22, .int (Int32.ofInt 0), .ref 38]) (h' := (zCpy (zCpy (zCpy (zCpy (zCpy (zCpy (zSet (zSet (zSet (zSet (zSet (zSet (zSet (zSet (zSet h 15 0 (h.1 31 0)) 15 1 (h.1 31 1)) 15 2 (h.1 31 2)) 15 3 (h.1 31 3)) 15 4 (h.1 31 4)) 15 5 (h.1 31 5)) 15 6 (h.1 31 6)) 15 7 (h.1 31 7)) 15 8 (h.1 31 8)) 32 16 0 0 3) 33 17 0 0 4) 34 18 0 0 4) 35 19 0 0 4) 36 20 0 0 4) 37 21 0 0 4)) zp_11 rfl ?_
  refine zQ_copy (n0 := 4) (n1 := 4) (i := (0 : Int)) (j := (0 : Int)) (l := (4 : Int)) zp_11 rfl rfl rfl rfl kc_0 kc_0 kc_4 (fun _ _ _ _ _ => ?_)
  exact zQ_retV zp_11 rfl H
theorem s_11_15_39 {h : zH} {Q : Option Value → zH → Prop} (H : Q none (zCpy (zCpy (zCpy (zCpy (zCpy (zCpy (zCpy (zSet (zSet (zSet (zSet (zSet (zSet (zSet (zSet (zSet h 15 0 (h.1 39 0)) 15 1 (h.1 39 1)) 15 2 (h.1 39 2)) 15 3 (h.1 39 3)) 15 4 (h.1 39 4)) 15 5 (h.1 39 5)) 15 6 (h.1 39 6)) 15 7 (h.1 39 7)) 15 8 (h.1 39 8)) 40 16 0 0 3) 41 17 0 0 4) 42 18 0 0 4) 43 19 0 0 4) 44 20 0 0 4) 45 21 0 0 4) 46 22 0 0 4)) : zqm 11 [.ref 15, .ref 39] h Q := by
  refine zqm_of zp_11 (fun n => ?_)
  show zQ n 11 0 [some (.ref 15), some (.ref 39)] [] h Q
  refine zQ_seq 3 (pc' := 5) (L' := [some (.ref 15), some (.ref 39)]) (S' := [.int (h.1 39 0), .ref 15]) (h' := h) zp_11 rfl ?_
  refine zQ_putb zp_11 rfl rfl rfl rfl ?_
  refine zQ_seq 39 (pc' := 83) (L' := [some (.ref 15), some (.ref 39)]) (S' := [.int (Int32.ofInt 3), .int (Int32.ofInt 0), .ref 16, .int (Int32.ofInt 0), .ref 40]) (h' := (zSet (zSet (zSet (zSet (zSet (zSet (zSet (zSet (zSet h 15 0 (h.1 39 0)) 15 1 (h.1 39 1)) 15 2 (h.1 39 2)) 15 3 (h.1 39 3)) 15 4 (h.1 39 4)) 15 5 (h.1 39 5)) 15 6 (h.1 39 6)) 15 7 (h.1 39 7)) 15 8 (h.1 39 8))) zp_11 rfl ?_
  refine zQ_copy (n0 := 3) (n1 := 3) (i := (0 : Int)) (j := (0 : Int)) (l := (3 : Int)) zp_11 rfl rfl rfl rfl kc_0 kc_0 kc_3 (fun _ _ _ _ _ => ?_)
  refine zQ_seq 7 (pc' := 97) (L' := [some (.ref 15), some (.ref 39)]) (S' := [.int (Int32.ofInt 4), .int (Int32.ofInt 0), .ref 17, .int (Int32.ofInt 0), .ref 41]) (h' := (zCpy (zSet (zSet (zSet (zSet (zSet (zSet (zSet (zSet (zSet h 15 0 (h.1 39 0)) 15 1 (h.1 39 1)) 15 2 (h.1 39 2)) 15 3 (h.1 39 3)) 15 4 (h.1 39 4)) 15 5 (h.1 39 5)) 15 6 (h.1 39 6)) 15 7 (h.1 39 7)) 15 8 (h.1 39 8)) 40 16 0 0 3)) zp_11 rfl ?_
  refine zQ_copy (n0 := 4) (n1 := 4) (i := (0 : Int)) (j := (0 : Int)) (l := (4 : Int)) zp_11 rfl rfl rfl rfl kc_0 kc_0 kc_4 (fun _ _ _ _ _ => ?_)
  refine zQ_seq 7 (pc' := 111) (L' := [some (.ref 15), some (.ref 39)]) (S' := [.int (Int32.ofInt 4), .int (Int32.ofInt 0), .ref 18, .int (Int32.ofInt 0), .ref 42]) (h' := (zCpy (zCpy (zSet (zSet (zSet (zSet (zSet (zSet (zSet (zSet (zSet h 15 0 (h.1 39 0)) 15 1 (h.1 39 1)) 15 2 (h.1 39 2)) 15 3 (h.1 39 3)) 15 4 (h.1 39 4)) 15 5 (h.1 39 5)) 15 6 (h.1 39 6)) 15 7 (h.1 39 7)) 15 8 (h.1 39 8)) 40 16 0 0 3) 41 17 0 0 4)) zp_11 rfl ?_
  refine zQ_copy (n0 := 4) (n1 := 4) (i := (0 : Int)) (j := (0 : Int)) (l := (4 : Int)) zp_11 rfl rfl rfl rfl kc_0 kc_0 kc_4 (fun _ _ _ _ _ => ?_)
  refine zQ_seq 7 (pc' := 125) (L' := [some (.ref 15), some (.ref 39)]) (S' := [.int (Int32.ofInt 4), .int (Int32.ofInt 0), .ref 19, .int (Int32.ofInt 0), .ref 43]) (h' := (zCpy (zCpy (zCpy (zSet (zSet (zSet (zSet (zSet (zSet (zSet (zSet (zSet h 15 0 (h.1 39 0)) 15 1 (h.1 39 1)) 15 2 (h.1 39 2)) 15 3 (h.1 39 3)) 15 4 (h.1 39 4)) 15 5 (h.1 39 5)) 15 6 (h.1 39 6)) 15 7 (h.1 39 7)) 15 8 (h.1 39 8)) 40 16 0 0 3) 41 17 0 0 4) 42 18 0 0 4)) zp_11 rfl ?_
  refine zQ_copy (n0 := 4) (n1 := 4) (i := (0 : Int)) (j := (0 : Int)) (l := (4 : Int)) zp_11 rfl rfl rfl rfl kc_0 kc_0 kc_4 (fun _ _ _ _ _ => ?_)
  refine zQ_seq 7 (pc' := 139) (L' := [some (.ref 15), some (.ref 39)]) (S' := [.int (Int32.ofInt 4), .int (Int32.ofInt 0), .ref 20, .int (Int32.ofInt 0), .ref 44]) (h' := (zCpy (zCpy (zCpy (zCpy (zSet (zSet (zSet (zSet (zSet (zSet (zSet (zSet (zSet h 15 0 (h.1 39 0)) 15 1 (h.1 39 1)) 15 2 (h.1 39 2)) 15 3 (h.1 39 3)) 15 4 (h.1 39 4)) 15 5 (h.1 39 5)) 15 6 (h.1 39 6)) 15 7 (h.1 39 7)) 15 8 (h.1 39 8)) 40 16 0 0 3) 41 17 0 0 4) 42 18 0 0 4) 43 19 0 0 4)) zp_11 rfl ?_
  refine zQ_copy (n0 := 4) (n1 := 4) (i := (0 : Int)) (j := (0 : Int)) (l := (4 : Int)) zp_11 rfl rfl rfl rfl kc_0 kc_0 kc_4 (fun _ _ _ _ _ => ?_)
  refine zQ_seq 7 (pc' := 153) (L' := [some (.ref 15), some (.ref 39)]) (S' := [.int (Int32.ofInt 4), .int (Int32.ofInt 0), .ref 21, .int (Int32.ofInt 0), .ref 45]) (h' := (zCpy (zCpy (zCpy (zCpy (zCpy (zSet (zSet (zSet (zSet (zSet (zSet (zSet (zSet (zSet h 15 0 (h.1 39 0)) 15 1 (h.1 39 1)) 15 2 (h.1 39 2)) 15 3 (h.1 39 3)) 15 4 (h.1 39 4)) 15 5 (h.1 39 5)) 15 6 (h.1 39 6)) 15 7 (h.1 39 7)) 15 8 (h.1 39 8)) 40 16 0 0 3) 41 17 0 0 4) 42 18 0 0 4) 43 19 0 0 4) 44 20 0 0 4)) zp_11 rfl ?_
  refine zQ_copy (n0 := 4) (n1 := 4) (i := (0 : Int)) (j := (0 : Int)) (l := (4 : Int)) zp_11 rfl rfl rfl rfl kc_0 kc_0 kc_4 (fun _ _ _ _ _ => ?_)
  refine zQ_seq 7 (pc' := 167) (L' := [some (.ref 15), some (.ref 39)]) (S' := [.int (Int32.ofInt 4), .int (Int32.ofInt 0), .ref 22, .int (Int32.ofInt 0), .ref 46]) (h' := (zCpy (zCpy (zCpy (zCpy (zCpy (zCpy (zSet (zSet (zSet (zSet (zSet (zSet (zSet (zSet (zSet h 15 0 (h.1 39 0)) 15 1 (h.1 39 1)) 15 2 (h.1 39 2)) 15 3 (h.1 39 3)) 15 4 (h.1 39 4)) 15 5 (h.1 39 5)) 15 6 (h.1 39 6)) 15 7 (h.1 39 7)) 15 8 (h.1 39 8)) 40 16 0 0 3) 41 17 0 0 4) 42 18 0 0 4) 43 19 0 0 4) 44 20 0 0 4) 45 21 0 0 4)) zp_11 rfl ?_
  refine zQ_copy (n0 := 4) (n1 := 4) (i := (0 : Int)) (j := (0 : Int)) (l := (4 : Int)) zp_11 rfl rfl rfl rfl kc_0 kc_0 kc_4 (fun _ _ _ _ _ => ?_)
  exact zQ_retV zp_11 rfl H
theorem s_11_31_15 {h : zH} {Q : Option Value → zH → Prop} (H : Q none (zCpy (zCpy (zCpy (zCpy (zCpy (zCpy (zCpy (zSet (zSet (zSet (zSet (zSet (zSet (zSet (zSet (zSet h 31 0 (h.1 15 0)) 31 1 (h.1 15 1)) 31 2 (h.1 15 2)) 31 3 (h.1 15 3)) 31 4 (h.1 15 4)) 31 5 (h.1 15 5)) 31 6 (h.1 15 6)) 31 7 (h.1 15 7)) 31 8 (h.1 15 8)) 16 32 0 0 3) 17 33 0 0 4) 18 34 0 0 4) 19 35 0 0 4) 20 36 0 0 4) 21 37 0 0 4) 22 38 0 0 4)) : zqm 11 [.ref 31, .ref 15] h Q := by
  refine zqm_of zp_11 (fun n => ?_)
  show zQ n 11 0 [some (.ref 31), some (.ref 15)] [] h Q
  refine zQ_seq 3 (pc' := 5) (L' := [some (.ref 31), some (.ref 15)]) (S' := [.int (h.1 15 0), .ref 31]) (h' := h) zp_11 rfl ?_
  refine zQ_putb zp_11 rfl rfl rfl rfl ?_
  refine zQ_seq 39 (pc' := 83) (L' := [some (.ref 31), some (.ref 15)]) (S' := [.int (Int32.ofInt 3), .int (Int32.ofInt 0), .ref 32, .int (Int32.ofInt 0), .ref 16]) (h' := (zSet (zSet (zSet (zSet (zSet (zSet (zSet (zSet (zSet h 31 0 (h.1 15 0)) 31 1 (h.1 15 1)) 31 2 (h.1 15 2)) 31 3 (h.1 15 3)) 31 4 (h.1 15 4)) 31 5 (h.1 15 5)) 31 6 (h.1 15 6)) 31 7 (h.1 15 7)) 31 8 (h.1 15 8))) zp_11 rfl ?_
  refine zQ_copy (n0 := 3) (n1 := 3) (i := (0 : Int)) (j := (0 : Int)) (l := (3 : Int)) zp_11 rfl rfl rfl rfl kc_0 kc_0 kc_3 (fun _ _ _ _ _ => ?_)
  refine zQ_seq 7 (pc' := 97) (L' := [some (.ref 31), some (.ref 15)]) (S' := [.int (Int32.ofInt 4), .int (Int32.ofInt 0), .ref 33, .int (Int32.ofInt 0), .ref 17]) (h' := (zCpy (zSet (zSet (zSet (zSet (zSet (zSet (zSet (zSet (zSet h 31 0 (h.1 15 0)) 31 1 (h.1 15 1)) 31 2 (h.1 15 2)) 31 3 (h.1 15 3)) 31 4 (h.1 15 4)) 31 5 (h.1 15 5)) 31 6 (h.1 15 6)) 31 7 (h.1 15 7)) 31 8 (h.1 15 8)) 16 32 0 0 3)) zp_11 rfl ?_
  refine zQ_copy (n0 := 4) (n1 := 4) (i := (0 : Int)) (j := (0 : Int)) (l := (4 : Int)) zp_11 rfl rfl rfl rfl kc_0 kc_0 kc_4 (fun _ _ _ _ _ => ?_)
  refine zQ_seq 7 (pc' := 111) (L' := [some (.ref 31), some (.ref 15)]) (S' := [.int (Int32.ofInt 4), .int (Int32.ofInt 0), .ref 34, .int (Int32.ofInt 0), .ref 18]) (h' := (zCpy (zCpy (zSet (zSet (zSet (zSet (zSet (zSet (zSet (zSet (zSet h 31 0 (h.1 15 0)) 31 1 (h.1 15 1)) 31 2 (h.1 15 2)) 31 3 (h.1 15 3)) 31 4 (h.1 15 4)) 31 5 (h.1 15 5)) 31 6 (h.1 15 6)) 31 7 (h.1 15 7)) 31 8 (h.1 15 8)) 16 32 0 0 3) 17 33 0 0 4)) zp_11 rfl ?_
  refine zQ_copy (n0 := 4) (n1 := 4) (i := (0 : Int)) (j := (0 : Int)) (l := (4 : Int)) zp_11 rfl rfl rfl rfl kc_0 kc_0 kc_4 (fun _ _ _ _ _ => ?_)
  refine zQ_seq 7 (pc' := 125) (L' := [some (.ref 31), some (.ref 15)]) (S' := [.int (Int32.ofInt 4), .int (Int32.ofInt 0), .ref 35, .int (Int32.ofInt 0), .ref 19]) (h' := (zCpy (zCpy (zCpy (zSet (zSet (zSet (zSet (zSet (zSet (zSet (zSet (zSet h 31 0 (h.1 15 0)) 31 1 (h.1 15 1)) 31 2 (h.1 15 2)) 31 3 (h.1 15 3)) 31 4 (h.1 15 4)) 31 5 (h.1 15 5)) 31 6 (h.1 15 6)) 31 7 (h.1 15 7)) 31 8 (h.1 15 8)) 16 32 0 0 3) 17 33 0 0 4) 18 34 0 0 4)) zp_11 rfl ?_
  refine zQ_copy (n0 := 4) (n1 := 4) (i := (0 : Int)) (j := (0 : Int)) (l := (4 : Int)) zp_11 rfl rfl rfl rfl kc_0 kc_0 kc_4 (fun _ _ _ _ _ => ?_)
  refine zQ_seq 7 (pc' := 139) (L' := [some (.ref 31), some (.ref 15)]) (S' := [.int (Int32.ofInt 4), .int (Int32.ofInt 0), .ref 36, .int (Int32.ofInt 0), .ref 20]) (h' := (zCpy (zCpy (zCpy (zCpy (zSet (zSet (zSet (zSet (zSet (zSet (zSet (zSet (zSet h 31 0 (h.1 15 0)) 31 1 (h.1 15 1)) 31 2 (h.1 15 2)) 31 3 (h.1 15 3)) 31 4 (h.1 15 4)) 31 5 (h.1 15 5)) 31 6 (h.1 15 6)) 31 7 (h.1 15 7)) 31 8 (h.1 15 8)) 16 32 0 0 3) 17 33 0 0 4) 18 34 0 0 4) 19 35 0 0 4)) zp_11 rfl ?_
  refine zQ_copy (n0 := 4) (n1 := 4) (i := (0 : Int)) (j := (0 : Int)) (l := (4 : Int)) zp_11 rfl rfl rfl rfl kc_0 kc_0 kc_4 (fun _ _ _ _ _ => ?_)
  refine zQ_seq 7 (pc' := 153) (L' := [some (.ref 31), some (.ref 15)]) (S' := [.int (Int32.ofInt 4), .int (Int32.ofInt 0), .ref 37, .int (Int32.ofInt 0), .ref 21]) (h' := (zCpy (zCpy (zCpy (zCpy (zCpy (zSet (zSet (zSet (zSet (zSet (zSet (zSet (zSet (zSet h 31 0 (h.1 15 0)) 31 1 (h.1 15 1)) 31 2 (h.1 15 2)) 31 3 (h.1 15 3)) 31 4 (h.1 15 4)) 31 5 (h.1 15 5)) 31 6 (h.1 15 6)) 31 7 (h.1 15 7)) 31 8 (h.1 15 8)) 16 32 0 0 3) 17 33 0 0 4) 18 34 0 0 4) 19 35 0 0 4) 20 36 0 0 4)) zp_11 rfl ?_
  refine zQ_copy (n0 := 4) (n1 := 4) (i := (0 : Int)) (j := (0 : Int)) (l := (4 : Int)) zp_11 rfl rfl rfl rfl kc_0 kc_0 kc_4 (fun _ _ _ _ _ => ?_)
  refine zQ_seq 7 (pc' := 167) (L' := [some (.ref 31), some (.ref 15)]) (S' := [.int (Int32.ofInt 4), .int (Int32.ofInt 0), .ref 38, .int (Int32.ofInt 0), .ref 22]) (h' := (zCpy (zCpy (zCpy (zCpy (zCpy (zCpy (zSet (zSet (zSet (zSet (zSet (zSet (zSet (zSet (zSet h 31 0 (h.1 15 0)) 31 1 (h.1 15 1)) 31 2 (h.1 15 2)) 31 3 (h.1 15 3)) 31 4 (h.1 15 4)) 31 5 (h.1 15 5)) 31 6 (h.1 15 6)) 31 7 (h.1 15 7)) 31 8 (h.1 15 8)) 16 32 0 0 3) 17 33 0 0 4) 18 34 0 0 4) 19 35 0 0 4) 20 36 0 0 4) 21 37 0 0 4)) zp_11 rfl ?_
  refine zQ_copy (n0 := 4) (n1 := 4) (i := (0 : Int)) (j := (0 : Int)) (l := (4 : Int)) zp_11 rfl rfl rfl rfl kc_0 kc_0 kc_4 (fun _ _ _ _ _ => ?_)
  exact zQ_retV zp_11 rfl H
theorem s_11_39_15 {h : zH} {Q : Option Value → zH → Prop} (H : Q none (zCpy (zCpy (zCpy (zCpy (zCpy (zCpy (zCpy (zSet (zSet (zSet (zSet (zSet (zSet (zSet (zSet (zSet h 39 0 (h.1 15 0)) 39 1 (h.1 15 1)) 39 2 (h.1 15 2)) 39 3 (h.1 15 3)) 39 4 (h.1 15 4)) 39 5 (h.1 15 5)) 39 6 (h.1 15 6)) 39 7 (h.1 15 7)) 39 8 (h.1 15 8)) 16 40 0 0 3) 17 41 0 0 4) 18 42 0 0 4) 19 43 0 0 4) 20 44 0 0 4) 21 45 0 0 4) 22 46 0 0 4)) : zqm 11 [.ref 39, .ref 15] h Q := by
  refine zqm_of zp_11 (fun n => ?_)
  show zQ n 11 0 [some (.ref 39), some (.ref 15)] [] h Q
  refine zQ_seq 3 (pc' := 5) (L' := [some (.ref 39), some (.ref 15)]) (S' := [.int (h.1 15 0), .ref 39]) (h' := h) zp_11 rfl ?_
  refine zQ_putb zp_11 rfl rfl rfl rfl ?_
  refine zQ_seq 39 (pc' := 83) (L' := [some (.ref 39), some (.ref 15)]) (S' := [.int (Int32.ofInt 3), .int (Int32.ofInt 0), .ref 40, .int (Int32.ofInt 0), .ref 16]) (h' := (zSet (zSet (zSet (zSet (zSet (zSet (zSet (zSet (zSet h 39 0 (h.1 15 0)) 39 1 (h.1 15 1)) 39 2 (h.1 15 2)) 39 3 (h.1 15 3)) 39 4 (h.1 15 4)) 39 5 (h.1 15 5)) 39 6 (h.1 15 6)) 39 7 (h.1 15 7)) 39 8 (h.1 15 8))) zp_11 rfl ?_
  refine zQ_copy (n0 := 3) (n1 := 3) (i := (0 : Int)) (j := (0 : Int)) (l := (3 : Int)) zp_11 rfl rfl rfl rfl kc_0 kc_0 kc_3 (fun _ _ _ _ _ => ?_)
  refine zQ_seq 7 (pc' := 97) (L' := [some (.ref 39), some (.ref 15)]) (S' := [.int (Int32.ofInt 4), .int (Int32.ofInt 0), .ref 41, .int (Int32.ofInt 0), .ref 17]) (h' := (zCpy (zSet (zSet (zSet (zSet (zSet (zSet (zSet (zSet (zSet h 39 0 (h.1 15 0)) 39 1 (h.1 15 1)) 39 2 (h.1 15 2)) 39 3 (h.1 15 3)) 39 4 (h.1 15 4)) 39 5 (h.1 15 5)) 39 6 (h.1 15 6)) 39 7 (h.1 15 7)) 39 8 (h.1 15 8)) 16 40 0 0 3)) zp_11 rfl ?_
  refine zQ_copy (n0 := 4) (n1 := 4) (i := (0 : Int)) (j := (0 : Int)) (l := (4 : Int)) zp_11 rfl rfl rfl rfl kc_0 kc_0 kc_4 (fun _ _ _ _ _ => ?_)
  refine zQ_seq 7 (pc' := 111) (L' := [some (.ref 39), some (.ref 15)]) (S' := [.int (Int32.ofInt 4), .int (Int32.ofInt 0), .ref 42, .int (Int32.ofInt 0), .ref 18]) (h' := (zCpy (zCpy (zSet (zSet (zSet (zSet (zSet (zSet (zSet (zSet (zSet h 39 0 (h.1 15 0)) 39 1 (h.1 15 1)) 39 2 (h.1 15 2)) 39 3 (h.1 15 3)) 39 4 (h.1 15 4)) 39 5 (h.1 15 5)) 39 6 (h.1 15 6)) 39 7 (h.1 15 7)) 39 8 (h.1 15 8)) 16 40 0 0 3) 17 41 0 0 4)) zp_11 rfl ?_
  refine zQ_copy (n0 := 4) (n1 := 4) (i := (0 : Int)) (j := (0 : Int)) (l := (4 : Int)) zp_11 rfl rfl rfl rfl kc_0 kc_0 kc_4 (fun _ _ _ _ _ => ?_)
  refine zQ_seq 7 (pc' := 125) (L' := [some (.ref 39), some (.ref 15)]) (S' := [.int (Int32.ofInt 4), .int (Int32.ofInt 0), .ref 43, .int (Int32.ofInt 0), .ref 19]) (h' := (zCpy (zCpy (zCpy (zSet (zSet (zSet (zSet (zSet (zSet (zSet (zSet (zSet h 39 0 (h.1 15 0)) 39 1 (h.1 15 1)) 39 2 (h.1 15 2)) 39 3 (h.1 15 3)) 39 4 (h.1 15 4)) 39 5 (h.1 15 5)) 39 6 (h.1 15 6)) 39 7 (h.1 15 7)) 39 8 (h.1 15 8)) 16 40 0 0 3) 17 41 0 0 4) 18 42 0 0 4)) zp_11 rfl ?_
  refine zQ_copy (n0 := 4) (n1 := 4) (i := (0 : Int)) (j := (0 : Int)) (l := (4 : Int)) zp_11 rfl rfl rfl rfl kc_0 kc_0 kc_4 (fun _ _ _ _ _ => ?_)
  refine zQ_seq 7 (pc' := 139) (L' := [some (.ref 39), some (.ref 15)]) (S' := [.int (Int32.ofInt 4), .int (Int32.ofInt 0), .ref 44, .int (Int32.ofInt 0), .ref 20]) (h' := (zCpy (zCpy (zCpy (zCpy (zSet (zSet (zSet (zSet (zSet (zSet (zSet (zSet (zSet h 39 0 (h.1 15 0)) 39 1 (h.1 15 1)) 39 2 (h.1 15 2)) 39 3 (h.1 15 3)) 39 4 (h.1 15 4)) 39 5 (h.1 15 5)) 39 6 (h.1 15 6)) 39 7 (h.1 15 7)) 39 8 (h.1 15 8)) 16 40 0 0 3) 17 41 0 0 4) 18 42 0 0 4) 19 43 0 0 4)) zp_11 rfl ?_
  refine zQ_copy (n0 := 4) (n1 := 4) (i := (0 : Int)) (j := (0 : Int)) (l := (4 : Int)) zp_11 rfl rfl rfl rfl kc_0 kc_0 kc_4 (fun _ _ _ _ _ => ?_)
  refine zQ_seq 7 (pc' := 153) (L' := [some (.ref 39), some (.ref 15)]) (S' := [.int (Int32.ofInt 4), .int (Int32.ofInt 0), .ref 45, .int (Int32.ofInt 0), .ref 21]) (h' := (zCpy (zCpy (zCpy (zCpy (zCpy (zSet (zSet (zSet (zSet (zSet (zSet (zSet (zSet (zSet h 39 0 (h.1 15 0)) 39 1 (h.1 15 1)) 39 2 (h.1 15 2)) 39 3 (h.1 15 3)) 39 4 (h.1 15 4)) 39 5 (h.1 15 5)) 39 6 (h.1 15 6)) 39 7 (h.1 15 7)) 39 8 (h.1 15 8)) 16 40 0 0 3) 17 41 0 0 4) 18 42 0 0 4) 19 43 0 0 4) 20 44 0 0 4)) zp_11 rfl ?_
  refine zQ_copy (n0 := 4) (n1 := 4) (i := (0 : Int)) (j := (0 : Int)) (l := (4 : Int)) zp_11 rfl rfl rfl rfl kc_0 kc_0 kc_4 (fun _ _ _ _ _ => ?_)
  refine zQ_seq 7 (pc' := 167) (L' := [some (.ref 39), some (.ref 15)]) (S' := [.int (Int32.ofInt 4), .int (Int32.ofInt 0), .ref 46, .int (Int32.ofInt 0), .ref 22]) (h' := (zCpy (zCpy (zCpy (zCpy (zCpy (zCpy (zSet (zSet (zSet (zSet (zSet (zSet (zSet (zSet (zSet h 39 0 (h.1 15 0)) 39 1 (h.1 15 1)) 39 2 (h.1 15 2)) 39 3 (h.1 15 3)) 39 4 (h.1 15 4)) 39 5 (h.1 15 5)) 39 6 (h.1 15 6)) 39 7 (h.1 15 7)) 39 8 (h.1 15 8)) 16 40 0 0 3) 17 41 0 0 4) 18 42 0 0 4) 19 43 0 0 4) 20 44 0 0 4) 21 45 0 0 4)) zp_11 rfl ?_
  refine zQ_copy (n0 := 4) (n1 := 4) (i := (0 : Int)) (j := (0 : Int)) (l := (4 : Int)) zp_11 rfl rfl rfl rfl kc_0 kc_0 kc_4 (fun _ _ _ _ _ => ?_)
  exact zQ_retV zp_11 rfl H
theorem s_12 {h : zH} {Q : Option Value → zH → Prop} (H : (∀ n, zQ n 12 7 [some (.ref 23), some (.int (Int32.ofInt 0)), none] [] (zSet h 23 7 (Int32.ofInt 0)) Q)) : zqm 12 [.ref 23] h Q := by
  refine zqm_of zp_12 (fun n => ?_)
  have H := H n
  show zQ n 12 0 [some (.ref 23), none, none] [] h Q
  refine zQ_seq 5 (pc' := 7) (L' := [some (.ref 23), some (.int (Int32.ofInt 0)), none]) (S' := []) (h' := (zSet h 23 7 (Int32.ofInt 0))) zp_12 rfl ?_
  exact H
theorem s_12_7 {n : Nat} {h : zH} {Q : Option Value → zH → Prop} (x1 : Int32) (o2 : Option Value) (H : (((3 : Int) ≤ x1.toInt → zQ n 12 53 [some (.ref 23), some (.int (Int32.ofInt 0)), o2] [] (zSet h 23 8 (Int32.ofInt 0)) Q) ∧ (¬ ((3 : Int) ≤ x1.toInt) → (0 ≤ x1.toInt → x1.toInt < 3 → zqm 14 [.int ((Int32.ofInt 32767) &&& ((h.1 24 x1.toInt.toNat) ^^^ (Int32.ofInt (-1))))] h (fun rv h3 => zri rv (fun v3 => zQ n 12 7 [some (.ref 23), some (.int (x1 + Int32.ofInt 1)), some (.int (h.1 24 x1.toInt.toNat))] [] (zSet h3 23 7 ((h.1 23 7) ||| ((h.1 24 x1.toInt.toNat) &&& v3))) Q)))))) : zQ (n + 1) 12 7 [some (.ref 23), some (.int x1), o2] [] h Q := by
  refine zQ_seqL 1 (pc' := 9) (L' := [some (.ref 23), some (.int x1), o2]) (S' := [.int (Int32.ofInt 3), .int x1]) (h' := h) zp_12 rfl ?_
  refine zQ_ic zp_12 rfl (t := 46) rfl (i := x1.toInt) (j := (3 : Int)) rfl kc_3 (fun c1 => ?_) (fun c1 => ?_)
  · refine zQ_seq 5 (pc' := 53) (L' := [some (.ref 23), some (.int (Int32.ofInt 0)), o2]) (S' := []) (h' := (zSet h 23 8 (Int32.ofInt 0))) zp_12 rfl ?_
    exact (H.1 c1)
  · refine zQ_seq 3 (pc' := 17) (L' := [some (.ref 23), some (.int x1), o2]) (S' := [.int x1, .ref 24]) (h' := h) zp_12 rfl ?_
    refine zQ_ial (N := 3) (f := h.1 24) zp_12 rfl rfl rfl (fun b2 b2' => ?_)
    refine zQ_seq 10 (pc' := 32) (L' := [some (.ref 23), some (.int x1), some (.int (h.1 24 x1.toInt.toNat))]) (S' := [.int ((Int32.ofInt 32767) &&& ((h.1 24 x1.toInt.toNat) ^^^ (Int32.ofInt (-1)))), .int (h.1 24 x1.toInt.toNat), .int (h.1 23 7), .ref 23]) (h' := h) zp_12 rfl ?_
    refine zQ_csI (M' := 14) (as := [.int ((Int32.ofInt 32767) &&& ((h.1 24 x1.toInt.toNat) ^^^ (Int32.ofInt (-1))))]) (S' := [.int (h.1 24 x1.toInt.toNat), .int (h.1 23 7), .ref 23]) zp_12 rfl rfl rfl zp_14 (Or.inl rfl) rfl rfl (zqm_imp ((H.2 c1) b2 b2') (fun rv h3 r3 => zri_imp r3 (fun v3 r3' => ?_)))
    refine zQ_seq 4 (pc' := 43) (L' := [some (.ref 23), some (.int (x1 + Int32.ofInt 1)), some (.int (h.1 24 x1.toInt.toNat))]) (S' := []) (h' := (zSet h3 23 7 ((h.1 23 7) ||| ((h.1 24 x1.toInt.toNat) &&& v3)))) zp_12 rfl ?_
    refine zQ_goto zp_12 rfl (t := 7) rfl ?_
    exact r3'
theorem s_12_53 {n : Nat} {h : zH} {Q : Option Value → zH → Prop} (x1 : Int32) (o2 : Option Value) (H : (((h.1 23 6).toInt ≤ x1.toInt → Q none (zSet h 23 0 (Int32.ofInt 1))) ∧ (¬ ((h.1 23 6).toInt ≤ x1.toInt) → zqm 13 [.ref 23, .int x1] h (fun _ h2 => zQ n 12 53 [some (.ref 23), some (.int (x1 + Int32.ofInt 1)), o2] [] h2 Q)))) : zQ (n + 1) 12 53 [some (.ref 23), some (.int x1), o2] [] h Q := by
  refine zQ_seqL 2 (pc' := 58) (L' := [some (.ref 23), some (.int x1), o2]) (S' := [.int (h.1 23 6), .int x1]) (h' := h) zp_12 rfl ?_
  refine zQ_ic zp_12 rfl (t := 72) rfl (i := x1.toInt) (j := (h.1 23 6).toInt) rfl rfl (fun c1 => ?_) (fun c1 => ?_)
  · refine zQ_seq 2 (pc' := 74) (L' := [some (.ref 23), some (.int x1), o2]) (S' := [.int (Int32.ofInt 1), .ref 23]) (h' := h) zp_12 rfl ?_
    refine zQ_putb zp_12 rfl rfl rfl rfl ?_
    exact zQ_retV zp_12 rfl (H.1 c1)
  · refine zQ_seq 2 (pc' := 63) (L' := [some (.ref 23), some (.int x1), o2]) (S' := [.int x1, .ref 23]) (h' := h) zp_12 rfl ?_
    refine zQ_cvV (M' := 13) (as := [.ref 23, .int x1]) (S' := []) zp_12 rfl rfl zp_13 rfl rfl rfl (zqm_imp (H.2 c1) (fun rv h2 r2 => ?_))
    refine zQ_seq 1 (pc' := 69) (L' := [some (.ref 23), some (.int (x1 + Int32.ofInt 1)), o2]) (S' := []) (h' := h2) zp_12 rfl ?_
    refine zQ_goto zp_12 rfl (t := 53) rfl ?_
    exact r2
theorem s_13 {h : zH} {Q : Option Value → zH → Prop} (a1 : Int32) (H : zqm 20 [.ref 23, .int a1] h (fun rv h1 => zri rv (fun v1 => ((¬ v1.toInt = 0 → zqm 21 [.ref 23, .int a1] h1 (fun rv h3 => zri rv (fun v3 => zqm 14 [.int v3] h3 (fun rv h4 => zri rv (fun v4 => (0 ≤ a1.toInt → a1.toInt < 4 → (0 ≤ a1.toInt → a1.toInt < 4 → (0 ≤ a1.toInt → a1.toInt < 4 → zqm 15 [.int (h4.1 25 a1.toInt.toNat), .int (h4.1 27 a1.toInt.toNat)] (zSet h4 28 a1.toInt.toNat (v3 ||| (v4 &&& (h4.1 23 7)))) (fun rv h8 => zri rv (fun v8 => (0 ≤ a1.toInt → a1.toInt < 4 → (0 ≤ a1.toInt → a1.toInt < 4 → (0 ≤ a1.toInt → a1.toInt < 4 → zqm 16 [.int (h8.1 25 a1.toInt.toNat), .int (h8.1 27 a1.toInt.toNat)] (zSet h8 29 a1.toInt.toNat v8) (fun rv h12 => zri rv (fun v12 => (0 ≤ a1.toInt → a1.toInt < 4 → (0 ≤ a1.toInt → a1.toInt < 4 → (((h12.1 29 a1.toInt.toNat).toInt ≤ 0 → (0 ≤ a1.toInt → a1.toInt < 4 → ((((zSet h12 30 a1.toInt.toNat v12).1 30 a1.toInt.toNat).toInt ≤ 0 → Q none (zSet (zSet (zSet h12 30 a1.toInt.toNat v12) 23 8 ((h12.1 23 8) ||| (Int32.ofInt 0))) 23 8 (((h12.1 23 8) ||| (Int32.ofInt 0)) ||| (Int32.ofInt 0)))) ∧ (¬ (((zSet h12 30 a1.toInt.toNat v12).1 30 a1.toInt.toNat).toInt ≤ 0) → (0 ≤ a1.toInt → a1.toInt < 4 → Q none (zSet (zSet (zSet h12 30 a1.toInt.toNat v12) 23 8 ((h12.1 23 8) ||| (Int32.ofInt 0))) 23 8 (((h12.1 23 8) ||| (Int32.ofInt 0)) ||| ((h12.1 28 a1.toInt.toNat) &&& ((h12.1 23 7) ^^^ (Int32.ofInt (-1))))))))))) ∧ (¬ ((h12.1 29 a1.toInt.toNat).toInt ≤ 0) → (0 ≤ a1.toInt → a1.toInt < 4 → (0 ≤ a1.toInt → a1.toInt < 4 → ((((zSet h12 30 a1.toInt.toNat v12).1 30 a1.toInt.toNat).toInt ≤ 0 → Q none (zSet (zSet (zSet h12 30 a1.toInt.toNat v12) 23 8 ((h12.1 23 8) ||| ((h12.1 28 a1.toInt.toNat) &&& (h12.1 23 7)))) 23 8 (((h12.1 23 8) ||| ((h12.1 28 a1.toInt.toNat) &&& (h12.1 23 7))) ||| (Int32.ofInt 0)))) ∧ (¬ (((zSet h12 30 a1.toInt.toNat v12).1 30 a1.toInt.toNat).toInt ≤ 0) → (0 ≤ a1.toInt → a1.toInt < 4 → Q none (zSet (zSet (zSet h12 30 a1.toInt.toNat v12) 23 8 ((h12.1 23 8) ||| ((h12.1 28 a1.toInt.toNat) &&& (h12.1 23 7)))) 23 8 (((h12.1 23 8) ||| ((h12.1 28 a1.toInt.toNat) &&& (h12.1 23 7))) ||| ((h12.1 28 a1.toInt.toNat) &&& ((h12.1 23 7) ^^^ (Int32.ofInt (-1)))))))))))))))))))))))))))))) ∧ (¬ (¬ v1.toInt = 0) → Q none h1))))) : zqm 13 [.ref 23, .int a1] h Q := by
  refine zqm_of zp_13 (fun n => ?_)
  show zQ n 13 0 [some (.ref 23), some (.int a1), none] [] h Q
  refine zQ_seq 2 (pc' := 2) (L' := [some (.ref 23), some (.int a1), none]) (S' := [.int a1, .ref 23]) (h' := h) zp_13 rfl ?_
  refine zQ_cvI (M' := 20) (as := [.ref 23, .int a1]) (S' := []) zp_13 rfl rfl zp_20 (Or.inr rfl) rfl rfl (zqm_imp H (fun rv h1 r1 => zri_imp r1 (fun v1 r1' => ?_)))
  refine zQ_if zp_13 rfl (t := 9) rfl (i := v1.toInt) rfl (fun c2 => ?_) (fun c2 => ?_)
  · refine zQ_seq 2 (pc' := 11) (L' := [some (.ref 23), some (.int a1), none]) (S' := [.int a1, .ref 23]) (h' := h1) zp_13 rfl ?_
    refine zQ_cvI (M' := 21) (as := [.ref 23, .int a1]) (S' := []) zp_13 rfl rfl zp_21 (Or.inl rfl) rfl rfl (zqm_imp (r1'.1 c2) (fun rv h3 r3 => zri_imp r3 (fun v3 r3' => ?_)))
    refine zQ_seq 6 (pc' := 22) (L' := [some (.ref 23), some (.int a1), some (.int v3)]) (S' := [.int v3, .int v3, .int a1, .ref 28]) (h' := h3) zp_13 rfl ?_
    refine zQ_csI (M' := 14) (as := [.int v3]) (S' := [.int v3, .int a1, .ref 28]) zp_13 rfl rfl rfl zp_14 (Or.inl rfl) rfl rfl (zqm_imp r3' (fun rv h4 r4 => zri_imp r4 (fun v4 r4' => ?_)))
    refine zQ_seq 4 (pc' := 31) (L' := [some (.ref 23), some (.int a1), some (.int v3)]) (S' := [.int (v3 ||| (v4 &&& (h4.1 23 7))), .int a1, .ref 28]) (h' := h4) zp_13 rfl ?_
    refine zQ_ias (N := 4) zp_13 rfl rfl rfl (fun b5 b5' => ?_)
    refine zQ_seq 6 (pc' := 42) (L' := [some (.ref 23), some (.int a1), some (.int v3)]) (S' := [.int a1, .ref 25, .int a1, .ref 29]) (h' := (zSet h4 28 a1.toInt.toNat (v3 ||| (v4 &&& (h4.1 23 7))))) zp_13 rfl ?_
    refine zQ_ial (N := 4) (f := (zSet h4 28 a1.toInt.toNat (v3 ||| (v4 &&& (h4.1 23 7)))).1 25) zp_13 rfl rfl rfl (fun b6 b6' => ?_)
    refine zQ_seq 3 (pc' := 48) (L' := [some (.ref 23), some (.int a1), some (.int v3)]) (S' := [.int a1, .ref 27, .int (h4.1 25 a1.toInt.toNat), .int a1, .ref 29]) (h' := (zSet h4 28 a1.toInt.toNat (v3 ||| (v4 &&& (h4.1 23 7))))) zp_13 rfl ?_
    refine zQ_ial (N := 4) (f := (zSet h4 28 a1.toInt.toNat (v3 ||| (v4 &&& (h4.1 23 7)))).1 27) zp_13 rfl rfl rfl (fun b7 b7' => ?_)
    refine zQ_csI (M' := 15) (as := [.int (h4.1 25 a1.toInt.toNat), .int (h4.1 27 a1.toInt.toNat)]) (S' := [.int a1, .ref 29]) zp_13 rfl rfl rfl zp_15 (Or.inl rfl) rfl rfl (zqm_imp (((r4' b5 b5') b6 b6') b7 b7') (fun rv h8 r8 => zri_imp r8 (fun v8 r8' => ?_)))
    refine zQ_ias (N := 4) zp_13 rfl rfl rfl (fun b9 b9' => ?_)
    refine zQ_seq 6 (pc' := 63) (L' := [some (.ref 23), some (.int a1), some (.int v3)]) (S' := [.int a1, .ref 25, .int a1, .ref 30]) (h' := (zSet h8 29 a1.toInt.toNat v8)) zp_13 rfl ?_
    refine zQ_ial (N := 4) (f := (zSet h8 29 a1.toInt.toNat v8).1 25) zp_13 rfl rfl rfl (fun b10 b10' => ?_)
    refine zQ_seq 3 (pc' := 69) (L' := [some (.ref 23), some (.int a1), some (.int v3)]) (S' := [.int a1, .ref 27, .int (h8.1 25 a1.toInt.toNat), .int a1, .ref 30]) (h' := (zSet h8 29 a1.toInt.toNat v8)) zp_13 rfl ?_
    refine zQ_ial (N := 4) (f := (zSet h8 29 a1.toInt.toNat v8).1 27) zp_13 rfl rfl rfl (fun b11 b11' => ?_)
    refine zQ_csI (M' := 16) (as := [.int (h8.1 25 a1.toInt.toNat), .int (h8.1 27 a1.toInt.toNat)]) (S' := [.int a1, .ref 30]) zp_13 rfl rfl rfl zp_16 (Or.inl rfl) rfl rfl (zqm_imp (((r8' b9 b9') b10 b10') b11 b11') (fun rv h12 r12 => zri_imp r12 (fun v12 r12' => ?_)))
    refine zQ_ias (N := 4) zp_13 rfl rfl rfl (fun b13 b13' => ?_)
    refine zQ_seq 6 (pc' := 84) (L' := [some (.ref 23), some (.int a1), some (.int v3)]) (S' := [.int a1, .ref 29, .int (h12.1 23 8), .ref 23]) (h' := (zSet h12 30 a1.toInt.toNat v12)) zp_13 rfl ?_
    refine zQ_ial (N := 4) (f := (zSet h12 30 a1.toInt.toNat v12).1 29) zp_13 rfl rfl rfl (fun b14 b14' => ?_)
    refine zQ_if zp_13 rfl (t := 102) rfl (i := (h12.1 29 a1.toInt.toNat).toInt) rfl (fun c15 => ?_) (fun c15 => ?_)
    · refine zQ_seq 9 (pc' := 117) (L' := [some (.ref 23), some (.int a1), some (.int v3)]) (S' := [.int a1, .ref 30, .int ((h12.1 23 8) ||| (Int32.ofInt 0)), .ref 23]) (h' := (zSet (zSet h12 30 a1.toInt.toNat v12) 23 8 ((h12.1 23 8) ||| (Int32.ofInt 0)))) zp_13 rfl ?_
      refine zQ_ial (N := 4) (f := (zSet (zSet h12 30 a1.toInt.toNat v12) 23 8 ((h12.1 23 8) ||| (Int32.ofInt 0))).1 30) zp_13 rfl rfl rfl (fun b16 b16' => ?_)
      refine zQ_if zp_13 rfl (t := 137) rfl (i := ((zSet h12 30 a1.toInt.toNat v12).1 30 a1.toInt.toNat).toInt) rfl (fun c17 => ?_) (fun c17 => ?_)
      · refine zQ_seq 3 (pc' := 142) (L' := [some (.ref 23), some (.int a1), some (.int v3)]) (S' := []) (h' := (zSet (zSet (zSet h12 30 a1.toInt.toNat v12) 23 8 ((h12.1 23 8) ||| (Int32.ofInt 0))) 23 8 (((h12.1 23 8) ||| (Int32.ofInt 0)) ||| (Int32.ofInt 0)))) zp_13 rfl ?_
        exact zQ_retV zp_13 rfl (((((r12' b13 b13') b14 b14').1 c15) b16 b16').1 c17)
      · refine zQ_seq 3 (pc' := 126) (L' := [some (.ref 23), some (.int a1), some (.int v3)]) (S' := [.int a1, .ref 28, .int ((h12.1 23 8) ||| (Int32.ofInt 0)), .ref 23]) (h' := (zSet (zSet h12 30 a1.toInt.toNat v12) 23 8 ((h12.1 23 8) ||| (Int32.ofInt 0)))) zp_13 rfl ?_
        refine zQ_ial (N := 4) (f := (zSet (zSet h12 30 a1.toInt.toNat v12) 23 8 ((h12.1 23 8) ||| (Int32.ofInt 0))).1 28) zp_13 rfl rfl rfl (fun b18 b18' => ?_)
        refine zQ_seq 5 (pc' := 134) (L' := [some (.ref 23), some (.int a1), some (.int v3)]) (S' := [.int ((h12.1 28 a1.toInt.toNat) &&& ((h12.1 23 7) ^^^ (Int32.ofInt (-1)))), .int ((h12.1 23 8) ||| (Int32.ofInt 0)), .ref 23]) (h' := (zSet (zSet h12 30 a1.toInt.toNat v12) 23 8 ((h12.1 23 8) ||| (Int32.ofInt 0)))) zp_13 rfl ?_
        refine zQ_goto zp_13 rfl (t := 138) rfl ?_
        refine zQ_seq 2 (pc' := 142) (L' := [some (.ref 23), some (.int a1), some (.int v3)]) (S' := []) (h' := (zSet (zSet (zSet h12 30 a1.toInt.toNat v12) 23 8 ((h12.1 23 8) ||| (Int32.ofInt 0))) 23 8 (((h12.1 23 8) ||| (Int32.ofInt 0)) ||| ((h12.1 28 a1.toInt.toNat) &&& ((h12.1 23 7) ^^^ (Int32.ofInt (-1))))))) zp_13 rfl ?_
        exact zQ_retV zp_13 rfl ((((((r12' b13 b13') b14 b14').1 c15) b16 b16').2 c17) b18 b18')
    · refine zQ_seq 3 (pc' := 93) (L' := [some (.ref 23), some (.int a1), some (.int v3)]) (S' := [.int a1, .ref 28, .int (h12.1 23 8), .ref 23]) (h' := (zSet h12 30 a1.toInt.toNat v12)) zp_13 rfl ?_
      refine zQ_ial (N := 4) (f := (zSet h12 30 a1.toInt.toNat v12).1 28) zp_13 rfl rfl rfl (fun b19 b19' => ?_)
      refine zQ_seq 3 (pc' := 99) (L' := [some (.ref 23), some (.int a1), some (.int v3)]) (S' := [.int ((h12.1 28 a1.toInt.toNat) &&& (h12.1 23 7)), .int (h12.1 23 8), .ref 23]) (h' := (zSet h12 30 a1.toInt.toNat v12)) zp_13 rfl ?_
      refine zQ_goto zp_13 rfl (t := 103) rfl ?_
      refine zQ_seq 8 (pc' := 117) (L' := [some (.ref 23), some (.int a1), some (.int v3)]) (S' := [.int a1, .ref 30, .int ((h12.1 23 8) ||| ((h12.1 28 a1.toInt.toNat) &&& (h12.1 23 7))), .ref 23]) (h' := (zSet (zSet h12 30 a1.toInt.toNat v12) 23 8 ((h12.1 23 8) ||| ((h12.1 28 a1.toInt.toNat) &&& (h12.1 23 7))))) zp_13 rfl ?_
      refine zQ_ial (N := 4) (f := (zSet (zSet h12 30 a1.toInt.toNat v12) 23 8 ((h12.1 23 8) ||| ((h12.1 28 a1.toInt.toNat) &&& (h12.1 23 7)))).1 30) zp_13 rfl rfl rfl (fun b20 b20' => ?_)
      refine zQ_if zp_13 rfl (t := 137) rfl (i := ((zSet h12 30 a1.toInt.toNat v12).1 30 a1.toInt.toNat).toInt) rfl (fun c21 => ?_) (fun c21 => ?_)
      · refine zQ_seq 3 (pc' := 142) (L' := [some (.ref 23), some (.int a1), some (.int v3)]) (S' := []) (h' := (zSet (zSet (zSet h12 30 a1.toInt.toNat v12) 23 8 ((h12.1 23 8) ||| ((h12.1 28 a1.toInt.toNat) &&& (h12.1 23 7)))) 23 8 (((h12.1 23 8) ||| ((h12.1 28 a1.toInt.toNat) &&& (h12.1 23 7))) ||| (Int32.ofInt 0)))) zp_13 rfl ?_
        exact zQ_retV zp_13 rfl ((((((r12' b13 b13') b14 b14').2 c15) b19 b19') b20 b20').1 c21)
      · refine zQ_seq 3 (pc' := 126) (L' := [some (.ref 23), some (.int a1), some (.int v3)]) (S' := [.int a1, .ref 28, .int ((h12.1 23 8) ||| ((h12.1 28 a1.toInt.toNat) &&& (h12.1 23 7))), .ref 23]) (h' := (zSet (zSet h12 30 a1.toInt.toNat v12) 23 8 ((h12.1 23 8) ||| ((h12.1 28 a1.toInt.toNat) &&& (h12.1 23 7))))) zp_13 rfl ?_
        refine zQ_ial (N := 4) (f := (zSet (zSet h12 30 a1.toInt.toNat v12) 23 8 ((h12.1 23 8) ||| ((h12.1 28 a1.toInt.toNat) &&& (h12.1 23 7)))).1 28) zp_13 rfl rfl rfl (fun b22 b22' => ?_)
        refine zQ_seq 5 (pc' := 134) (L' := [some (.ref 23), some (.int a1), some (.int v3)]) (S' := [.int ((h12.1 28 a1.toInt.toNat) &&& ((h12.1 23 7) ^^^ (Int32.ofInt (-1)))), .int ((h12.1 23 8) ||| ((h12.1 28 a1.toInt.toNat) &&& (h12.1 23 7))), .ref 23]) (h' := (zSet (zSet h12 30 a1.toInt.toNat v12) 23 8 ((h12.1 23 8) ||| ((h12.1 28 a1.toInt.toNat) &&& (h12.1 23 7))))) zp_13 rfl ?_
        refine zQ_goto zp_13 rfl (t := 138) rfl ?_
        refine zQ_seq 2 (pc' := 142) (L' := [some (.ref 23), some (.int a1), some (.int v3)]) (S' := []) (h' := (zSet (zSet (zSet h12 30 a1.toInt.toNat v12) 23 8 ((h12.1 23 8) ||| ((h12.1 28 a1.toInt.toNat) &&& (h12.1 23 7)))) 23 8 (((h12.1 23 8) ||| ((h12.1 28 a1.toInt.toNat) &&& (h12.1 23 7))) ||| ((h12.1 28 a1.toInt.toNat) &&& ((h12.1 23 7) ^^^ (Int32.ofInt (-1))))))) zp_13 rfl ?_
        exact zQ_retV zp_13 rfl (((((((r12' b13 b13') b14 b14').2 c15) b19 b19') b20 b20').2 c21) b22 b22')
  · exact zQ_retV zp_13 rfl (r1'.2 c2)
theorem s_14 {h : zH} {Q : Option Value → zH → Prop} (a0 : Int32) (H : Q (some (.int ((((((a0 &&& (Int32.ofInt (-16913))) <<< ((Int32.ofInt 1) &&& 31)) ||| ((a0 &&& (Int32.ofInt (-1058))) >>> ((Int32.ofInt 1) &&& 31))) ||| (a0 <<< ((Int32.ofInt 5) &&& 31))) ||| (a0 >>> ((Int32.ofInt 5) &&& 31))) &&& (Int32.ofInt 32767)))) h) : zqm 14 [.int a0] h Q := by
  refine zqm_of zp_14 (fun n => ?_)
  show zQ n 14 0 [some (.int a0), none] [] h Q
  refine zQ_seq 23 (pc' := 29) (L' := [some (.int a0), some (.int (((a0 &&& (Int32.ofInt (-16913))) <<< ((Int32.ofInt 1) &&& 31)) ||| ((a0 &&& (Int32.ofInt (-1058))) >>> ((Int32.ofInt 1) &&& 31))))]) (S' := [.int ((((((a0 &&& (Int32.ofInt (-16913))) <<< ((Int32.ofInt 1) &&& 31)) ||| ((a0 &&& (Int32.ofInt (-1058))) >>> ((Int32.ofInt 1) &&& 31))) ||| (a0 <<< ((Int32.ofInt 5) &&& 31))) ||| (a0 >>> ((Int32.ofInt 5) &&& 31))) &&& (Int32.ofInt 32767))]) (h' := h) zp_14 rfl ?_
  exact zQ_retI zp_14 rfl H
theorem s_15 {h : zH} {Q : Option Value → zH → Prop} (a0 : Int32) (a1 : Int32) (H : ((a0.toInt = 1 → Q (some (.int a1)) h) ∧ ((a0.toInt = 2 → Q (some (.int (a1 / (Int32.ofInt 2)))) h) ∧ ((a0.toInt = 3 → Q (some (.int ((Int32.ofInt 2) * a1))) h) ∧ ((a0.toInt < 1 ∨ 3 < a0.toInt) → Q (some (.int (Int32.ofInt 1))) h))))) : zqm 15 [.int a0, .int a1] h Q := by
  refine zqm_of zp_15 (fun n => ?_)
  show zQ n 15 0 [some (.int a0), some (.int a1)] [] h Q
  refine zQ_seq 1 (pc' := 1) (L' := [some (.int a0), some (.int a1)]) (S' := [.int a0]) (h' := h) zp_15 rfl ?_
  refine zQ_tsw zp_15 rfl (fun t ht => ?_)
  rcases (by omega : a0.toInt = 1 ∨ a0.toInt = 2 ∨ a0.toInt = 3 ∨ (a0.toInt < 1 ∨ 3 < a0.toInt)) with c1 | c1 | c1 | c1
  · have e : (some 28 : Option Nat) = some t := by rw [c1] at ht; exact ht
    cases e
    refine zQ_seq 1 (pc' := 29) (L' := [some (.int a0), some (.int a1)]) (S' := [.int a1]) (h' := h) zp_15 rfl ?_
    exact zQ_retI zp_15 rfl (H.1 c1)
  · have e : (some 30 : Option Nat) = some t := by rw [c1] at ht; exact ht
    cases e
    refine zQ_seq 2 (pc' := 32) (L' := [some (.int a0), some (.int a1)]) (S' := [.int (Int32.ofInt 2), .int a1]) (h' := h) zp_15 rfl ?_
    refine zQ_div zp_15 rfl (fun _ => ?_)
    exact zQ_retI zp_15 rfl (H.2.1 c1)
  · have e : (some 34 : Option Nat) = some t := by rw [c1] at ht; exact ht
    cases e
    refine zQ_seq 3 (pc' := 37) (L' := [some (.int a0), some (.int a1)]) (S' := [.int ((Int32.ofInt 2) * a1)]) (h' := h) zp_15 rfl ?_
    exact zQ_retI zp_15 rfl (H.2.2.1 c1)
  · have e : (some 38 : Option Nat) = some t := by rw [zTsw_d (t' := 38) rfl c1 ht]
    cases e
    refine zQ_seq 1 (pc' := 39) (L' := [some (.int a0), some (.int a1)]) (S' := [.int (Int32.ofInt 1)]) (h' := h) zp_15 rfl ?_
    exact zQ_retI zp_15 rfl (H.2.2.2 c1)
theorem s_16 {h : zH} {Q : Option Value → zH → Prop} (a0 : Int32) (a1 : Int32) (H : ((a0.toInt = 1 → Q (some (.int a1)) h) ∧ ((a0.toInt = 2 → Q (some (.int (a1 / (Int32.ofInt 2)))) h) ∧ ((a0.toInt = 3 → Q (some (.int a1)) h) ∧ ((a0.toInt = 4 → Q (some (.int (Int32.ofInt 1))) h) ∧ ((a0.toInt < 1 ∨ 4 < a0.toInt) → Q (some (.int (Int32.ofInt 0))) h)))))) : zqm 16 [.int a0, .int a1] h Q := by
  refine zqm_of zp_16 (fun n => ?_)
  show zQ n 16 0 [some (.int a0), some (.int a1)] [] h Q
  refine zQ_seq 1 (pc' := 1) (L' := [some (.int a0), some (.int a1)]) (S' := [.int a0]) (h' := h) zp_16 rfl ?_
  refine zQ_tsw zp_16 rfl (fun t ht => ?_)
  rcases (by omega : a0.toInt = 1 ∨ a0.toInt = 2 ∨ a0.toInt = 3 ∨ a0.toInt = 4 ∨ (a0.toInt < 1 ∨ 4 < a0.toInt)) with c1 | c1 | c1 | c1 | c1
  · have e : (some 32 : Option Nat) = some t := by rw [c1] at ht; exact ht
    cases e
    refine zQ_seq 1 (pc' := 33) (L' := [some (.int a0), some (.int a1)]) (S' := [.int a1]) (h' := h) zp_16 rfl ?_
    exact zQ_retI zp_16 rfl (H.1 c1)
  · have e : (some 34 : Option Nat) = some t := by rw [c1] at ht; exact ht
    cases e
    refine zQ_seq 2 (pc' := 36) (L' := [some (.int a0), some (.int a1)]) (S' := [.int (Int32.ofInt 2), .int a1]) (h' := h) zp_16 rfl ?_
    refine zQ_div zp_16 rfl (fun _ => ?_)
    exact zQ_retI zp_16 rfl (H.2.1 c1)
  · have e : (some 38 : Option Nat) = some t := by rw [c1] at ht; exact ht
    cases e
    refine zQ_seq 1 (pc' := 39) (L' := [some (.int a0), some (.int a1)]) (S' := [.int a1]) (h' := h) zp_16 rfl ?_
    exact zQ_retI zp_16 rfl (H.2.2.1 c1)
  · have e : (some 40 : Option Nat) = some t := by rw [c1] at ht; exact ht
    cases e
    refine zQ_seq 1 (pc' := 41) (L' := [some (.int a0), some (.int a1)]) (S' := [.int (Int32.ofInt 1)]) (h' := h) zp_16 rfl ?_
    exact zQ_retI zp_16 rfl (H.2.2.2.1 c1)
  · have e : (some 42 : Option Nat) = some t := by rw [zTsw_d (t' := 42) rfl c1 ht]
    cases e
    refine zQ_seq 1 (pc' := 43) (L' := [some (.int a0), some (.int a1)]) (S' := [.int (Int32.ofInt 0)]) (h' := h) zp_16 rfl ?_
    exact zQ_retI zp_16 rfl (H.2.2.2.2 c1)
theorem s_17 {h : zH} {Q : Option Value → zH → Prop} (a1 : Int32) (a2 : Int32) (H : zqm 20 [.ref 15, .int a1] h (fun rv h1 => zri rv (fun v1 => ((¬ v1.toInt = 0 → (0 ≤ a1.toInt → a1.toInt < 4 → zqm 217 [.int ((a2 &&& (h1.1 20 a1.toInt.toNat)) &&& (h1.1 15 7))] h1 (fun rv h4 => zri rv (fun v4 => (0 ≤ a1.toInt → a1.toInt < 4 → zqm 217 [.int ((a2 &&& (h1.1 20 a1.toInt.toNat)) &&& ((h4.1 15 7) ^^^ (Int32.ofInt (-1))))] h4 (fun rv h6 => zri rv (fun v6 => (0 ≤ a1.toInt → a1.toInt < 4 → Q (some (.int ((v4 * (h4.1 21 a1.toInt.toNat)) + (v6 * (h6.1 22 a1.toInt.toNat))))) h6)))))))) ∧ (¬ (¬ v1.toInt = 0) → Q (some (.int (Int32.ofInt 0))) h1))))) : zqm 17 [.ref 15, .int a1, .int a2] h Q := by
  refine zqm_of zp_17 (fun n => ?_)
  show zQ n 17 0 [some (.ref 15), some (.int a1), some (.int a2), none] [] h Q
  refine zQ_seq 2 (pc' := 2) (L' := [some (.ref 15), some (.int a1), some (.int a2), none]) (S' := [.int a1, .ref 15]) (h' := h) zp_17 rfl ?_
  refine zQ_cvI (M' := 20) (as := [.ref 15, .int a1]) (S' := []) zp_17 rfl rfl zp_20 (Or.inr rfl) rfl rfl (zqm_imp H (fun rv h1 r1 => zri_imp r1 (fun v1 r1' => ?_)))
  refine zQ_if zp_17 rfl (t := 10) rfl (i := v1.toInt) rfl (fun c2 => ?_) (fun c2 => ?_)
  · refine zQ_seq 4 (pc' := 16) (L' := [some (.ref 15), some (.int a1), some (.int a2), none]) (S' := [.int a1, .ref 20, .int a2]) (h' := h1) zp_17 rfl ?_
    refine zQ_ial (N := 4) (f := h1.1 20) zp_17 rfl rfl rfl (fun b3 b3' => ?_)
    refine zQ_seq 6 (pc' := 25) (L' := [some (.ref 15), some (.int a1), some (.int a2), some (.int (a2 &&& (h1.1 20 a1.toInt.toNat)))]) (S' := [.int ((a2 &&& (h1.1 20 a1.toInt.toNat)) &&& (h1.1 15 7))]) (h' := h1) zp_17 rfl ?_
    refine zQ_csI (M' := 217) (as := [.int ((a2 &&& (h1.1 20 a1.toInt.toNat)) &&& (h1.1 15 7))]) (S' := []) zp_17 rfl rfl rfl zp_217 (Or.inl rfl) rfl rfl (zqm_imp ((r1'.1 c2) b3 b3') (fun rv h4 r4 => zri_imp r4 (fun v4 r4' => ?_)))
    refine zQ_seq 3 (pc' := 33) (L' := [some (.ref 15), some (.int a1), some (.int a2), some (.int (a2 &&& (h1.1 20 a1.toInt.toNat)))]) (S' := [.int a1, .ref 21, .int v4]) (h' := h4) zp_17 rfl ?_
    refine zQ_ial (N := 4) (f := h4.1 21) zp_17 rfl rfl rfl (fun b5 b5' => ?_)
    refine zQ_seq 7 (pc' := 43) (L' := [some (.ref 15), some (.int a1), some (.int a2), some (.int (a2 &&& (h1.1 20 a1.toInt.toNat)))]) (S' := [.int ((a2 &&& (h1.1 20 a1.toInt.toNat)) &&& ((h4.1 15 7) ^^^ (Int32.ofInt (-1)))), .int (v4 * (h4.1 21 a1.toInt.toNat))]) (h' := h4) zp_17 rfl ?_
    refine zQ_csI (M' := 217) (as := [.int ((a2 &&& (h1.1 20 a1.toInt.toNat)) &&& ((h4.1 15 7) ^^^ (Int32.ofInt (-1))))]) (S' := [.int (v4 * (h4.1 21 a1.toInt.toNat))]) zp_17 rfl rfl rfl zp_217 (Or.inl rfl) rfl rfl (zqm_imp (r4' b5 b5') (fun rv h6 r6 => zri_imp r6 (fun v6 r6' => ?_)))
    refine zQ_seq 3 (pc' := 51) (L' := [some (.ref 15), some (.int a1), some (.int a2), some (.int (a2 &&& (h1.1 20 a1.toInt.toNat)))]) (S' := [.int a1, .ref 22, .int v6, .int (v4 * (h4.1 21 a1.toInt.toNat))]) (h' := h6) zp_17 rfl ?_
    refine zQ_ial (N := 4) (f := h6.1 22) zp_17 rfl rfl rfl (fun b7 b7' => ?_)
    refine zQ_seq 2 (pc' := 54) (L' := [some (.ref 15), some (.int a1), some (.int a2), some (.int (a2 &&& (h1.1 20 a1.toInt.toNat)))]) (S' := [.int ((v4 * (h4.1 21 a1.toInt.toNat)) + (v6 * (h6.1 22 a1.toInt.toNat)))]) (h' := h6) zp_17 rfl ?_
    exact zQ_retI zp_17 rfl (r6' b7 b7')
  · refine zQ_seq 1 (pc' := 9) (L' := [some (.ref 15), some (.int a1), some (.int a2), none]) (S' := [.int (Int32.ofInt 0)]) (h' := h1) zp_17 rfl ?_
    exact zQ_retI zp_17 rfl (r1'.2 c2)
theorem s_20_15 {h : zH} {Q : Option Value → zH → Prop} (a1 : Int32) (H : ((a1.toInt < 0 → Q (some (.int (Int32.ofInt 0))) h) ∧ (¬ (a1.toInt < 0) → (((h.1 15 6).toInt ≤ a1.toInt → Q (some (.int (Int32.ofInt 0))) h) ∧ (¬ ((h.1 15 6).toInt ≤ a1.toInt) → (((4 : Int) ≤ a1.toInt → Q (some (.int (Int32.ofInt 0))) h) ∧ (¬ ((4 : Int) ≤ a1.toInt) → Q (some (.int (Int32.ofInt 1))) h))))))) : zqm 20 [.ref 15, .int a1] h Q := by
  refine zqm_of zp_20 (fun n => ?_)
  show zQ n 20 0 [some (.ref 15), some (.int a1)] [] h Q
  refine zQ_seq 1 (pc' := 1) (L' := [some (.ref 15), some (.int a1)]) (S' := [.int a1]) (h' := h) zp_20 rfl ?_
  refine zQ_if zp_20 rfl (t := 21) rfl (i := a1.toInt) rfl (fun c1 => ?_) (fun c1 => ?_)
  · refine zQ_seq 1 (pc' := 22) (L' := [some (.ref 15), some (.int a1)]) (S' := [.int (Int32.ofInt 0)]) (h' := h) zp_20 rfl ?_
    exact zQ_retI zp_20 rfl (H.1 c1)
  · refine zQ_seq 3 (pc' := 9) (L' := [some (.ref 15), some (.int a1)]) (S' := [.int (h.1 15 6), .int a1]) (h' := h) zp_20 rfl ?_
    refine zQ_ic zp_20 rfl (t := 21) rfl (i := a1.toInt) (j := (h.1 15 6).toInt) rfl rfl (fun c2 => ?_) (fun c2 => ?_)
    · refine zQ_seq 1 (pc' := 22) (L' := [some (.ref 15), some (.int a1)]) (S' := [.int (Int32.ofInt 0)]) (h' := h) zp_20 rfl ?_
      exact zQ_retI zp_20 rfl ((H.2 c1).1 c2)
    · refine zQ_seq 2 (pc' := 14) (L' := [some (.ref 15), some (.int a1)]) (S' := [.int (Int32.ofInt 4), .int a1]) (h' := h) zp_20 rfl ?_
      refine zQ_ic zp_20 rfl (t := 21) rfl (i := a1.toInt) (j := (4 : Int)) rfl kc_4 (fun c3 => ?_) (fun c3 => ?_)
      · refine zQ_seq 1 (pc' := 22) (L' := [some (.ref 15), some (.int a1)]) (S' := [.int (Int32.ofInt 0)]) (h' := h) zp_20 rfl ?_
        exact zQ_retI zp_20 rfl (((H.2 c1).2 c2).1 c3)
      · refine zQ_seq 1 (pc' := 18) (L' := [some (.ref 15), some (.int a1)]) (S' := [.int (Int32.ofInt 1)]) (h' := h) zp_20 rfl ?_
        refine zQ_goto zp_20 rfl (t := 22) rfl ?_
        exact zQ_retI zp_20 rfl (((H.2 c1).2 c2).2 c3)
theorem s_20_23 {h : zH} {Q : Option Value → zH → Prop} (a1 : Int32) (H : ((a1.toInt < 0 → Q (some (.int (Int32.ofInt 0))) h) ∧ (¬ (a1.toInt < 0) → (((h.1 23 6).toInt ≤ a1.toInt → Q (some (.int (Int32.ofInt 0))) h) ∧ (¬ ((h.1 23 6).toInt ≤ a1.toInt) → (((4 : Int) ≤ a1.toInt → Q (some (.int (Int32.ofInt 0))) h) ∧ (¬ ((4 : Int) ≤ a1.toInt) → Q (some (.int (Int32.ofInt 1))) h))))))) : zqm 20 [.ref 23, .int a1] h Q := by
  refine zqm_of zp_20 (fun n => ?_)
  show zQ n 20 0 [some (.ref 23), some (.int a1)] [] h Q
  refine zQ_seq 1 (pc' := 1) (L' := [some (.ref 23), some (.int a1)]) (S' := [.int a1]) (h' := h) zp_20 rfl ?_
  refine zQ_if zp_20 rfl (t := 21) rfl (i := a1.toInt) rfl (fun c1 => ?_) (fun c1 => ?_)
  · refine zQ_seq 1 (pc' := 22) (L' := [some (.ref 23), some (.int a1)]) (S' := [.int (Int32.ofInt 0)]) (h' := h) zp_20 rfl ?_
    exact zQ_retI zp_20 rfl (H.1 c1)
  · refine zQ_seq 3 (pc' := 9) (L' := [some (.ref 23), some (.int a1)]) (S' := [.int (h.1 23 6), .int a1]) (h' := h) zp_20 rfl ?_
    refine zQ_ic zp_20 rfl (t := 21) rfl (i := a1.toInt) (j := (h.1 23 6).toInt) rfl rfl (fun c2 => ?_) (fun c2 => ?_)
    · refine zQ_seq 1 (pc' := 22) (L' := [some (.ref 23), some (.int a1)]) (S' := [.int (Int32.ofInt 0)]) (h' := h) zp_20 rfl ?_
      exact zQ_retI zp_20 rfl ((H.2 c1).1 c2)
    · refine zQ_seq 2 (pc' := 14) (L' := [some (.ref 23), some (.int a1)]) (S' := [.int (Int32.ofInt 4), .int a1]) (h' := h) zp_20 rfl ?_
      refine zQ_ic zp_20 rfl (t := 21) rfl (i := a1.toInt) (j := (4 : Int)) rfl kc_4 (fun c3 => ?_) (fun c3 => ?_)
      · refine zQ_seq 1 (pc' := 22) (L' := [some (.ref 23), some (.int a1)]) (S' := [.int (Int32.ofInt 0)]) (h' := h) zp_20 rfl ?_
        exact zQ_retI zp_20 rfl (((H.2 c1).2 c2).1 c3)
      · refine zQ_seq 1 (pc' := 18) (L' := [some (.ref 23), some (.int a1)]) (S' := [.int (Int32.ofInt 1)]) (h' := h) zp_20 rfl ?_
        refine zQ_goto zp_20 rfl (t := 22) rfl ?_
        exact zQ_retI zp_20 rfl (((H.2 c1).2 c2).2 c3)
theorem s_21_15 {h : zH} {Q : Option Value → zH → Prop} (a1 : Int32) (H : zqm 20 [.ref 15, .int a1] h (fun rv h1 => zri rv (fun v1 => ((¬ v1.toInt = 0 → (0 ≤ a1.toInt → a1.toInt < 4 → (((h1.1 18 a1.toInt.toNat).toInt < 0 → Q (some (.int (Int32.ofInt 0))) h1) ∧ (¬ ((h1.1 18 a1.toInt.toNat).toInt < 0) → (((3 : Int) ≤ (h1.1 18 a1.toInt.toNat).toInt → Q (some (.int (Int32.ofInt 0))) h1) ∧ (¬ ((3 : Int) ≤ (h1.1 18 a1.toInt.toNat).toInt) → (0 ≤ (h1.1 18 a1.toInt.toNat).toInt → (h1.1 18 a1.toInt.toNat).toInt < 3 → Q (some (.int (h1.1 16 (h1.1 18 a1.toInt.toNat).toInt.toNat))) h1))))))) ∧ (¬ (¬ v1.toInt = 0) → Q (some (.int (Int32.ofInt 0))) h1))))) : zqm 21 [.ref 15, .int a1] h Q := by
  refine zqm_of zp_21 (fun n => ?_)
  show zQ n 21 0 [some (.ref 15), some (.int a1), none] [] h Q
  refine zQ_seq 2 (pc' := 2) (L' := [some (.ref 15), some (.int a1), none]) (S' := [.int a1, .ref 15]) (h' := h) zp_21 rfl ?_
  refine zQ_cvI (M' := 20) (as := [.ref 15, .int a1]) (S' := []) zp_21 rfl rfl zp_20 (Or.inr rfl) rfl rfl (zqm_imp H (fun rv h1 r1 => zri_imp r1 (fun v1 r1' => ?_)))
  refine zQ_if zp_21 rfl (t := 10) rfl (i := v1.toInt) rfl (fun c2 => ?_) (fun c2 => ?_)
  · refine zQ_seq 3 (pc' := 15) (L' := [some (.ref 15), some (.int a1), none]) (S' := [.int a1, .ref 18]) (h' := h1) zp_21 rfl ?_
    refine zQ_ial (N := 4) (f := h1.1 18) zp_21 rfl rfl rfl (fun b3 b3' => ?_)
    refine zQ_seq 2 (pc' := 18) (L' := [some (.ref 15), some (.int a1), some (.int (h1.1 18 a1.toInt.toNat))]) (S' := [.int (h1.1 18 a1.toInt.toNat)]) (h' := h1) zp_21 rfl ?_
    refine zQ_if zp_21 rfl (t := 35) rfl (i := (h1.1 18 a1.toInt.toNat).toInt) rfl (fun c4 => ?_) (fun c4 => ?_)
    · refine zQ_seq 1 (pc' := 36) (L' := [some (.ref 15), some (.int a1), some (.int (h1.1 18 a1.toInt.toNat))]) (S' := [.int (Int32.ofInt 0)]) (h' := h1) zp_21 rfl ?_
      exact zQ_retI zp_21 rfl (((r1'.1 c2) b3 b3').1 c4)
    · refine zQ_seq 2 (pc' := 23) (L' := [some (.ref 15), some (.int a1), some (.int (h1.1 18 a1.toInt.toNat))]) (S' := [.int (Int32.ofInt 3), .int (h1.1 18 a1.toInt.toNat)]) (h' := h1) zp_21 rfl ?_
      refine zQ_ic zp_21 rfl (t := 35) rfl (i := (h1.1 18 a1.toInt.toNat).toInt) (j := (3 : Int)) rfl kc_3 (fun c5 => ?_) (fun c5 => ?_)
      · refine zQ_seq 1 (pc' := 36) (L' := [some (.ref 15), some (.int a1), some (.int (h1.1 18 a1.toInt.toNat))]) (S' := [.int (Int32.ofInt 0)]) (h' := h1) zp_21 rfl ?_
        exact zQ_retI zp_21 rfl ((((r1'.1 c2) b3 b3').2 c4).1 c5)
      · refine zQ_seq 3 (pc' := 31) (L' := [some (.ref 15), some (.int a1), some (.int (h1.1 18 a1.toInt.toNat))]) (S' := [.int (h1.1 18 a1.toInt.toNat), .ref 16]) (h' := h1) zp_21 rfl ?_
        refine zQ_ial (N := 3) (f := h1.1 16) zp_21 rfl rfl rfl (fun b6 b6' => ?_)
        refine zQ_goto zp_21 rfl (t := 36) rfl ?_
        exact zQ_retI zp_21 rfl (((((r1'.1 c2) b3 b3').2 c4).2 c5) b6 b6')
  · refine zQ_seq 1 (pc' := 9) (L' := [some (.ref 15), some (.int a1), none]) (S' := [.int (Int32.ofInt 0)]) (h' := h1) zp_21 rfl ?_
    exact zQ_retI zp_21 rfl (r1'.2 c2)
theorem s_21_23 {h : zH} {Q : Option Value → zH → Prop} (a1 : Int32) (H : zqm 20 [.ref 23, .int a1] h (fun rv h1 => zri rv (fun v1 => ((¬ v1.toInt = 0 → (0 ≤ a1.toInt → a1.toInt < 4 → (((h1.1 26 a1.toInt.toNat).toInt < 0 → Q (some (.int (Int32.ofInt 0))) h1) ∧ (¬ ((h1.1 26 a1.toInt.toNat).toInt < 0) → (((3 : Int) ≤ (h1.1 26 a1.toInt.toNat).toInt → Q (some (.int (Int32.ofInt 0))) h1) ∧ (¬ ((3 : Int) ≤ (h1.1 26 a1.toInt.toNat).toInt) → (0 ≤ (h1.1 26 a1.toInt.toNat).toInt → (h1.1 26 a1.toInt.toNat).toInt < 3 → Q (some (.int (h1.1 24 (h1.1 26 a1.toInt.toNat).toInt.toNat))) h1))))))) ∧ (¬ (¬ v1.toInt = 0) → Q (some (.int (Int32.ofInt 0))) h1))))) : zqm 21 [.ref 23, .int a1] h Q := by
  refine zqm_of zp_21 (fun n => ?_)
  show zQ n 21 0 [some (.ref 23), some (.int a1), none] [] h Q
  refine zQ_seq 2 (pc' := 2) (L' := [some (.ref 23), some (.int a1), none]) (S' := [.int a1, .ref 23]) (h' := h) zp_21 rfl ?_
  refine zQ_cvI (M' := 20) (as := [.ref 23, .int a1]) (S' := []) zp_21 rfl rfl zp_20 (Or.inr rfl) rfl rfl (zqm_imp H (fun rv h1 r1 => zri_imp r1 (fun v1 r1' => ?_)))
  refine zQ_if zp_21 rfl (t := 10) rfl (i := v1.toInt) rfl (fun c2 => ?_) (fun c2 => ?_)
  · refine zQ_seq 3 (pc' := 15) (L' := [some (.ref 23), some (.int a1), none]) (S' := [.int a1, .ref 26]) (h' := h1) zp_21 rfl ?_
    refine zQ_ial (N := 4) (f := h1.1 26) zp_21 rfl rfl rfl (fun b3 b3' => ?_)
    refine zQ_seq 2 (pc' := 18) (L' := [some (.ref 23), some (.int a1), some (.int (h1.1 26 a1.toInt.toNat))]) (S' := [.int (h1.1 26 a1.toInt.toNat)]) (h' := h1) zp_21 rfl ?_
    refine zQ_if zp_21 rfl (t := 35) rfl (i := (h1.1 26 a1.toInt.toNat).toInt) rfl (fun c4 => ?_) (fun c4 => ?_)
    · refine zQ_seq 1 (pc' := 36) (L' := [some (.ref 23), some (.int a1), some (.int (h1.1 26 a1.toInt.toNat))]) (S' := [.int (Int32.ofInt 0)]) (h' := h1) zp_21 rfl ?_
      exact zQ_retI zp_21 rfl (((r1'.1 c2) b3 b3').1 c4)
    · refine zQ_seq 2 (pc' := 23) (L' := [some (.ref 23), some (.int a1), some (.int (h1.1 26 a1.toInt.toNat))]) (S' := [.int (Int32.ofInt 3), .int (h1.1 26 a1.toInt.toNat)]) (h' := h1) zp_21 rfl ?_
      refine zQ_ic zp_21 rfl (t := 35) rfl (i := (h1.1 26 a1.toInt.toNat).toInt) (j := (3 : Int)) rfl kc_3 (fun c5 => ?_) (fun c5 => ?_)
      · refine zQ_seq 1 (pc' := 36) (L' := [some (.ref 23), some (.int a1), some (.int (h1.1 26 a1.toInt.toNat))]) (S' := [.int (Int32.ofInt 0)]) (h' := h1) zp_21 rfl ?_
        exact zQ_retI zp_21 rfl ((((r1'.1 c2) b3 b3').2 c4).1 c5)
      · refine zQ_seq 3 (pc' := 31) (L' := [some (.ref 23), some (.int a1), some (.int (h1.1 26 a1.toInt.toNat))]) (S' := [.int (h1.1 26 a1.toInt.toNat), .ref 24]) (h' := h1) zp_21 rfl ?_
        refine zQ_ial (N := 3) (f := h1.1 24) zp_21 rfl rfl rfl (fun b6 b6' => ?_)
        refine zQ_goto zp_21 rfl (t := 36) rfl ?_
        exact zQ_retI zp_21 rfl (((((r1'.1 c2) b3 b3').2 c4).2 c5) b6 b6')
  · refine zQ_seq 1 (pc' := 9) (L' := [some (.ref 23), some (.int a1), none]) (S' := [.int (Int32.ofInt 0)]) (h' := h1) zp_21 rfl ?_
    exact zQ_retI zp_21 rfl (r1'.2 c2)
theorem s_22 {h : zH} {Q : Option Value → zH → Prop} (a1 : Int32) (H : (∀ n, zQ n 22 2 [some (.ref 15), some (.int a1), some (.int (Int32.ofInt 0))] [] h Q)) : zqm 22 [.ref 15, .int a1] h Q := by
  refine zqm_of zp_22 (fun n => ?_)
  have H := H n
  show zQ n 22 0 [some (.ref 15), some (.int a1), none] [] h Q
  refine zQ_seq 2 (pc' := 2) (L' := [some (.ref 15), some (.int a1), some (.int (Int32.ofInt 0))]) (S' := []) (h' := h) zp_22 rfl ?_
  exact H
theorem s_22_2 {n : Nat} {h : zH} {Q : Option Value → zH → Prop} (x1 : Int32) (x2 : Int32) (H : (((3 : Int) ≤ x2.toInt → Q (some (.int (-1000000 : Int32))) h) ∧ (¬ ((3 : Int) ≤ x2.toInt) → (0 ≤ x2.toInt → x2.toInt < 3 → ((¬ (((h.1 16 x2.toInt.toNat) >>> (x1 &&& 31)) &&& (Int32.ofInt 1)).toInt = (1 : Int) → zQ n 22 2 [some (.ref 15), some (.int x1), some (.int (x2 + Int32.ofInt 1))] [] h Q) ∧ (¬ (¬ (((h.1 16 x2.toInt.toNat) >>> (x1 &&& 31)) &&& (Int32.ofInt 1)).toInt = (1 : Int)) → Q (some (.int x2)) h)))))) : zQ (n + 1) 22 2 [some (.ref 15), some (.int x1), some (.int x2)] [] h Q := by
  refine zQ_seqL 1 (pc' := 4) (L' := [some (.ref 15), some (.int x1), some (.int x2)]) (S' := [.int (Int32.ofInt 3), .int x2]) (h' := h) zp_22 rfl ?_
  refine zQ_ic zp_22 rfl (t := 29) rfl (i := x2.toInt) (j := (3 : Int)) rfl kc_3 (fun c1 => ?_) (fun c1 => ?_)
  · refine zQ_seq 1 (pc' := 31) (L' := [some (.ref 15), some (.int x1), some (.int x2)]) (S' := [.int (-1000000 : Int32)]) (h' := h) zp_22 rfl ?_
    exact zQ_retI zp_22 rfl (H.1 c1)
  · refine zQ_seq 3 (pc' := 12) (L' := [some (.ref 15), some (.int x1), some (.int x2)]) (S' := [.int x2, .ref 16]) (h' := h) zp_22 rfl ?_
    refine zQ_ial (N := 3) (f := h.1 16) zp_22 rfl rfl rfl (fun b2 b2' => ?_)
    refine zQ_seq 5 (pc' := 18) (L' := [some (.ref 15), some (.int x1), some (.int x2)]) (S' := [.int (Int32.ofInt 1), .int (((h.1 16 x2.toInt.toNat) >>> (x1 &&& 31)) &&& (Int32.ofInt 1))]) (h' := h) zp_22 rfl ?_
    refine zQ_ic zp_22 rfl (t := 23) rfl (i := (((h.1 16 x2.toInt.toNat) >>> (x1 &&& 31)) &&& (Int32.ofInt 1)).toInt) (j := (1 : Int)) rfl kc_1 (fun c3 => ?_) (fun c3 => ?_)
    · refine zQ_seq 1 (pc' := 26) (L' := [some (.ref 15), some (.int x1), some (.int (x2 + Int32.ofInt 1))]) (S' := []) (h' := h) zp_22 rfl ?_
      refine zQ_goto zp_22 rfl (t := 2) rfl ?_
      exact (((H.2 c1) b2 b2').1 c3)
    · refine zQ_seq 1 (pc' := 22) (L' := [some (.ref 15), some (.int x1), some (.int x2)]) (S' := [.int x2]) (h' := h) zp_22 rfl ?_
      exact zQ_retI zp_22 rfl (((H.2 c1) b2 b2').2 c3)
theorem s_23 {h : zH} {Q : Option Value → zH → Prop} (a1 : Int32) (H : (∀ n, zQ n 23 4 [some (.ref 15), some (.int a1), some (.int (Int32.ofInt 0)), some (.int (Int32.ofInt 0))] [] h Q)) : zqm 23 [.ref 15, .int a1] h Q := by
  refine zqm_of zp_23 (fun n => ?_)
  have H := H n
  show zQ n 23 0 [some (.ref 15), some (.int a1), none, none] [] h Q
  refine zQ_seq 4 (pc' := 4) (L' := [some (.ref 15), some (.int a1), some (.int (Int32.ofInt 0)), some (.int (Int32.ofInt 0))]) (S' := []) (h' := h) zp_23 rfl ?_
  exact H
theorem s_23_4 {n : Nat} {h : zH} {Q : Option Value → zH → Prop} (x1 : Int32) (x2 : Int32) (x3 : Int32) (H : (((h.1 15 6).toInt ≤ x3.toInt → Q (some (.int x2)) h) ∧ (¬ ((h.1 15 6).toInt ≤ x3.toInt) → (((4 : Int) ≤ x3.toInt → Q (some (.int x2)) h) ∧ (¬ ((4 : Int) ≤ x3.toInt) → (0 ≤ x3.toInt → x3.toInt < 4 → zQ n 23 4 [some (.ref 15), some (.int x1), some (.int (x2 ||| ((((h.1 20 x3.toInt.toNat) >>> (x1 &&& 31)) &&& (Int32.ofInt 1)) <<< (x3 &&& 31)))), some (.int (x3 + Int32.ofInt 1))] [] h Q)))))) : zQ (n + 1) 23 4 [some (.ref 15), some (.int x1), some (.int x2), some (.int x3)] [] h Q := by
  refine zQ_seqL 2 (pc' := 9) (L' := [some (.ref 15), some (.int x1), some (.int x2), some (.int x3)]) (S' := [.int (h.1 15 6), .int x3]) (h' := h) zp_23 rfl ?_
  refine zQ_ic zp_23 rfl (t := 38) rfl (i := x3.toInt) (j := (h.1 15 6).toInt) rfl rfl (fun c1 => ?_) (fun c1 => ?_)
  · refine zQ_seq 1 (pc' := 39) (L' := [some (.ref 15), some (.int x1), some (.int x2), some (.int x3)]) (S' := [.int x2]) (h' := h) zp_23 rfl ?_
    exact zQ_retI zp_23 rfl (H.1 c1)
  · refine zQ_seq 2 (pc' := 14) (L' := [some (.ref 15), some (.int x1), some (.int x2), some (.int x3)]) (S' := [.int (Int32.ofInt 4), .int x3]) (h' := h) zp_23 rfl ?_
    refine zQ_ic zp_23 rfl (t := 38) rfl (i := x3.toInt) (j := (4 : Int)) rfl kc_4 (fun c2 => ?_) (fun c2 => ?_)
    · refine zQ_seq 1 (pc' := 39) (L' := [some (.ref 15), some (.int x1), some (.int x2), some (.int x3)]) (S' := [.int x2]) (h' := h) zp_23 rfl ?_
      exact zQ_retI zp_23 rfl ((H.2 c1).1 c2)
    · refine zQ_seq 4 (pc' := 23) (L' := [some (.ref 15), some (.int x1), some (.int x2), some (.int x3)]) (S' := [.int x3, .ref 20, .int x2]) (h' := h) zp_23 rfl ?_
      refine zQ_ial (N := 4) (f := h.1 20) zp_23 rfl rfl rfl (fun b3 b3' => ?_)
      refine zQ_seq 9 (pc' := 35) (L' := [some (.ref 15), some (.int x1), some (.int (x2 ||| ((((h.1 20 x3.toInt.toNat) >>> (x1 &&& 31)) &&& (Int32.ofInt 1)) <<< (x3 &&& 31)))), some (.int (x3 + Int32.ofInt 1))]) (S' := []) (h' := h) zp_23 rfl ?_
      refine zQ_goto zp_23 rfl (t := 4) rfl ?_
      exact (((H.2 c1).2 c2) b3 b3')
theorem s_24 {h : zH} {Q : Option Value → zH → Prop} (a1 : Int32) (H : (∀ n, zQ n 24 4 [some (.ref 15), some (.int a1), some (.int (Int32.ofInt 0)), some (.int (Int32.ofInt 0))] [] h Q)) : zqm 24 [.ref 15, .int a1] h Q := by
  refine zqm_of zp_24 (fun n => ?_)
  have H := H n
  show zQ n 24 0 [some (.ref 15), some (.int a1), none, none] [] h Q
  refine zQ_seq 4 (pc' := 4) (L' := [some (.ref 15), some (.int a1), some (.int (Int32.ofInt 0)), some (.int (Int32.ofInt 0))]) (S' := []) (h' := h) zp_24 rfl ?_
  exact H
theorem s_24_4 {n : Nat} {h : zH} {Q : Option Value → zH → Prop} (x1 : Int32) (x2 : Int32) (x3 : Int32) (H : (((h.1 15 6).toInt ≤ x3.toInt → Q (some (.int x2)) h) ∧ (¬ ((h.1 15 6).toInt ≤ x3.toInt) → zqm 17 [.ref 15, .int x3, .int x1] h (fun rv h2 => zri rv (fun v2 => ((¬ v2.toInt = 0 → zQ n 24 4 [some (.ref 15), some (.int x1), some (.int (x2 ||| (Int32.ofInt 0))), some (.int (x3 + Int32.ofInt 1))] [] h2 Q) ∧ (¬ (¬ v2.toInt = 0) → zQ n 24 4 [some (.ref 15), some (.int x1), some (.int (x2 ||| ((Int32.ofInt 1) <<< (x3 &&& 31)))), some (.int (x3 + Int32.ofInt 1))] [] h2 Q))))))) : zQ (n + 1) 24 4 [some (.ref 15), some (.int x1), some (.int x2), some (.int x3)] [] h Q := by
  refine zQ_seqL 2 (pc' := 9) (L' := [some (.ref 15), some (.int x1), some (.int x2), some (.int x3)]) (S' := [.int (h.1 15 6), .int x3]) (h' := h) zp_24 rfl ?_
  refine zQ_ic zp_24 rfl (t := 37) rfl (i := x3.toInt) (j := (h.1 15 6).toInt) rfl rfl (fun c1 => ?_) (fun c1 => ?_)
  · refine zQ_seq 1 (pc' := 38) (L' := [some (.ref 15), some (.int x1), some (.int x2), some (.int x3)]) (S' := [.int x2]) (h' := h) zp_24 rfl ?_
    exact zQ_retI zp_24 rfl (H.1 c1)
  · refine zQ_seq 4 (pc' := 16) (L' := [some (.ref 15), some (.int x1), some (.int x2), some (.int x3)]) (S' := [.int x1, .int x3, .ref 15, .int x2]) (h' := h) zp_24 rfl ?_
    refine zQ_cvI (M' := 17) (as := [.ref 15, .int x3, .int x1]) (S' := [.int x2]) zp_24 rfl rfl zp_17 (Or.inl rfl) rfl rfl (zqm_imp (H.2 c1) (fun rv h2 r2 => zri_imp r2 (fun v2 r2' => ?_)))
    refine zQ_if zp_24 rfl (t := 28) rfl (i := v2.toInt) rfl (fun c3 => ?_) (fun c3 => ?_)
    · refine zQ_seq 4 (pc' := 34) (L' := [some (.ref 15), some (.int x1), some (.int (x2 ||| (Int32.ofInt 0))), some (.int (x3 + Int32.ofInt 1))]) (S' := []) (h' := h2) zp_24 rfl ?_
      refine zQ_goto zp_24 rfl (t := 4) rfl ?_
      exact (r2'.1 c3)
    · refine zQ_seq 3 (pc' := 25) (L' := [some (.ref 15), some (.int x1), some (.int x2), some (.int x3)]) (S' := [.int ((Int32.ofInt 1) <<< (x3 &&& 31)), .int x2]) (h' := h2) zp_24 rfl ?_
      refine zQ_goto zp_24 rfl (t := 29) rfl ?_
      refine zQ_seq 3 (pc' := 34) (L' := [some (.ref 15), some (.int x1), some (.int (x2 ||| ((Int32.ofInt 1) <<< (x3 &&& 31)))), some (.int (x3 + Int32.ofInt 1))]) (S' := []) (h' := h2) zp_24 rfl ?_
      refine zQ_goto zp_24 rfl (t := 4) rfl ?_
      exact (r2'.2 c3)
theorem s_25 {h : zH} {Q : Option Value → zH → Prop} (H : zqm 51 [.int (h.1 15 3), .int (h.1 15 4)] h (fun rv h1 => zri rv (fun v1 => Q (some (.int v1)) h1))) : zqm 25 [.ref 15] h Q := by
  refine zqm_of zp_25 (fun n => ?_)
  show zQ n 25 0 [some (.ref 15)] [] h Q
  refine zQ_seq 4 (pc' := 8) (L' := [some (.ref 15)]) (S' := [.int (h.1 15 4), .int (h.1 15 3)]) (h' := h) zp_25 rfl ?_
  refine zQ_csI (M' := 51) (as := [.int (h.1 15 3), .int (h.1 15 4)]) (S' := []) zp_25 rfl rfl rfl zp_51 (Or.inl rfl) rfl rfl (zqm_imp H (fun rv h1 r1 => zri_imp r1 (fun v1 r1' => ?_)))
  exact zQ_retI zp_25 rfl r1'
theorem s_27 {h : zH} {Q : Option Value → zH → Prop} (a1 : Int32) (a2 : Int32) (H : zqm 49 [.int a1, .int (a2 / (Int32.ofInt 4)), .int (a2 - a2 / (Int32.ofInt 4) * (Int32.ofInt 4))] h (fun rv h1 => zri rv (fun v1 => ((¬ (h1.1 15 1).toInt = 0 → zqm 50 [.int v1, .int (((a2 / (Int32.ofInt 4)) + (h1.1 15 1)) - ((a2 / (Int32.ofInt 4)) + (h1.1 15 1)) / (Int32.ofInt 15) * (Int32.ofInt 15)), .int (h1.1 15 2)] h1 (fun rv h3 => zri rv (fun v3 => Q (some (.int v3)) h3))) ∧ (¬ (¬ (h1.1 15 1).toInt = 0) → Q (some (.int v1)) h1))))) : zqm 27 [.ref 15, .int a1, .int a2] h Q := by
  refine zqm_of zp_27 (fun n => ?_)
  show zQ n 27 0 [some (.ref 15), some (.int a1), some (.int a2), none, none] [] h Q
  refine zQ_seq 2 (pc' := 2) (L' := [some (.ref 15), some (.int a1), some (.int a2), none, none]) (S' := [.int (Int32.ofInt 4), .int a2]) (h' := h) zp_27 rfl ?_
  refine zQ_div zp_27 rfl (fun _ => ?_)
  refine zQ_seq 5 (pc' := 8) (L' := [some (.ref 15), some (.int a1), some (.int a2), some (.int (a2 / (Int32.ofInt 4))), none]) (S' := [.int (Int32.ofInt 4), .int a2, .int (a2 / (Int32.ofInt 4)), .int a1]) (h' := h) zp_27 rfl ?_
  refine zQ_rem zp_27 rfl (fun _ => ?_)
  refine zQ_csI (M' := 49) (as := [.int a1, .int (a2 / (Int32.ofInt 4)), .int (a2 - a2 / (Int32.ofInt 4) * (Int32.ofInt 4))]) (S' := []) zp_27 rfl rfl rfl zp_49 (Or.inl rfl) rfl rfl (zqm_imp H (fun rv h1 r1 => zri_imp r1 (fun v1 r1' => ?_)))
  refine zQ_seq 3 (pc' := 18) (L' := [some (.ref 15), some (.int a1), some (.int a2), some (.int (a2 / (Int32.ofInt 4))), some (.int v1)]) (S' := [.int (h1.1 15 1)]) (h' := h1) zp_27 rfl ?_
  refine zQ_if zp_27 rfl (t := 26) rfl (i := (h1.1 15 1).toInt) rfl (fun c2 => ?_) (fun c2 => ?_)
  · refine zQ_seq 6 (pc' := 36) (L' := [some (.ref 15), some (.int a1), some (.int a2), some (.int (a2 / (Int32.ofInt 4))), some (.int v1)]) (S' := [.int (Int32.ofInt 15), .int ((a2 / (Int32.ofInt 4)) + (h1.1 15 1)), .int v1]) (h' := h1) zp_27 rfl ?_
    refine zQ_rem zp_27 rfl (fun _ => ?_)
    refine zQ_seq 2 (pc' := 41) (L' := [some (.ref 15), some (.int a1), some (.int a2), some (.int (a2 / (Int32.ofInt 4))), some (.int v1)]) (S' := [.int (h1.1 15 2), .int (((a2 / (Int32.ofInt 4)) + (h1.1 15 1)) - ((a2 / (Int32.ofInt 4)) + (h1.1 15 1)) / (Int32.ofInt 15) * (Int32.ofInt 15)), .int v1]) (h' := h1) zp_27 rfl ?_
    refine zQ_csI (M' := 50) (as := [.int v1, .int (((a2 / (Int32.ofInt 4)) + (h1.1 15 1)) - ((a2 / (Int32.ofInt 4)) + (h1.1 15 1)) / (Int32.ofInt 15) * (Int32.ofInt 15)), .int (h1.1 15 2)]) (S' := []) zp_27 rfl rfl rfl zp_50 (Or.inl rfl) rfl rfl (zqm_imp (r1'.1 c2) (fun rv h3 r3 => zri_imp r3 (fun v3 r3' => ?_)))
    exact zQ_retI zp_27 rfl r3'
  · refine zQ_seq 1 (pc' := 23) (L' := [some (.ref 15), some (.int a1), some (.int a2), some (.int (a2 / (Int32.ofInt 4))), some (.int v1)]) (S' := [.int v1]) (h' := h1) zp_27 rfl ?_
    refine zQ_goto zp_27 rfl (t := 44) rfl ?_
    exact zQ_retI zp_27 rfl (r1'.2 c2)
theorem s_28 {h : zH} {Q : Option Value → zH → Prop} (a1 : Int32) (H : (∀ n, zQ n 28 4 [some (.ref 15), some (.int a1), some (.int a1), some (.int (Int32.ofInt 0)), none] [] h Q)) : zqm 28 [.ref 15, .int a1] h Q := by
  refine zqm_of zp_28 (fun n => ?_)
  have H := H n
  show zQ n 28 0 [some (.ref 15), some (.int a1), none, none, none] [] h Q
  refine zQ_seq 4 (pc' := 4) (L' := [some (.ref 15), some (.int a1), some (.int a1), some (.int (Int32.ofInt 0)), none]) (S' := []) (h' := h) zp_28 rfl ?_
  exact H
theorem s_28_4 {n : Nat} {h : zH} {Q : Option Value → zH → Prop} (x1 : Int32) (x2 : Int32) (x3 : Int32) (o4 : Option Value) (H : (((h.1 15 6).toInt ≤ x3.toInt → Q (some (.int x2)) h) ∧ (¬ ((h.1 15 6).toInt ≤ x3.toInt) → (((4 : Int) ≤ x3.toInt → Q (some (.int x2)) h) ∧ (¬ ((4 : Int) ≤ x3.toInt) → (0 ≤ x3.toInt → x3.toInt < 4 → ((¬ (h.1 17 x3.toInt.toNat).toInt = (5 : Int) → zQ n 28 4 [some (.ref 15), some (.int x1), some (.int x2), some (.int (x3 + Int32.ofInt 1)), o4] [] h Q) ∧ (¬ (¬ (h.1 17 x3.toInt.toNat).toInt = (5 : Int)) → zqm 51 [.int x2, .int (h.1 15 4)] h (fun rv h5 => zri rv (fun v5 => zqm 21 [.ref 15, .int x3] h5 (fun rv h6 => zri rv (fun v6 => zqm 216 [.int (v5 &&& v6)] h6 (fun rv h7 => zri rv (fun v7 => zqm 52 [.int x2, .int (h6.1 15 4), .int v7] h7 (fun rv h8 => zri rv (fun v8 => zQ n 28 4 [some (.ref 15), some (.int x1), some (.int v8), some (.int (x3 + Int32.ofInt 1)), some (.int (v5 &&& v6))] [] h8 Q)))))))))))))))) : zQ (n + 1) 28 4 [some (.ref 15), some (.int x1), some (.int x2), some (.int x3), o4] [] h Q := by
  refine zQ_seqL 2 (pc' := 9) (L' := [some (.ref 15), some (.int x1), some (.int x2), some (.int x3), o4]) (S' := [.int (h.1 15 6), .int x3]) (h' := h) zp_28 rfl ?_
  refine zQ_ic zp_28 rfl (t := 63) rfl (i := x3.toInt) (j := (h.1 15 6).toInt) rfl rfl (fun c1 => ?_) (fun c1 => ?_)
  · refine zQ_seq 1 (pc' := 64) (L' := [some (.ref 15), some (.int x1), some (.int x2), some (.int x3), o4]) (S' := [.int x2]) (h' := h) zp_28 rfl ?_
    exact zQ_retI zp_28 rfl (H.1 c1)
  · refine zQ_seq 2 (pc' := 14) (L' := [some (.ref 15), some (.int x1), some (.int x2), some (.int x3), o4]) (S' := [.int (Int32.ofInt 4), .int x3]) (h' := h) zp_28 rfl ?_
    refine zQ_ic zp_28 rfl (t := 63) rfl (i := x3.toInt) (j := (4 : Int)) rfl kc_4 (fun c2 => ?_) (fun c2 => ?_)
    · refine zQ_seq 1 (pc' := 64) (L' := [some (.ref 15), some (.int x1), some (.int x2), some (.int x3), o4]) (S' := [.int x2]) (h' := h) zp_28 rfl ?_
      exact zQ_retI zp_28 rfl ((H.2 c1).1 c2)
    · refine zQ_seq 3 (pc' := 22) (L' := [some (.ref 15), some (.int x1), some (.int x2), some (.int x3), o4]) (S' := [.int x3, .ref 17]) (h' := h) zp_28 rfl ?_
      refine zQ_ial (N := 4) (f := h.1 17) zp_28 rfl rfl rfl (fun b3 b3' => ?_)
      refine zQ_seq 1 (pc' := 24) (L' := [some (.ref 15), some (.int x1), some (.int x2), some (.int x3), o4]) (S' := [.int (Int32.ofInt 5), .int (h.1 17 x3.toInt.toNat)]) (h' := h) zp_28 rfl ?_
      refine zQ_ic zp_28 rfl (t := 57) rfl (i := (h.1 17 x3.toInt.toNat).toInt) (j := (5 : Int)) rfl kc_5 (fun c4 => ?_) (fun c4 => ?_)
      · refine zQ_seq 1 (pc' := 60) (L' := [some (.ref 15), some (.int x1), some (.int x2), some (.int (x3 + Int32.ofInt 1)), o4]) (S' := []) (h' := h) zp_28 rfl ?_
        refine zQ_goto zp_28 rfl (t := 4) rfl ?_
        exact ((((H.2 c1).2 c2) b3 b3').1 c4)
      · refine zQ_seq 3 (pc' := 32) (L' := [some (.ref 15), some (.int x1), some (.int x2), some (.int x3), o4]) (S' := [.int (h.1 15 4), .int x2]) (h' := h) zp_28 rfl ?_
        refine zQ_csI (M' := 51) (as := [.int x2, .int (h.1 15 4)]) (S' := []) zp_28 rfl rfl rfl zp_51 (Or.inl rfl) rfl rfl (zqm_imp ((((H.2 c1).2 c2) b3 b3').2 c4) (fun rv h5 r5 => zri_imp r5 (fun v5 r5' => ?_)))
        refine zQ_seq 2 (pc' := 37) (L' := [some (.ref 15), some (.int x1), some (.int x2), some (.int x3), o4]) (S' := [.int x3, .ref 15, .int v5]) (h' := h5) zp_28 rfl ?_
        refine zQ_cvI (M' := 21) (as := [.ref 15, .int x3]) (S' := [.int v5]) zp_28 rfl rfl zp_21 (Or.inl rfl) rfl rfl (zqm_imp r5' (fun rv h6 r6 => zri_imp r6 (fun v6 r6' => ?_)))
        refine zQ_seq 6 (pc' := 50) (L' := [some (.ref 15), some (.int x1), some (.int x2), some (.int x3), some (.int (v5 &&& v6))]) (S' := [.int (v5 &&& v6), .int (h6.1 15 4), .int x2]) (h' := h6) zp_28 rfl ?_
        refine zQ_csI (M' := 216) (as := [.int (v5 &&& v6)]) (S' := [.int (h6.1 15 4), .int x2]) zp_28 rfl rfl rfl zp_216 (Or.inl rfl) rfl rfl (zqm_imp r6' (fun rv h7 r7 => zri_imp r7 (fun v7 r7' => ?_)))
        refine zQ_csI (M' := 52) (as := [.int x2, .int (h6.1 15 4), .int v7]) (S' := []) zp_28 rfl rfl rfl zp_52 (Or.inl rfl) rfl rfl (zqm_imp r7' (fun rv h8 r8 => zri_imp r8 (fun v8 r8' => ?_)))
        refine zQ_seq 2 (pc' := 60) (L' := [some (.ref 15), some (.int x1), some (.int v8), some (.int (x3 + Int32.ofInt 1)), some (.int (v5 &&& v6))]) (S' := []) (h' := h8) zp_28 rfl ?_
        refine zQ_goto zp_28 rfl (t := 4) rfl ?_
        exact r8'
theorem s_48 {h : zH} {Q : Option Value → zH → Prop} (a0 : Int32) (a1 : Int32) (H : Q (some (.int (((a0 >>> (a1 &&& 31)) &&& (Int32.ofInt 1)) ||| (((a0 >>> (((Int32.ofInt 15) + a1) &&& 31)) &&& (Int32.ofInt 1)) <<< ((Int32.ofInt 1) &&& 31))))) h) : zqm 48 [.int a0, .int a1] h Q := by
  refine zqm_of zp_48 (fun n => ?_)
  show zQ n 48 0 [some (.int a0), some (.int a1)] [] h Q
  refine zQ_seq 15 (pc' := 16) (L' := [some (.int a0), some (.int a1)]) (S' := [.int (((a0 >>> (a1 &&& 31)) &&& (Int32.ofInt 1)) ||| (((a0 >>> (((Int32.ofInt 15) + a1) &&& 31)) &&& (Int32.ofInt 1)) <<< ((Int32.ofInt 1) &&& 31)))]) (h' := h) zp_48 rfl ?_
  exact zQ_retI zp_48 rfl H
theorem s_49 {h : zH} {Q : Option Value → zH → Prop} (a0 : Int32) (a1 : Int32) (a2 : Int32) (H : Q (some (.int (((a0 &&& ((((Int32.ofInt 1) <<< (a1 &&& 31)) ||| ((Int32.ofInt 1) <<< (((Int32.ofInt 15) + a1) &&& 31))) ^^^ (Int32.ofInt (-1)))) ||| ((a2 &&& (Int32.ofInt 1)) <<< (a1 &&& 31))) ||| (((a2 >>> ((Int32.ofInt 1) &&& 31)) &&& (Int32.ofInt 1)) <<< (((Int32.ofInt 15) + a1) &&& 31))))) h) : zqm 49 [.int a0, .int a1, .int a2] h Q := by
  refine zqm_of zp_49 (fun n => ?_)
  show zQ n 49 0 [some (.int a0), some (.int a1), some (.int a2), none] [] h Q
  refine zQ_seq 31 (pc' := 33) (L' := [some (.int a0), some (.int a1), some (.int a2), some (.int (a0 &&& ((((Int32.ofInt 1) <<< (a1 &&& 31)) ||| ((Int32.ofInt 1) <<< (((Int32.ofInt 15) + a1) &&& 31))) ^^^ (Int32.ofInt (-1)))))]) (S' := [.int (((a0 &&& ((((Int32.ofInt 1) <<< (a1 &&& 31)) ||| ((Int32.ofInt 1) <<< (((Int32.ofInt 15) + a1) &&& 31))) ^^^ (Int32.ofInt (-1)))) ||| ((a2 &&& (Int32.ofInt 1)) <<< (a1 &&& 31))) ||| (((a2 >>> ((Int32.ofInt 1) &&& 31)) &&& (Int32.ofInt 1)) <<< (((Int32.ofInt 15) + a1) &&& 31)))]) (h' := h) zp_49 rfl ?_
  exact zQ_retI zp_49 rfl H
theorem s_50 {h : zH} {Q : Option Value → zH → Prop} (a0 : Int32) (a1 : Int32) (a2 : Int32) (H : zqm 48 [.int a0, .int a1] h (fun rv h1 => zri rv (fun v1 => zqm 49 [.int a0, .int a1, .int ((v1 + a2) - (v1 + a2) / (Int32.ofInt 4) * (Int32.ofInt 4))] h1 (fun rv h2 => zri rv (fun v2 => Q (some (.int v2)) h2))))) : zqm 50 [.int a0, .int a1, .int a2] h Q := by
  refine zqm_of zp_50 (fun n => ?_)
  show zQ n 50 0 [some (.int a0), some (.int a1), some (.int a2)] [] h Q
  refine zQ_seq 4 (pc' := 4) (L' := [some (.int a0), some (.int a1), some (.int a2)]) (S' := [.int a1, .int a0, .int a1, .int a0]) (h' := h) zp_50 rfl ?_
  refine zQ_csI (M' := 48) (as := [.int a0, .int a1]) (S' := [.int a1, .int a0]) zp_50 rfl rfl rfl zp_48 (Or.inl rfl) rfl rfl (zqm_imp H (fun rv h1 r1 => zri_imp r1 (fun v1 r1' => ?_)))
  refine zQ_seq 3 (pc' := 10) (L' := [some (.int a0), some (.int a1), some (.int a2)]) (S' := [.int (Int32.ofInt 4), .int (v1 + a2), .int a1, .int a0]) (h' := h1) zp_50 rfl ?_
  refine zQ_rem zp_50 rfl (fun _ => ?_)
  refine zQ_csI (M' := 49) (as := [.int a0, .int a1, .int ((v1 + a2) - (v1 + a2) / (Int32.ofInt 4) * (Int32.ofInt 4))]) (S' := []) zp_50 rfl rfl rfl zp_49 (Or.inl rfl) rfl rfl (zqm_imp r1' (fun rv h2 r2 => zri_imp r2 (fun v2 r2' => ?_)))
  exact zQ_retI zp_50 rfl r2'
theorem s_51 {h : zH} {Q : Option Value → zH → Prop} (a0 : Int32) (a1 : Int32) (H : Q (some (.int (((a0 ^^^ a1) ||| ((a0 ^^^ a1) >>> ((Int32.ofInt 15) &&& 31))) &&& (Int32.ofInt 32767)))) h) : zqm 51 [.int a0, .int a1] h Q := by
  refine zqm_of zp_51 (fun n => ?_)
  show zQ n 51 0 [some (.int a0), some (.int a1), none] [] h Q
  refine zQ_seq 11 (pc' := 14) (L' := [some (.int a0), some (.int a1), some (.int (a0 ^^^ a1))]) (S' := [.int (((a0 ^^^ a1) ||| ((a0 ^^^ a1) >>> ((Int32.ofInt 15) &&& 31))) &&& (Int32.ofInt 32767))]) (h' := h) zp_51 rfl ?_
  exact zQ_retI zp_51 rfl H
theorem s_52 {h : zH} {Q : Option Value → zH → Prop} (a0 : Int32) (a1 : Int32) (a2 : Int32) (H : Q (some (.int ((a0 &&& ((a2 ||| (a2 <<< ((Int32.ofInt 15) &&& 31))) ^^^ (Int32.ofInt (-1)))) ||| (a1 &&& (a2 ||| (a2 <<< ((Int32.ofInt 15) &&& 31))))))) h) : zqm 52 [.int a0, .int a1, .int a2] h Q := by
  refine zqm_of zp_52 (fun n => ?_)
  show zQ n 52 0 [some (.int a0), some (.int a1), some (.int a2), none] [] h Q
  refine zQ_seq 15 (pc' := 16) (L' := [some (.int a0), some (.int a1), some (.int a2), some (.int (a2 ||| (a2 <<< ((Int32.ofInt 15) &&& 31))))]) (S' := [.int ((a0 &&& ((a2 ||| (a2 <<< ((Int32.ofInt 15) &&& 31))) ^^^ (Int32.ofInt (-1)))) ||| (a1 &&& (a2 ||| (a2 <<< ((Int32.ofInt 15) &&& 31)))))]) (h' := h) zp_52 rfl ?_
  exact zQ_retI zp_52 rfl H
theorem s_53 {h : zH} {Q : Option Value → zH → Prop} (H : (((h.1 13 1).toInt < (120 : Int) → Q (some (.int (Int32.ofInt 0))) h) ∧ (¬ ((h.1 13 1).toInt < (120 : Int)) → Q (some (.int (Int32.ofInt 1))) h))) : zqm 53 [.ref 13] h Q := by
  refine zqm_of zp_53 (fun n => ?_)
  show zQ n 53 0 [some (.ref 13)] [] h Q
  refine zQ_seq 3 (pc' := 6) (L' := [some (.ref 13)]) (S' := [.int (Int32.ofInt 120), .int (h.1 13 1)]) (h' := h) zp_53 rfl ?_
  refine zQ_ic zp_53 rfl (t := 13) rfl (i := (h.1 13 1).toInt) (j := (120 : Int)) rfl kc_120 (fun c1 => ?_) (fun c1 => ?_)
  · refine zQ_seq 1 (pc' := 14) (L' := [some (.ref 13)]) (S' := [.int (Int32.ofInt 0)]) (h' := h) zp_53 rfl ?_
    exact zQ_retI zp_53 rfl (H.1 c1)
  · refine zQ_seq 1 (pc' := 10) (L' := [some (.ref 13)]) (S' := [.int (Int32.ofInt 1)]) (h' := h) zp_53 rfl ?_
    refine zQ_goto zp_53 rfl (t := 14) rfl ?_
    exact zQ_retI zp_53 rfl (H.2 c1)
theorem s_54 {h : zH} {Q : Option Value → zH → Prop} (a1 : Int32) (H : (((120 : Int) ≤ (h.1 13 1).toInt → Q (some (.int (h.1 13 1))) h) ∧ (¬ ((120 : Int) ≤ (h.1 13 1).toInt) → (0 ≤ (h.1 13 1).toInt → (h.1 13 1).toInt < 120 → Q (some (.int ((h.1 13 1) + (Int32.ofInt 1)))) (zSet (zSet h 14 (h.1 13 1).toInt.toNat a1) 13 1 ((h.1 13 1) + (Int32.ofInt 1))))))) : zqm 54 [.ref 13, .int a1] h Q := by
  refine zqm_of zp_54 (fun n => ?_)
  show zQ n 54 0 [some (.ref 13), some (.int a1)] [] h Q
  refine zQ_seq 3 (pc' := 6) (L' := [some (.ref 13), some (.int a1)]) (S' := [.int (Int32.ofInt 120), .int (h.1 13 1)]) (h' := h) zp_54 rfl ?_
  refine zQ_ic zp_54 rfl (t := 29) rfl (i := (h.1 13 1).toInt) (j := (120 : Int)) rfl kc_120 (fun c1 => ?_) (fun c1 => ?_)
  · refine zQ_seq 2 (pc' := 33) (L' := [some (.ref 13), some (.int a1)]) (S' := [.int (h.1 13 1)]) (h' := h) zp_54 rfl ?_
    exact zQ_retI zp_54 rfl (H.1 c1)
  · refine zQ_seq 5 (pc' := 18) (L' := [some (.ref 13), some (.int a1)]) (S' := [.int a1, .int (h.1 13 1), .ref 14]) (h' := h) zp_54 rfl ?_
    refine zQ_ias (N := 120) zp_54 rfl rfl rfl (fun b2 b2' => ?_)
    refine zQ_seq 8 (pc' := 33) (L' := [some (.ref 13), some (.int a1)]) (S' := [.int ((h.1 13 1) + (Int32.ofInt 1))]) (h' := (zSet (zSet h 14 (h.1 13 1).toInt.toNat a1) 13 1 ((h.1 13 1) + (Int32.ofInt 1)))) zp_54 rfl ?_
    exact zQ_retI zp_54 rfl ((H.2 c1) b2 b2')
theorem s_55 {h : zH} {Q : Option Value → zH → Prop} (H : (∀ n, zqm 10 [.ref 23] (zSet (zSet h 13 2 (Int32.ofInt 0)) 13 3 (Int32.ofInt 0)) (fun _ h1 => zqm 56 [.ref 13, .ref 23] h1 (fun _ h2 => zqm 57 [.ref 13, .int (Int32.ofInt 109)] h2 (fun rv h3 => zri rv (fun v3 => zqm 57 [.ref 13, .int (Int32.ofInt 110)] (zSet h3 23 3 v3) (fun rv h4 => zri rv (fun v4 => zqm 58 [.ref 13, .ref 23] (zSet h4 23 4 v4) (fun _ h5 => zQ n 55 46 [some (.ref 13), some (.ref 23), some (.int (Int32.ofInt 0))] [] h5 Q))))))))) : zqm 55 [.ref 13, .ref 23] h Q := by
  refine zqm_of zp_55 (fun n => ?_)
  have H := H n
  show zQ n 55 0 [some (.ref 13), some (.ref 23), none] [] h Q
  refine zQ_seq 7 (pc' := 11) (L' := [some (.ref 13), some (.ref 23), none]) (S' := [.ref 23]) (h' := (zSet (zSet h 13 2 (Int32.ofInt 0)) 13 3 (Int32.ofInt 0))) zp_55 rfl ?_
  refine zQ_cvV (M' := 10) (as := [.ref 23]) (S' := []) zp_55 rfl rfl zp_10 rfl rfl rfl (zqm_imp H (fun rv h1 r1 => ?_))
  refine zQ_seq 2 (pc' := 16) (L' := [some (.ref 13), some (.ref 23), none]) (S' := [.ref 23, .ref 13]) (h' := h1) zp_55 rfl ?_
  refine zQ_cvV (M' := 56) (as := [.ref 13, .ref 23]) (S' := []) zp_55 rfl rfl zp_56 rfl rfl rfl (zqm_imp r1 (fun rv h2 r2 => ?_))
  refine zQ_seq 3 (pc' := 23) (L' := [some (.ref 13), some (.ref 23), none]) (S' := [.int (Int32.ofInt 109), .ref 13, .ref 23]) (h' := h2) zp_55 rfl ?_
  refine zQ_cvI (M' := 57) (as := [.ref 13, .int (Int32.ofInt 109)]) (S' := [.ref 23]) zp_55 rfl rfl zp_57 (Or.inl rfl) rfl rfl (zqm_imp r2 (fun rv h3 r3 => zri_imp r3 (fun v3 r3' => ?_)))
  refine zQ_seq 4 (pc' := 33) (L' := [some (.ref 13), some (.ref 23), none]) (S' := [.int (Int32.ofInt 110), .ref 13, .ref 23]) (h' := (zSet h3 23 3 v3)) zp_55 rfl ?_
  refine zQ_cvI (M' := 57) (as := [.ref 13, .int (Int32.ofInt 110)]) (S' := [.ref 23]) zp_55 rfl rfl zp_57 (Or.inl rfl) rfl rfl (zqm_imp r3' (fun rv h4 r4 => zri_imp r4 (fun v4 r4' => ?_)))
  refine zQ_seq 3 (pc' := 41) (L' := [some (.ref 13), some (.ref 23), none]) (S' := [.ref 23, .ref 13]) (h' := (zSet h4 23 4 v4)) zp_55 rfl ?_
  refine zQ_cvV (M' := 58) (as := [.ref 13, .ref 23]) (S' := []) zp_55 rfl rfl zp_58 rfl rfl rfl (zqm_imp r4' (fun rv h5 r5 => ?_))
  refine zQ_seq 2 (pc' := 46) (L' := [some (.ref 13), some (.ref 23), some (.int (Int32.ofInt 0))]) (S' := []) (h' := h5) zp_55 rfl ?_
  exact r5
theorem s_55_46 {n : Nat} {h : zH} {Q : Option Value → zH → Prop} (x2 : Int32) (H : (((4 : Int) < x2.toInt → ((¬ (h.1 13 3).toInt = 0 → Q none (zSet h 13 1 (Int32.ofInt 0))) ∧ (¬ (¬ (h.1 13 3).toInt = 0) → zqm 12 [.ref 23] h (fun _ h3 => Q none (zSet h3 13 1 (Int32.ofInt 0)))))) ∧ (¬ ((4 : Int) < x2.toInt) → ((¬ (h.1 13 3).toInt = 0 → ((¬ (h.1 13 3).toInt = 0 → Q none (zSet h 13 1 (Int32.ofInt 0))) ∧ (¬ (¬ (h.1 13 3).toInt = 0) → zqm 12 [.ref 23] h (fun _ h6 => Q none (zSet h6 13 1 (Int32.ofInt 0)))))) ∧ (¬ (¬ (h.1 13 3).toInt = 0) → (((h.1 13 1).toInt ≤ (h.1 13 2).toInt → ((¬ (h.1 13 3).toInt = 0 → Q none (zSet h 13 1 (Int32.ofInt 0))) ∧ (¬ (¬ (h.1 13 3).toInt = 0) → zqm 12 [.ref 23] h (fun _ h9 => Q none (zSet h9 13 1 (Int32.ofInt 0)))))) ∧ (¬ ((h.1 13 1).toInt ≤ (h.1 13 2).toInt) → zqm 59 [.ref 13, .ref 23] h (fun _ h10 => zQ n 55 46 [some (.ref 13), some (.ref 23), some (.int (x2 + Int32.ofInt 1))] [] h10 Q)))))))) : zQ (n + 1) 55 46 [some (.ref 13), some (.ref 23), some (.int x2)] [] h Q := by
  refine zQ_seqL 1 (pc' := 48) (L' := [some (.ref 13), some (.ref 23), some (.int x2)]) (S' := [.int (Int32.ofInt 4), .int x2]) (h' := h) zp_55 rfl ?_
  refine zQ_ic zp_55 rfl (t := 80) rfl (i := x2.toInt) (j := (4 : Int)) rfl kc_4 (fun c1 => ?_) (fun c1 => ?_)
  · refine zQ_seq 2 (pc' := 84) (L' := [some (.ref 13), some (.ref 23), some (.int x2)]) (S' := [.int (h.1 13 3)]) (h' := h) zp_55 rfl ?_
    refine zQ_if zp_55 rfl (t := 91) rfl (i := (h.1 13 3).toInt) rfl (fun c2 => ?_) (fun c2 => ?_)
    · refine zQ_seq 3 (pc' := 96) (L' := [some (.ref 13), some (.ref 23), some (.int x2)]) (S' := []) (h' := (zSet h 13 1 (Int32.ofInt 0))) zp_55 rfl ?_
      exact zQ_retV zp_55 rfl ((H.1 c1).1 c2)
    · refine zQ_seq 1 (pc' := 88) (L' := [some (.ref 13), some (.ref 23), some (.int x2)]) (S' := [.ref 23]) (h' := h) zp_55 rfl ?_
      refine zQ_cvV (M' := 12) (as := [.ref 23]) (S' := []) zp_55 rfl rfl zp_12 rfl rfl rfl (zqm_imp ((H.1 c1).2 c2) (fun rv h3 r3 => ?_))
      refine zQ_seq 3 (pc' := 96) (L' := [some (.ref 13), some (.ref 23), some (.int x2)]) (S' := []) (h' := (zSet h3 13 1 (Int32.ofInt 0))) zp_55 rfl ?_
      exact zQ_retV zp_55 rfl r3
  · refine zQ_seq 2 (pc' := 55) (L' := [some (.ref 13), some (.ref 23), some (.int x2)]) (S' := [.int (h.1 13 3)]) (h' := h) zp_55 rfl ?_
    refine zQ_if zp_55 rfl (t := 80) rfl (i := (h.1 13 3).toInt) rfl (fun c4 => ?_) (fun c4 => ?_)
    · refine zQ_seq 2 (pc' := 84) (L' := [some (.ref 13), some (.ref 23), some (.int x2)]) (S' := [.int (h.1 13 3)]) (h' := h) zp_55 rfl ?_
      refine zQ_if zp_55 rfl (t := 91) rfl (i := (h.1 13 3).toInt) rfl (fun c5 => ?_) (fun c5 => ?_)
      · refine zQ_seq 3 (pc' := 96) (L' := [some (.ref 13), some (.ref 23), some (.int x2)]) (S' := []) (h' := (zSet h 13 1 (Int32.ofInt 0))) zp_55 rfl ?_
        exact zQ_retV zp_55 rfl (((H.2 c1).1 c4).1 c5)
      · refine zQ_seq 1 (pc' := 88) (L' := [some (.ref 13), some (.ref 23), some (.int x2)]) (S' := [.ref 23]) (h' := h) zp_55 rfl ?_
        refine zQ_cvV (M' := 12) (as := [.ref 23]) (S' := []) zp_55 rfl rfl zp_12 rfl rfl rfl (zqm_imp (((H.2 c1).1 c4).2 c5) (fun rv h6 r6 => ?_))
        refine zQ_seq 3 (pc' := 96) (L' := [some (.ref 13), some (.ref 23), some (.int x2)]) (S' := []) (h' := (zSet h6 13 1 (Int32.ofInt 0))) zp_55 rfl ?_
        exact zQ_retV zp_55 rfl r6
    · refine zQ_seq 4 (pc' := 66) (L' := [some (.ref 13), some (.ref 23), some (.int x2)]) (S' := [.int (h.1 13 1), .int (h.1 13 2)]) (h' := h) zp_55 rfl ?_
      refine zQ_ic zp_55 rfl (t := 80) rfl (i := (h.1 13 2).toInt) (j := (h.1 13 1).toInt) rfl rfl (fun c7 => ?_) (fun c7 => ?_)
      · refine zQ_seq 2 (pc' := 84) (L' := [some (.ref 13), some (.ref 23), some (.int x2)]) (S' := [.int (h.1 13 3)]) (h' := h) zp_55 rfl ?_
        refine zQ_if zp_55 rfl (t := 91) rfl (i := (h.1 13 3).toInt) rfl (fun c8 => ?_) (fun c8 => ?_)
        · refine zQ_seq 3 (pc' := 96) (L' := [some (.ref 13), some (.ref 23), some (.int x2)]) (S' := []) (h' := (zSet h 13 1 (Int32.ofInt 0))) zp_55 rfl ?_
          exact zQ_retV zp_55 rfl ((((H.2 c1).2 c4).1 c7).1 c8)
        · refine zQ_seq 1 (pc' := 88) (L' := [some (.ref 13), some (.ref 23), some (.int x2)]) (S' := [.ref 23]) (h' := h) zp_55 rfl ?_
          refine zQ_cvV (M' := 12) (as := [.ref 23]) (S' := []) zp_55 rfl rfl zp_12 rfl rfl rfl (zqm_imp ((((H.2 c1).2 c4).1 c7).2 c8) (fun rv h9 r9 => ?_))
          refine zQ_seq 3 (pc' := 96) (L' := [some (.ref 13), some (.ref 23), some (.int x2)]) (S' := []) (h' := (zSet h9 13 1 (Int32.ofInt 0))) zp_55 rfl ?_
          exact zQ_retV zp_55 rfl r9
      · refine zQ_seq 2 (pc' := 71) (L' := [some (.ref 13), some (.ref 23), some (.int x2)]) (S' := [.ref 23, .ref 13]) (h' := h) zp_55 rfl ?_
        refine zQ_cvV (M' := 59) (as := [.ref 13, .ref 23]) (S' := []) zp_55 rfl rfl zp_59 rfl rfl rfl (zqm_imp (((H.2 c1).2 c4).2 c7) (fun rv h10 r10 => ?_))
        refine zQ_seq 1 (pc' := 77) (L' := [some (.ref 13), some (.ref 23), some (.int (x2 + Int32.ofInt 1))]) (S' := []) (h' := h10) zp_55 rfl ?_
        refine zQ_goto zp_55 rfl (t := 46) rfl ?_
        exact r10
theorem s_56 {h : zH} {Q : Option Value → zH → Prop} (H : zqm 64 [.ref 13, .int (Int32.ofInt 108)] h (fun _ h1 => zqm 66 [.ref 13, .int (Int32.ofInt 0), .int (Int32.ofInt 14)] h1 (fun rv h2 => zri rv (fun v2 => zqm 64 [.ref 13, .int (Int32.ofInt 44)] (zSet h2 23 1 v2) (fun _ h3 => zqm 66 [.ref 13, .int (Int32.ofInt 0), .int (Int32.ofInt 3)] h3 (fun rv h4 => zri rv (fun v4 => zqm 64 [.ref 13, .int (Int32.ofInt 59)] (zSet h4 23 2 v4) (fun _ h5 => Q none h5)))))))) : zqm 56 [.ref 13, .ref 23] h Q := by
  refine zqm_of zp_56 (fun n => ?_)
  show zQ n 56 0 [some (.ref 13), some (.ref 23)] [] h Q
  refine zQ_seq 2 (pc' := 3) (L' := [some (.ref 13), some (.ref 23)]) (S' := [.int (Int32.ofInt 108), .ref 13]) (h' := h) zp_56 rfl ?_
  refine zQ_cvV (M' := 64) (as := [.ref 13, .int (Int32.ofInt 108)]) (S' := []) zp_56 rfl rfl zp_64 rfl rfl rfl (zqm_imp H (fun rv h1 r1 => ?_))
  refine zQ_seq 4 (pc' := 11) (L' := [some (.ref 13), some (.ref 23)]) (S' := [.int (Int32.ofInt 14), .int (Int32.ofInt 0), .ref 13, .ref 23]) (h' := h1) zp_56 rfl ?_
  refine zQ_cvI (M' := 66) (as := [.ref 13, .int (Int32.ofInt 0), .int (Int32.ofInt 14)]) (S' := [.ref 23]) zp_56 rfl rfl zp_66 (Or.inl rfl) rfl rfl (zqm_imp r1 (fun rv h2 r2 => zri_imp r2 (fun v2 r2' => ?_)))
  refine zQ_seq 3 (pc' := 20) (L' := [some (.ref 13), some (.ref 23)]) (S' := [.int (Int32.ofInt 44), .ref 13]) (h' := (zSet h2 23 1 v2)) zp_56 rfl ?_
  refine zQ_cvV (M' := 64) (as := [.ref 13, .int (Int32.ofInt 44)]) (S' := []) zp_56 rfl rfl zp_64 rfl rfl rfl (zqm_imp r2' (fun rv h3 r3 => ?_))
  refine zQ_seq 4 (pc' := 27) (L' := [some (.ref 13), some (.ref 23)]) (S' := [.int (Int32.ofInt 3), .int (Int32.ofInt 0), .ref 13, .ref 23]) (h' := h3) zp_56 rfl ?_
  refine zQ_cvI (M' := 66) (as := [.ref 13, .int (Int32.ofInt 0), .int (Int32.ofInt 3)]) (S' := [.ref 23]) zp_56 rfl rfl zp_66 (Or.inl rfl) rfl rfl (zqm_imp r3 (fun rv h4 r4 => zri_imp r4 (fun v4 r4' => ?_)))
  refine zQ_seq 3 (pc' := 36) (L' := [some (.ref 13), some (.ref 23)]) (S' := [.int (Int32.ofInt 59), .ref 13]) (h' := (zSet h4 23 2 v4)) zp_56 rfl ?_
  refine zQ_cvV (M' := 64) (as := [.ref 13, .int (Int32.ofInt 59)]) (S' := []) zp_56 rfl rfl zp_64 rfl rfl rfl (zqm_imp r4' (fun rv h5 r5 => ?_))
  exact zQ_retV zp_56 rfl r5
theorem s_57 {h : zH} {Q : Option Value → zH → Prop} (a1 : Int32) (H : (∀ n, zqm 64 [.ref 13, .int a1] h (fun _ h1 => zQ n 57 9 [some (.ref 13), some (.int a1), some (.int (Int32.ofInt 0)), some (.int (Int32.ofInt 0))] [] h1 Q))) : zqm 57 [.ref 13, .int a1] h Q := by
  refine zqm_of zp_57 (fun n => ?_)
  have H := H n
  show zQ n 57 0 [some (.ref 13), some (.int a1), none, none] [] h Q
  refine zQ_seq 4 (pc' := 4) (L' := [some (.ref 13), some (.int a1), some (.int (Int32.ofInt 0)), none]) (S' := [.int a1, .ref 13]) (h' := h) zp_57 rfl ?_
  refine zQ_cvV (M' := 64) (as := [.ref 13, .int a1]) (S' := []) zp_57 rfl rfl zp_64 rfl rfl rfl (zqm_imp H (fun rv h1 r1 => ?_))
  refine zQ_seq 2 (pc' := 9) (L' := [some (.ref 13), some (.int a1), some (.int (Int32.ofInt 0)), some (.int (Int32.ofInt 0))]) (S' := []) (h' := h1) zp_57 rfl ?_
  exact r1
theorem s_57_9 {n : Nat} {h : zH} {Q : Option Value → zH → Prop} (x1 : Int32) (x2 : Int32) (x3 : Int32) (H : (((15 : Int) ≤ x3.toInt → zqm 64 [.ref 13, .int (Int32.ofInt 59)] h (fun _ h2 => Q (some (.int x2)) h2)) ∧ (¬ ((15 : Int) ≤ x3.toInt) → zqm 65 [.ref 13, .int (Int32.ofInt 97), .int (Int32.ofInt 100)] h (fun rv h3 => zri rv (fun v3 => zqm 49 [.int x2, .int x3, .int v3] h3 (fun rv h4 => zri rv (fun v4 => zQ n 57 9 [some (.ref 13), some (.int x1), some (.int v4), some (.int (x3 + Int32.ofInt 1))] [] h4 Q))))))) : zQ (n + 1) 57 9 [some (.ref 13), some (.int x1), some (.int x2), some (.int x3)] [] h Q := by
  refine zQ_seqL 1 (pc' := 12) (L' := [some (.ref 13), some (.int x1), some (.int x2), some (.int x3)]) (S' := [.int (Int32.ofInt 15), .int x3]) (h' := h) zp_57 rfl ?_
  refine zQ_ic zp_57 rfl (t := 35) rfl (i := x3.toInt) (j := (15 : Int)) rfl kc_15 (fun c1 => ?_) (fun c1 => ?_)
  · refine zQ_seq 2 (pc' := 38) (L' := [some (.ref 13), some (.int x1), some (.int x2), some (.int x3)]) (S' := [.int (Int32.ofInt 59), .ref 13]) (h' := h) zp_57 rfl ?_
    refine zQ_cvV (M' := 64) (as := [.ref 13, .int (Int32.ofInt 59)]) (S' := []) zp_57 rfl rfl zp_64 rfl rfl rfl (zqm_imp (H.1 c1) (fun rv h2 r2 => ?_))
    refine zQ_seq 1 (pc' := 42) (L' := [some (.ref 13), some (.int x1), some (.int x2), some (.int x3)]) (S' := [.int x2]) (h' := h2) zp_57 rfl ?_
    exact zQ_retI zp_57 rfl r2
  · refine zQ_seq 5 (pc' := 22) (L' := [some (.ref 13), some (.int x1), some (.int x2), some (.int x3)]) (S' := [.int (Int32.ofInt 100), .int (Int32.ofInt 97), .ref 13, .int x3, .int x2]) (h' := h) zp_57 rfl ?_
    refine zQ_cvI (M' := 65) (as := [.ref 13, .int (Int32.ofInt 97), .int (Int32.ofInt 100)]) (S' := [.int x3, .int x2]) zp_57 rfl rfl zp_65 (Or.inl rfl) rfl rfl (zqm_imp (H.2 c1) (fun rv h3 r3 => zri_imp r3 (fun v3 r3' => ?_)))
    refine zQ_csI (M' := 49) (as := [.int x2, .int x3, .int v3]) (S' := []) zp_57 rfl rfl rfl zp_49 (Or.inl rfl) rfl rfl (zqm_imp r3' (fun rv h4 r4 => zri_imp r4 (fun v4 r4' => ?_)))
    refine zQ_seq 2 (pc' := 32) (L' := [some (.ref 13), some (.int x1), some (.int v4), some (.int (x3 + Int32.ofInt 1))]) (S' := []) (h' := h4) zp_57 rfl ?_
    refine zQ_goto zp_57 rfl (t := 9) rfl ?_
    exact r4'
theorem s_58 {h : zH} {Q : Option Value → zH → Prop} (H : (∀ n, zqm 64 [.ref 13, .int (Int32.ofInt 99)] h (fun _ h1 => zQ n 58 8 [some (.ref 13), some (.ref 23), some (.int (Int32.ofInt 0)), none] [] h1 Q))) : zqm 58 [.ref 13, .ref 23] h Q := by
  refine zqm_of zp_58 (fun n => ?_)
  have H := H n
  show zQ n 58 0 [some (.ref 13), some (.ref 23), none, none] [] h Q
  refine zQ_seq 2 (pc' := 3) (L' := [some (.ref 13), some (.ref 23), none, none]) (S' := [.int (Int32.ofInt 99), .ref 13]) (h' := h) zp_58 rfl ?_
  refine zQ_cvV (M' := 64) (as := [.ref 13, .int (Int32.ofInt 99)]) (S' := []) zp_58 rfl rfl zp_64 rfl rfl rfl (zqm_imp H (fun rv h1 r1 => ?_))
  refine zQ_seq 2 (pc' := 8) (L' := [some (.ref 13), some (.ref 23), some (.int (Int32.ofInt 0)), none]) (S' := []) (h' := h1) zp_58 rfl ?_
  exact r1
theorem s_58_8 {n : Nat} {h : zH} {Q : Option Value → zH → Prop} (x2 : Int32) (o3 : Option Value) (H : (((15 : Int) ≤ x2.toInt → zqm 64 [.ref 13, .int (Int32.ofInt 59)] h (fun _ h2 => Q none h2)) ∧ (¬ ((15 : Int) ≤ x2.toInt) → zqm 65 [.ref 13, .int (Int32.ofInt 101), .int (Int32.ofInt 103)] h (fun rv h3 => zri rv (fun v3 => ((v3.toInt < 0 → zQ n 58 8 [some (.ref 13), some (.ref 23), some (.int (x2 + Int32.ofInt 1)), some (.int v3)] [] h3 Q) ∧ (¬ (v3.toInt < 0) → (((3 : Int) ≤ v3.toInt → zQ n 58 8 [some (.ref 13), some (.ref 23), some (.int (x2 + Int32.ofInt 1)), some (.int v3)] [] h3 Q) ∧ (¬ ((3 : Int) ≤ v3.toInt) → (0 ≤ v3.toInt → v3.toInt < 3 → (0 ≤ v3.toInt → v3.toInt < 3 → zQ n 58 8 [some (.ref 13), some (.ref 23), some (.int (x2 + Int32.ofInt 1)), some (.int v3)] [] (zSet h3 24 v3.toInt.toNat ((h3.1 24 v3.toInt.toNat) ||| ((Int32.ofInt 1) <<< (x2 &&& 31)))) Q))))))))))) : zQ (n + 1) 58 8 [some (.ref 13), some (.ref 23), some (.int x2), o3] [] h Q := by
  refine zQ_seqL 1 (pc' := 11) (L' := [some (.ref 13), some (.ref 23), some (.int x2), o3]) (S' := [.int (Int32.ofInt 15), .int x2]) (h' := h) zp_58 rfl ?_
  refine zQ_ic zp_58 rfl (t := 50) rfl (i := x2.toInt) (j := (15 : Int)) rfl kc_15 (fun c1 => ?_) (fun c1 => ?_)
  · refine zQ_seq 2 (pc' := 53) (L' := [some (.ref 13), some (.ref 23), some (.int x2), o3]) (S' := [.int (Int32.ofInt 59), .ref 13]) (h' := h) zp_58 rfl ?_
    refine zQ_cvV (M' := 64) (as := [.ref 13, .int (Int32.ofInt 59)]) (S' := []) zp_58 rfl rfl zp_64 rfl rfl rfl (zqm_imp (H.1 c1) (fun rv h2 r2 => ?_))
    exact zQ_retV zp_58 rfl r2
  · refine zQ_seq 3 (pc' := 19) (L' := [some (.ref 13), some (.ref 23), some (.int x2), o3]) (S' := [.int (Int32.ofInt 103), .int (Int32.ofInt 101), .ref 13]) (h' := h) zp_58 rfl ?_
    refine zQ_cvI (M' := 65) (as := [.ref 13, .int (Int32.ofInt 101), .int (Int32.ofInt 103)]) (S' := []) zp_58 rfl rfl zp_65 (Or.inl rfl) rfl rfl (zqm_imp (H.2 c1) (fun rv h3 r3 => zri_imp r3 (fun v3 r3' => ?_)))
    refine zQ_seq 2 (pc' := 24) (L' := [some (.ref 13), some (.ref 23), some (.int x2), some (.int v3)]) (S' := [.int v3]) (h' := h3) zp_58 rfl ?_
    refine zQ_if zp_58 rfl (t := 44) rfl (i := v3.toInt) rfl (fun c4 => ?_) (fun c4 => ?_)
    · refine zQ_seq 1 (pc' := 47) (L' := [some (.ref 13), some (.ref 23), some (.int (x2 + Int32.ofInt 1)), some (.int v3)]) (S' := []) (h' := h3) zp_58 rfl ?_
      refine zQ_goto zp_58 rfl (t := 8) rfl ?_
      exact (r3'.1 c4)
    · refine zQ_seq 2 (pc' := 29) (L' := [some (.ref 13), some (.ref 23), some (.int x2), some (.int v3)]) (S' := [.int (Int32.ofInt 3), .int v3]) (h' := h3) zp_58 rfl ?_
      refine zQ_ic zp_58 rfl (t := 44) rfl (i := v3.toInt) (j := (3 : Int)) rfl kc_3 (fun c5 => ?_) (fun c5 => ?_)
      · refine zQ_seq 1 (pc' := 47) (L' := [some (.ref 13), some (.ref 23), some (.int (x2 + Int32.ofInt 1)), some (.int v3)]) (S' := []) (h' := h3) zp_58 rfl ?_
        refine zQ_goto zp_58 rfl (t := 8) rfl ?_
        exact ((r3'.2 c4).1 c5)
      · refine zQ_seq 4 (pc' := 38) (L' := [some (.ref 13), some (.ref 23), some (.int x2), some (.int v3)]) (S' := [.int v3, .ref 24, .int v3, .ref 24]) (h' := h3) zp_58 rfl ?_
        refine zQ_ial (N := 3) (f := h3.1 24) zp_58 rfl rfl rfl (fun b6 b6' => ?_)
        refine zQ_seq 4 (pc' := 43) (L' := [some (.ref 13), some (.ref 23), some (.int x2), some (.int v3)]) (S' := [.int ((h3.1 24 v3.toInt.toNat) ||| ((Int32.ofInt 1) <<< (x2 &&& 31))), .int v3, .ref 24]) (h' := h3) zp_58 rfl ?_
        refine zQ_ias (N := 3) zp_58 rfl rfl rfl (fun b7 b7' => ?_)
        refine zQ_seq 1 (pc' := 47) (L' := [some (.ref 13), some (.ref 23), some (.int (x2 + Int32.ofInt 1)), some (.int v3)]) (S' := []) (h' := (zSet h3 24 v3.toInt.toNat ((h3.1 24 v3.toInt.toNat) ||| ((Int32.ofInt 1) <<< (x2 &&& 31))))) zp_58 rfl ?_
        refine zQ_goto zp_58 rfl (t := 8) rfl ?_
        exact ((((r3'.2 c4).2 c5) b6 b6') b7 b7')
theorem s_59 {h : zH} {Q : Option Value → zH → Prop} (H : zqm 62 [.ref 13] h (fun rv h1 => zri rv (fun v1 => zqm 60 [.int v1] h1 (fun rv h2 => zri rv (fun v2 => ((¬ v2.toInt = 0 → (((h2.1 23 6).toInt < 0 → zqm 61 [.ref 13, .int (Int32.ofInt 3)] h2 (fun _ h5 => Q none h5)) ∧ (¬ ((h2.1 23 6).toInt < 0) → (((h2.1 23 6).toInt < (4 : Int) → zqm 62 [.ref 13] h2 (fun rv h7 => zri rv (fun v7 => zqm 64 [.ref 13, .int v7] h7 (fun _ h8 => (0 ≤ (h2.1 23 6).toInt → (h2.1 23 6).toInt < 4 → zqm 66 [.ref 13, .int (Int32.ofInt 0), .int (Int32.ofInt 2)] (zSet h8 25 (h2.1 23 6).toInt.toNat v2) (fun rv h10 => zri rv (fun v10 => (0 ≤ (h2.1 23 6).toInt → (h2.1 23 6).toInt < 4 → zqm 64 [.ref 13, .int (Int32.ofInt 44)] (zSet h10 26 (h2.1 23 6).toInt.toNat v10) (fun _ h12 => zqm 66 [.ref 13, .int (Int32.ofInt 1), .int (Int32.ofInt 5)] h12 (fun rv h13 => zri rv (fun v13 => (0 ≤ (h2.1 23 6).toInt → (h2.1 23 6).toInt < 4 → zqm 64 [.ref 13, .int (Int32.ofInt 59)] (zSet h13 27 (h2.1 23 6).toInt.toNat v13) (fun _ h15 => Q none (zSet h15 23 6 ((h15.1 23 6) + (Int32.ofInt 1)))))))))))))))) ∧ (¬ ((h2.1 23 6).toInt < (4 : Int)) → zqm 61 [.ref 13, .int (Int32.ofInt 3)] h2 (fun _ h16 => Q none h16)))))) ∧ (¬ (¬ v2.toInt = 0) → zqm 61 [.ref 13, .int (Int32.ofInt 1)] h2 (fun _ h17 => Q none h17)))))))) : zqm 59 [.ref 13, .ref 23] h Q := by
  refine zqm_of zp_59 (fun n => ?_)
  show zQ n 59 0 [some (.ref 13), some (.ref 23), none, none] [] h Q
  refine zQ_seq 1 (pc' := 1) (L' := [some (.ref 13), some (.ref 23), none, none]) (S' := [.ref 13]) (h' := h) zp_59 rfl ?_
  refine zQ_cvI (M' := 62) (as := [.ref 13]) (S' := []) zp_59 rfl rfl zp_62 (Or.inl rfl) rfl rfl (zqm_imp H (fun rv h1 r1 => zri_imp r1 (fun v1 r1' => ?_)))
  refine zQ_csI (M' := 60) (as := [.int v1]) (S' := []) zp_59 rfl rfl rfl zp_60 (Or.inl rfl) rfl rfl (zqm_imp r1' (fun rv h2 r2 => zri_imp r2 (fun v2 r2' => ?_)))
  refine zQ_seq 5 (pc' := 14) (L' := [some (.ref 13), some (.ref 23), some (.int v2), some (.int (h2.1 23 6))]) (S' := [.int v2]) (h' := h2) zp_59 rfl ?_
  refine zQ_if zp_59 rfl (t := 23) rfl (i := v2.toInt) rfl (fun c3 => ?_) (fun c3 => ?_)
  · refine zQ_seq 1 (pc' := 24) (L' := [some (.ref 13), some (.ref 23), some (.int v2), some (.int (h2.1 23 6))]) (S' := [.int (h2.1 23 6)]) (h' := h2) zp_59 rfl ?_
    refine zQ_if zp_59 rfl (t := 32) rfl (i := (h2.1 23 6).toInt) rfl (fun c4 => ?_) (fun c4 => ?_)
    · refine zQ_seq 2 (pc' := 34) (L' := [some (.ref 13), some (.ref 23), some (.int v2), some (.int (h2.1 23 6))]) (S' := [.int (Int32.ofInt 3), .ref 13]) (h' := h2) zp_59 rfl ?_
      refine zQ_cvV (M' := 61) (as := [.ref 13, .int (Int32.ofInt 3)]) (S' := []) zp_59 rfl rfl zp_61 rfl rfl rfl (zqm_imp ((r2'.1 c3).1 c4) (fun rv h5 r5 => ?_))
      exact zQ_retV zp_59 rfl r5
    · refine zQ_seq 2 (pc' := 29) (L' := [some (.ref 13), some (.ref 23), some (.int v2), some (.int (h2.1 23 6))]) (S' := [.int (Int32.ofInt 4), .int (h2.1 23 6)]) (h' := h2) zp_59 rfl ?_
      refine zQ_ic zp_59 rfl (t := 38) rfl (i := (h2.1 23 6).toInt) (j := (4 : Int)) rfl kc_4 (fun c6 => ?_) (fun c6 => ?_)
      · refine zQ_seq 2 (pc' := 40) (L' := [some (.ref 13), some (.ref 23), some (.int v2), some (.int (h2.1 23 6))]) (S' := [.ref 13, .ref 13]) (h' := h2) zp_59 rfl ?_
        refine zQ_cvI (M' := 62) (as := [.ref 13]) (S' := [.ref 13]) zp_59 rfl rfl zp_62 (Or.inl rfl) rfl rfl (zqm_imp (((r2'.1 c3).2 c4).1 c6) (fun rv h7 r7 => zri_imp r7 (fun v7 r7' => ?_)))
        refine zQ_cvV (M' := 64) (as := [.ref 13, .int v7]) (S' := []) zp_59 rfl rfl zp_64 rfl rfl rfl (zqm_imp r7' (fun rv h8 r8 => ?_))
        refine zQ_seq 4 (pc' := 52) (L' := [some (.ref 13), some (.ref 23), some (.int v2), some (.int (h2.1 23 6))]) (S' := [.int v2, .int (h2.1 23 6), .ref 25]) (h' := h8) zp_59 rfl ?_
        refine zQ_ias (N := 4) zp_59 rfl rfl rfl (fun b9 b9' => ?_)
        refine zQ_seq 6 (pc' := 61) (L' := [some (.ref 13), some (.ref 23), some (.int v2), some (.int (h2.1 23 6))]) (S' := [.int (Int32.ofInt 2), .int (Int32.ofInt 0), .ref 13, .int (h2.1 23 6), .ref 26]) (h' := (zSet h8 25 (h2.1 23 6).toInt.toNat v2)) zp_59 rfl ?_
        refine zQ_cvI (M' := 66) (as := [.ref 13, .int (Int32.ofInt 0), .int (Int32.ofInt 2)]) (S' := [.int (h2.1 23 6), .ref 26]) zp_59 rfl rfl zp_66 (Or.inl rfl) rfl rfl (zqm_imp (r8 b9 b9') (fun rv h10 r10 => zri_imp r10 (fun v10 r10' => ?_)))
        refine zQ_ias (N := 4) zp_59 rfl rfl rfl (fun b11 b11' => ?_)
        refine zQ_seq 2 (pc' := 68) (L' := [some (.ref 13), some (.ref 23), some (.int v2), some (.int (h2.1 23 6))]) (S' := [.int (Int32.ofInt 44), .ref 13]) (h' := (zSet h10 26 (h2.1 23 6).toInt.toNat v10)) zp_59 rfl ?_
        refine zQ_cvV (M' := 64) (as := [.ref 13, .int (Int32.ofInt 44)]) (S' := []) zp_59 rfl rfl zp_64 rfl rfl rfl (zqm_imp (r10' b11 b11') (fun rv h12 r12 => ?_))
        refine zQ_seq 6 (pc' := 79) (L' := [some (.ref 13), some (.ref 23), some (.int v2), some (.int (h2.1 23 6))]) (S' := [.int (Int32.ofInt 5), .int (Int32.ofInt 1), .ref 13, .int (h2.1 23 6), .ref 27]) (h' := h12) zp_59 rfl ?_
        refine zQ_cvI (M' := 66) (as := [.ref 13, .int (Int32.ofInt 1), .int (Int32.ofInt 5)]) (S' := [.int (h2.1 23 6), .ref 27]) zp_59 rfl rfl zp_66 (Or.inl rfl) rfl rfl (zqm_imp r12 (fun rv h13 r13 => zri_imp r13 (fun v13 r13' => ?_)))
        refine zQ_ias (N := 4) zp_59 rfl rfl rfl (fun b14 b14' => ?_)
        refine zQ_seq 2 (pc' := 86) (L' := [some (.ref 13), some (.ref 23), some (.int v2), some (.int (h2.1 23 6))]) (S' := [.int (Int32.ofInt 59), .ref 13]) (h' := (zSet h13 27 (h2.1 23 6).toInt.toNat v13)) zp_59 rfl ?_
        refine zQ_cvV (M' := 64) (as := [.ref 13, .int (Int32.ofInt 59)]) (S' := []) zp_59 rfl rfl zp_64 rfl rfl rfl (zqm_imp (r13' b14 b14') (fun rv h15 r15 => ?_))
        refine zQ_seq 6 (pc' := 99) (L' := [some (.ref 13), some (.ref 23), some (.int v2), some (.int (h2.1 23 6))]) (S' := []) (h' := (zSet h15 23 6 ((h15.1 23 6) + (Int32.ofInt 1)))) zp_59 rfl ?_
        exact zQ_retV zp_59 rfl r15
      · refine zQ_seq 2 (pc' := 34) (L' := [some (.ref 13), some (.ref 23), some (.int v2), some (.int (h2.1 23 6))]) (S' := [.int (Int32.ofInt 3), .ref 13]) (h' := h2) zp_59 rfl ?_
        refine zQ_cvV (M' := 61) (as := [.ref 13, .int (Int32.ofInt 3)]) (S' := []) zp_59 rfl rfl zp_61 rfl rfl rfl (zqm_imp (((r2'.1 c3).2 c4).2 c6) (fun rv h16 r16 => ?_))
        exact zQ_retV zp_59 rfl r16
  · refine zQ_seq 2 (pc' := 19) (L' := [some (.ref 13), some (.ref 23), some (.int v2), some (.int (h2.1 23 6))]) (S' := [.int (Int32.ofInt 1), .ref 13]) (h' := h2) zp_59 rfl ?_
    refine zQ_cvV (M' := 61) (as := [.ref 13, .int (Int32.ofInt 1)]) (S' := []) zp_59 rfl rfl zp_61 rfl rfl rfl (zqm_imp (r2'.2 c3) (fun rv h17 r17 => ?_))
    exact zQ_retV zp_59 rfl r17
theorem s_60 {h : zH} {Q : Option Value → zH → Prop} (a0 : Int32) (H : ((a0.toInt = 107 → Q (some (.int (Int32.ofInt 4))) h) ∧ ((a0.toInt = 111 → Q (some (.int (Int32.ofInt 5))) h) ∧ ((a0.toInt = 112 → Q (some (.int (Int32.ofInt 1))) h) ∧ ((a0.toInt = 121 → Q (some (.int (Int32.ofInt 3))) h) ∧ ((a0.toInt = 122 → Q (some (.int (Int32.ofInt 2))) h) ∧ ((¬ a0.toInt = 107 ∧ ¬ a0.toInt = 111 ∧ ¬ a0.toInt = 112 ∧ ¬ a0.toInt = 121 ∧ ¬ a0.toInt = 122) → Q (some (.int (Int32.ofInt 0))) h))))))) : zqm 60 [.int a0] h Q := by
  refine zqm_of zp_60 (fun n => ?_)
  show zQ n 60 0 [some (.int a0)] [] h Q
  refine zQ_seq 1 (pc' := 1) (L' := [some (.int a0)]) (S' := [.int a0]) (h' := h) zp_60 rfl ?_
  refine zQ_lsw zp_60 rfl (fun t ht => ?_)
  rcases (by omega : a0.toInt = 107 ∨ a0.toInt = 111 ∨ a0.toInt = 112 ∨ a0.toInt = 121 ∨ a0.toInt = 122 ∨ (¬ a0.toInt = 107 ∧ ¬ a0.toInt = 111 ∧ ¬ a0.toInt = 112 ∧ ¬ a0.toInt = 121 ∧ ¬ a0.toInt = 122)) with c1 | c1 | c1 | c1 | c1 | c1
  · have e : (some 58 : Option Nat) = some t := by rw [c1] at ht; exact ht
    cases e
    refine zQ_seq 1 (pc' := 59) (L' := [some (.int a0)]) (S' := [.int (Int32.ofInt 4)]) (h' := h) zp_60 rfl ?_
    exact zQ_retI zp_60 rfl (H.1 c1)
  · have e : (some 60 : Option Nat) = some t := by rw [c1] at ht; exact ht
    cases e
    refine zQ_seq 1 (pc' := 61) (L' := [some (.int a0)]) (S' := [.int (Int32.ofInt 5)]) (h' := h) zp_60 rfl ?_
    exact zQ_retI zp_60 rfl (H.2.1 c1)
  · have e : (some 52 : Option Nat) = some t := by rw [c1] at ht; exact ht
    cases e
    refine zQ_seq 1 (pc' := 53) (L' := [some (.int a0)]) (S' := [.int (Int32.ofInt 1)]) (h' := h) zp_60 rfl ?_
    exact zQ_retI zp_60 rfl (H.2.2.1 c1)
  · have e : (some 56 : Option Nat) = some t := by rw [c1] at ht; exact ht
    cases e
    refine zQ_seq 1 (pc' := 57) (L' := [some (.int a0)]) (S' := [.int (Int32.ofInt 3)]) (h' := h) zp_60 rfl ?_
    exact zQ_retI zp_60 rfl (H.2.2.2.1 c1)
  · have e : (some 54 : Option Nat) = some t := by rw [c1] at ht; exact ht
    cases e
    refine zQ_seq 1 (pc' := 55) (L' := [some (.int a0)]) (S' := [.int (Int32.ofInt 2)]) (h' := h) zp_60 rfl ?_
    exact zQ_retI zp_60 rfl (H.2.2.2.2.1 c1)
  · have e : (some 62 : Option Nat) = some t := by rw [zLsw_d (by simpa using c1)] at ht; exact ht
    cases e
    refine zQ_seq 1 (pc' := 63) (L' := [some (.int a0)]) (S' := [.int (Int32.ofInt 0)]) (h' := h) zp_60 rfl ?_
    exact zQ_retI zp_60 rfl (H.2.2.2.2.2 c1)
theorem s_61 {h : zH} {Q : Option Value → zH → Prop} (a1 : Int32) (H : ((¬ (h.1 13 3).toInt = 0 → Q none h) ∧ (¬ (¬ (h.1 13 3).toInt = 0) → Q none (zSet h 13 3 a1)))) : zqm 61 [.ref 13, .int a1] h Q := by
  refine zqm_of zp_61 (fun n => ?_)
  show zQ n 61 0 [some (.ref 13), some (.int a1)] [] h Q
  refine zQ_seq 2 (pc' := 4) (L' := [some (.ref 13), some (.int a1)]) (S' := [.int (h.1 13 3)]) (h' := h) zp_61 rfl ?_
  refine zQ_if zp_61 rfl (t := 12) rfl (i := (h.1 13 3).toInt) rfl (fun c1 => ?_) (fun c1 => ?_)
  · exact zQ_retV zp_61 rfl (H.1 c1)
  · refine zQ_seq 3 (pc' := 12) (L' := [some (.ref 13), some (.int a1)]) (S' := []) (h' := (zSet h 13 3 a1)) zp_61 rfl ?_
    exact zQ_retV zp_61 rfl (H.2 c1)
theorem s_62 {h : zH} {Q : Option Value → zH → Prop} (H : zqm 63 [.ref 13, .int (h.1 13 2)] h (fun rv h1 => zri rv (fun v1 => Q (some (.int v1)) h1))) : zqm 62 [.ref 13] h Q := by
  refine zqm_of zp_62 (fun n => ?_)
  show zQ n 62 0 [some (.ref 13)] [] h Q
  refine zQ_seq 3 (pc' := 5) (L' := [some (.ref 13)]) (S' := [.int (h.1 13 2), .ref 13]) (h' := h) zp_62 rfl ?_
  refine zQ_cvI (M' := 63) (as := [.ref 13, .int (h.1 13 2)]) (S' := []) zp_62 rfl rfl zp_63 (Or.inl rfl) rfl rfl (zqm_imp H (fun rv h1 r1 => zri_imp r1 (fun v1 r1' => ?_)))
  exact zQ_retI zp_62 rfl r1'
theorem s_63 {h : zH} {Q : Option Value → zH → Prop} (a1 : Int32) (H : ((a1.toInt < 0 → Q (some (.int (-1000000 : Int32))) h) ∧ (¬ (a1.toInt < 0) → (((h.1 13 1).toInt ≤ a1.toInt → Q (some (.int (-1000000 : Int32))) h) ∧ (¬ ((h.1 13 1).toInt ≤ a1.toInt) → (((120 : Int) ≤ a1.toInt → Q (some (.int (-1000000 : Int32))) h) ∧ (¬ ((120 : Int) ≤ a1.toInt) → (0 ≤ a1.toInt → a1.toInt < 120 → Q (some (.int (h.1 14 a1.toInt.toNat))) h)))))))) : zqm 63 [.ref 13, .int a1] h Q := by
  refine zqm_of zp_63 (fun n => ?_)
  show zQ n 63 0 [some (.ref 13), some (.int a1)] [] h Q
  refine zQ_seq 1 (pc' := 1) (L' := [some (.ref 13), some (.int a1)]) (S' := [.int a1]) (h' := h) zp_63 rfl ?_
  refine zQ_if zp_63 rfl (t := 27) rfl (i := a1.toInt) rfl (fun c1 => ?_) (fun c1 => ?_)
  · refine zQ_seq 1 (pc' := 29) (L' := [some (.ref 13), some (.int a1)]) (S' := [.int (-1000000 : Int32)]) (h' := h) zp_63 rfl ?_
    exact zQ_retI zp_63 rfl (H.1 c1)
  · refine zQ_seq 3 (pc' := 9) (L' := [some (.ref 13), some (.int a1)]) (S' := [.int (h.1 13 1), .int a1]) (h' := h) zp_63 rfl ?_
    refine zQ_ic zp_63 rfl (t := 27) rfl (i := a1.toInt) (j := (h.1 13 1).toInt) rfl rfl (fun c2 => ?_) (fun c2 => ?_)
    · refine zQ_seq 1 (pc' := 29) (L' := [some (.ref 13), some (.int a1)]) (S' := [.int (-1000000 : Int32)]) (h' := h) zp_63 rfl ?_
      exact zQ_retI zp_63 rfl ((H.2 c1).1 c2)
    · refine zQ_seq 2 (pc' := 15) (L' := [some (.ref 13), some (.int a1)]) (S' := [.int (Int32.ofInt 120), .int a1]) (h' := h) zp_63 rfl ?_
      refine zQ_ic zp_63 rfl (t := 27) rfl (i := a1.toInt) (j := (120 : Int)) rfl kc_120 (fun c3 => ?_) (fun c3 => ?_)
      · refine zQ_seq 1 (pc' := 29) (L' := [some (.ref 13), some (.int a1)]) (S' := [.int (-1000000 : Int32)]) (h' := h) zp_63 rfl ?_
        exact zQ_retI zp_63 rfl (((H.2 c1).2 c2).1 c3)
      · refine zQ_seq 3 (pc' := 23) (L' := [some (.ref 13), some (.int a1)]) (S' := [.int a1, .ref 14]) (h' := h) zp_63 rfl ?_
        refine zQ_ial (N := 120) (f := h.1 14) zp_63 rfl rfl rfl (fun b4 b4' => ?_)
        refine zQ_goto zp_63 rfl (t := 29) rfl ?_
        exact zQ_retI zp_63 rfl ((((H.2 c1).2 c2).2 c3) b4 b4')
theorem s_64 {h : zH} {Q : Option Value → zH → Prop} (a1 : Int32) (H : zqm 65 [.ref 13, .int a1, .int a1] h (fun rv h1 => zri rv (fun v1 => Q none h1))) : zqm 64 [.ref 13, .int a1] h Q := by
  refine zqm_of zp_64 (fun n => ?_)
  show zQ n 64 0 [some (.ref 13), some (.int a1)] [] h Q
  refine zQ_seq 3 (pc' := 3) (L' := [some (.ref 13), some (.int a1)]) (S' := [.int a1, .int a1, .ref 13]) (h' := h) zp_64 rfl ?_
  refine zQ_cvI (M' := 65) (as := [.ref 13, .int a1, .int a1]) (S' := []) zp_64 rfl rfl zp_65 (Or.inl rfl) rfl rfl (zqm_imp H (fun rv h1 r1 => zri_imp r1 (fun v1 r1' => ?_)))
  refine zQ_seq 1 (pc' := 7) (L' := [some (.ref 13), some (.int a1)]) (S' := []) (h' := h1) zp_64 rfl ?_
  exact zQ_retV zp_64 rfl r1'
theorem s_65 {h : zH} {Q : Option Value → zH → Prop} (a1 : Int32) (a2 : Int32) (H : zqm 62 [.ref 13] h (fun rv h1 => zri rv (fun v1 => (((h1.1 13 3).toInt = 0 → ((v1.toInt < a1.toInt → zqm 61 [.ref 13, .int (Int32.ofInt 1)] h1 (fun _ h4 => Q (some (.int (Int32.ofInt 0))) h4)) ∧ (¬ (v1.toInt < a1.toInt) → ((v1.toInt ≤ a2.toInt → Q (some (.int (v1 - a1))) (zSet h1 13 2 ((h1.1 13 2) + (Int32.ofInt 1)))) ∧ (¬ (v1.toInt ≤ a2.toInt) → zqm 61 [.ref 13, .int (Int32.ofInt 1)] h1 (fun _ h6 => Q (some (.int (Int32.ofInt 0))) h6)))))) ∧ (¬ ((h1.1 13 3).toInt = 0) → Q (some (.int (Int32.ofInt 0))) h1))))) : zqm 65 [.ref 13, .int a1, .int a2] h Q := by
  refine zqm_of zp_65 (fun n => ?_)
  show zQ n 65 0 [some (.ref 13), some (.int a1), some (.int a2), none] [] h Q
  refine zQ_seq 1 (pc' := 1) (L' := [some (.ref 13), some (.int a1), some (.int a2), none]) (S' := [.ref 13]) (h' := h) zp_65 rfl ?_
  refine zQ_cvI (M' := 62) (as := [.ref 13]) (S' := []) zp_65 rfl rfl zp_62 (Or.inl rfl) rfl rfl (zqm_imp H (fun rv h1 r1 => zri_imp r1 (fun v1 r1' => ?_)))
  refine zQ_seq 3 (pc' := 9) (L' := [some (.ref 13), some (.int a1), some (.int a2), some (.int v1)]) (S' := [.int (h1.1 13 3)]) (h' := h1) zp_65 rfl ?_
  refine zQ_if zp_65 rfl (t := 14) rfl (i := (h1.1 13 3).toInt) rfl (fun c2 => ?_) (fun c2 => ?_)
  · refine zQ_seq 2 (pc' := 16) (L' := [some (.ref 13), some (.int a1), some (.int a2), some (.int v1)]) (S' := [.int a1, .int v1]) (h' := h1) zp_65 rfl ?_
    refine zQ_ic zp_65 rfl (t := 24) rfl (i := v1.toInt) (j := a1.toInt) rfl rfl (fun c3 => ?_) (fun c3 => ?_)
    · refine zQ_seq 2 (pc' := 26) (L' := [some (.ref 13), some (.int a1), some (.int a2), some (.int v1)]) (S' := [.int (Int32.ofInt 1), .ref 13]) (h' := h1) zp_65 rfl ?_
      refine zQ_cvV (M' := 61) (as := [.ref 13, .int (Int32.ofInt 1)]) (S' := []) zp_65 rfl rfl zp_61 rfl rfl rfl (zqm_imp ((r1'.1 c2).1 c3) (fun rv h4 r4 => ?_))
      refine zQ_seq 1 (pc' := 30) (L' := [some (.ref 13), some (.int a1), some (.int a2), some (.int v1)]) (S' := [.int (Int32.ofInt 0)]) (h' := h4) zp_65 rfl ?_
      exact zQ_retI zp_65 rfl r4
    · refine zQ_seq 2 (pc' := 21) (L' := [some (.ref 13), some (.int a1), some (.int a2), some (.int v1)]) (S' := [.int a2, .int v1]) (h' := h1) zp_65 rfl ?_
      refine zQ_ic zp_65 rfl (t := 31) rfl (i := v1.toInt) (j := a2.toInt) rfl rfl (fun c5 => ?_) (fun c5 => ?_)
      · refine zQ_seq 9 (pc' := 44) (L' := [some (.ref 13), some (.int a1), some (.int a2), some (.int v1)]) (S' := [.int (v1 - a1)]) (h' := (zSet h1 13 2 ((h1.1 13 2) + (Int32.ofInt 1)))) zp_65 rfl ?_
        exact zQ_retI zp_65 rfl (((r1'.1 c2).2 c3).1 c5)
      · refine zQ_seq 2 (pc' := 26) (L' := [some (.ref 13), some (.int a1), some (.int a2), some (.int v1)]) (S' := [.int (Int32.ofInt 1), .ref 13]) (h' := h1) zp_65 rfl ?_
        refine zQ_cvV (M' := 61) (as := [.ref 13, .int (Int32.ofInt 1)]) (S' := []) zp_65 rfl rfl zp_61 rfl rfl rfl (zqm_imp (((r1'.1 c2).2 c3).2 c5) (fun rv h6 r6 => ?_))
        refine zQ_seq 1 (pc' := 30) (L' := [some (.ref 13), some (.int a1), some (.int a2), some (.int v1)]) (S' := [.int (Int32.ofInt 0)]) (h' := h6) zp_65 rfl ?_
        exact zQ_retI zp_65 rfl r6
  · refine zQ_seq 1 (pc' := 13) (L' := [some (.ref 13), some (.int a1), some (.int a2), some (.int v1)]) (S' := [.int (Int32.ofInt 0)]) (h' := h1) zp_65 rfl ?_
    exact zQ_retI zp_65 rfl (r1'.2 c2)
theorem s_66 {h : zH} {Q : Option Value → zH → Prop} (a1 : Int32) (a2 : Int32) (H : (∀ n, (((h.1 13 3).toInt = 0 → zQ n 66 20 [some (.ref 13), some (.int a1), some (.int a2), some (.int (Int32.ofInt 0)), some (.int (Int32.ofInt 0)), some (.int (h.1 13 2))] [] h Q) ∧ (¬ ((h.1 13 3).toInt = 0) → Q (some (.int (Int32.ofInt 0))) h)))) : zqm 66 [.ref 13, .int a1, .int a2] h Q := by
  refine zqm_of zp_66 (fun n => ?_)
  have H := H n
  show zQ n 66 0 [some (.ref 13), some (.int a1), some (.int a2), none, none, none] [] h Q
  refine zQ_seq 2 (pc' := 4) (L' := [some (.ref 13), some (.int a1), some (.int a2), none, none, none]) (S' := [.int (h.1 13 3)]) (h' := h) zp_66 rfl ?_
  refine zQ_if zp_66 rfl (t := 9) rfl (i := (h.1 13 3).toInt) rfl (fun c1 => ?_) (fun c1 => ?_)
  · refine zQ_seq 7 (pc' := 20) (L' := [some (.ref 13), some (.int a1), some (.int a2), some (.int (Int32.ofInt 0)), some (.int (Int32.ofInt 0)), some (.int (h.1 13 2))]) (S' := []) (h' := h) zp_66 rfl ?_
    exact (H.1 c1)
  · refine zQ_seq 1 (pc' := 8) (L' := [some (.ref 13), some (.int a1), some (.int a2), none, none, none]) (S' := [.int (Int32.ofInt 0)]) (h' := h) zp_66 rfl ?_
    exact zQ_retI zp_66 rfl (H.2 c1)
theorem s_66_20 {n : Nat} {h : zH} {Q : Option Value → zH → Prop} (x1 : Int32) (x2 : Int32) (x3 : Int32) (x4 : Int32) (x5 : Int32) (H : (((h.1 13 1).toInt ≤ x5.toInt → ((x3.toInt = 0 → zqm 61 [.ref 13, .int (Int32.ofInt 1)] h (fun _ h3 => Q (some (.int (Int32.ofInt 0))) h3)) ∧ (¬ (x3.toInt = 0) → ((x3.toInt ≤ (2 : Int) → ((x4.toInt < x1.toInt → zqm 61 [.ref 13, .int (Int32.ofInt 2)] h (fun _ h6 => Q (some (.int (Int32.ofInt 0))) h6)) ∧ (¬ (x4.toInt < x1.toInt) → ((x4.toInt ≤ x2.toInt → Q (some (.int x4)) (zSet h 13 2 ((h.1 13 2) + x3))) ∧ (¬ (x4.toInt ≤ x2.toInt) → zqm 61 [.ref 13, .int (Int32.ofInt 2)] h (fun _ h8 => Q (some (.int (Int32.ofInt 0))) h8)))))) ∧ (¬ (x3.toInt ≤ (2 : Int)) → zqm 61 [.ref 13, .int (Int32.ofInt 1)] h (fun _ h9 => Q (some (.int (Int32.ofInt 0))) h9)))))) ∧ (¬ ((h.1 13 1).toInt ≤ x5.toInt) → zqm 63 [.ref 13, .int x5] h (fun rv h10 => zri rv (fun v10 => zqm 67 [.int v10] h10 (fun rv h11 => zri rv (fun v11 => ((v11.toInt = 0 → ((x3.toInt = 0 → zqm 61 [.ref 13, .int (Int32.ofInt 1)] h11 (fun _ h14 => Q (some (.int (Int32.ofInt 0))) h14)) ∧ (¬ (x3.toInt = 0) → ((x3.toInt ≤ (2 : Int) → ((x4.toInt < x1.toInt → zqm 61 [.ref 13, .int (Int32.ofInt 2)] h11 (fun _ h17 => Q (some (.int (Int32.ofInt 0))) h17)) ∧ (¬ (x4.toInt < x1.toInt) → ((x4.toInt ≤ x2.toInt → Q (some (.int x4)) (zSet h11 13 2 ((h11.1 13 2) + x3))) ∧ (¬ (x4.toInt ≤ x2.toInt) → zqm 61 [.ref 13, .int (Int32.ofInt 2)] h11 (fun _ h19 => Q (some (.int (Int32.ofInt 0))) h19)))))) ∧ (¬ (x3.toInt ≤ (2 : Int)) → zqm 61 [.ref 13, .int (Int32.ofInt 1)] h11 (fun _ h20 => Q (some (.int (Int32.ofInt 0))) h20)))))) ∧ (¬ (v11.toInt = 0) → (((2 : Int) ≤ x3.toInt → zQ n 66 20 [some (.ref 13), some (.int x1), some (.int x2), some (.int (x3 + Int32.ofInt 1)), some (.int x4), some (.int (x5 + Int32.ofInt 1))] [] h11 Q) ∧ (¬ ((2 : Int) ≤ x3.toInt) → zqm 63 [.ref 13, .int x5] h11 (fun rv h22 => zri rv (fun v22 => zQ n 66 20 [some (.ref 13), some (.int x1), some (.int x2), some (.int (x3 + Int32.ofInt 1)), some (.int ((((Int32.ofInt 10) * x4) + v22) - (Int32.ofInt 48))), some (.int (x5 + Int32.ofInt 1))] [] h22 Q))))))))))))) : zQ (n + 1) 66 20 [some (.ref 13), some (.int x1), some (.int x2), some (.int x3), some (.int x4), some (.int x5)] [] h Q := by
  refine zQ_seqL 2 (pc' := 26) (L' := [some (.ref 13), some (.int x1), some (.int x2), some (.int x3), some (.int x4), some (.int x5)]) (S' := [.int (h.1 13 1), .int x5]) (h' := h) zp_66 rfl ?_
  refine zQ_ic zp_66 rfl (t := 77) rfl (i := x5.toInt) (j := (h.1 13 1).toInt) rfl rfl (fun c1 => ?_) (fun c1 => ?_)
  · refine zQ_seq 1 (pc' := 78) (L' := [some (.ref 13), some (.int x1), some (.int x2), some (.int x3), some (.int x4), some (.int x5)]) (S' := [.int x3]) (h' := h) zp_66 rfl ?_
    refine zQ_if zp_66 rfl (t := 86) rfl (i := x3.toInt) rfl (fun c2 => ?_) (fun c2 => ?_)
    · refine zQ_seq 2 (pc' := 88) (L' := [some (.ref 13), some (.int x1), some (.int x2), some (.int x3), some (.int x4), some (.int x5)]) (S' := [.int (Int32.ofInt 1), .ref 13]) (h' := h) zp_66 rfl ?_
      refine zQ_cvV (M' := 61) (as := [.ref 13, .int (Int32.ofInt 1)]) (S' := []) zp_66 rfl rfl zp_61 rfl rfl rfl (zqm_imp ((H.1 c1).1 c2) (fun rv h3 r3 => ?_))
      refine zQ_seq 1 (pc' := 92) (L' := [some (.ref 13), some (.int x1), some (.int x2), some (.int x3), some (.int x4), some (.int x5)]) (S' := [.int (Int32.ofInt 0)]) (h' := h3) zp_66 rfl ?_
      exact zQ_retI zp_66 rfl r3
    · refine zQ_seq 2 (pc' := 83) (L' := [some (.ref 13), some (.int x1), some (.int x2), some (.int x3), some (.int x4), some (.int x5)]) (S' := [.int (Int32.ofInt 2), .int x3]) (h' := h) zp_66 rfl ?_
      refine zQ_ic zp_66 rfl (t := 93) rfl (i := x3.toInt) (j := (2 : Int)) rfl kc_2 (fun c4 => ?_) (fun c4 => ?_)
      · refine zQ_seq 2 (pc' := 96) (L' := [some (.ref 13), some (.int x1), some (.int x2), some (.int x3), some (.int x4), some (.int x5)]) (S' := [.int x1, .int x4]) (h' := h) zp_66 rfl ?_
        refine zQ_ic zp_66 rfl (t := 105) rfl (i := x4.toInt) (j := x1.toInt) rfl rfl (fun c5 => ?_) (fun c5 => ?_)
        · refine zQ_seq 2 (pc' := 107) (L' := [some (.ref 13), some (.int x1), some (.int x2), some (.int x3), some (.int x4), some (.int x5)]) (S' := [.int (Int32.ofInt 2), .ref 13]) (h' := h) zp_66 rfl ?_
          refine zQ_cvV (M' := 61) (as := [.ref 13, .int (Int32.ofInt 2)]) (S' := []) zp_66 rfl rfl zp_61 rfl rfl rfl (zqm_imp ((((H.1 c1).2 c2).1 c4).1 c5) (fun rv h6 r6 => ?_))
          refine zQ_seq 1 (pc' := 111) (L' := [some (.ref 13), some (.int x1), some (.int x2), some (.int x3), some (.int x4), some (.int x5)]) (S' := [.int (Int32.ofInt 0)]) (h' := h6) zp_66 rfl ?_
          exact zQ_retI zp_66 rfl r6
        · refine zQ_seq 2 (pc' := 102) (L' := [some (.ref 13), some (.int x1), some (.int x2), some (.int x3), some (.int x4), some (.int x5)]) (S' := [.int x2, .int x4]) (h' := h) zp_66 rfl ?_
          refine zQ_ic zp_66 rfl (t := 112) rfl (i := x4.toInt) (j := x2.toInt) rfl rfl (fun c7 => ?_) (fun c7 => ?_)
          · refine zQ_seq 7 (pc' := 124) (L' := [some (.ref 13), some (.int x1), some (.int x2), some (.int x3), some (.int x4), some (.int x5)]) (S' := [.int x4]) (h' := (zSet h 13 2 ((h.1 13 2) + x3))) zp_66 rfl ?_
            exact zQ_retI zp_66 rfl (((((H.1 c1).2 c2).1 c4).2 c5).1 c7)
          · refine zQ_seq 2 (pc' := 107) (L' := [some (.ref 13), some (.int x1), some (.int x2), some (.int x3), some (.int x4), some (.int x5)]) (S' := [.int (Int32.ofInt 2), .ref 13]) (h' := h) zp_66 rfl ?_
            refine zQ_cvV (M' := 61) (as := [.ref 13, .int (Int32.ofInt 2)]) (S' := []) zp_66 rfl rfl zp_61 rfl rfl rfl (zqm_imp (((((H.1 c1).2 c2).1 c4).2 c5).2 c7) (fun rv h8 r8 => ?_))
            refine zQ_seq 1 (pc' := 111) (L' := [some (.ref 13), some (.int x1), some (.int x2), some (.int x3), some (.int x4), some (.int x5)]) (S' := [.int (Int32.ofInt 0)]) (h' := h8) zp_66 rfl ?_
            exact zQ_retI zp_66 rfl r8
      · refine zQ_seq 2 (pc' := 88) (L' := [some (.ref 13), some (.int x1), some (.int x2), some (.int x3), some (.int x4), some (.int x5)]) (S' := [.int (Int32.ofInt 1), .ref 13]) (h' := h) zp_66 rfl ?_
        refine zQ_cvV (M' := 61) (as := [.ref 13, .int (Int32.ofInt 1)]) (S' := []) zp_66 rfl rfl zp_61 rfl rfl rfl (zqm_imp (((H.1 c1).2 c2).2 c4) (fun rv h9 r9 => ?_))
        refine zQ_seq 1 (pc' := 92) (L' := [some (.ref 13), some (.int x1), some (.int x2), some (.int x3), some (.int x4), some (.int x5)]) (S' := [.int (Int32.ofInt 0)]) (h' := h9) zp_66 rfl ?_
        exact zQ_retI zp_66 rfl r9
  · refine zQ_seq 2 (pc' := 32) (L' := [some (.ref 13), some (.int x1), some (.int x2), some (.int x3), some (.int x4), some (.int x5)]) (S' := [.int x5, .ref 13]) (h' := h) zp_66 rfl ?_
    refine zQ_cvI (M' := 63) (as := [.ref 13, .int x5]) (S' := []) zp_66 rfl rfl zp_63 (Or.inl rfl) rfl rfl (zqm_imp (H.2 c1) (fun rv h10 r10 => zri_imp r10 (fun v10 r10' => ?_)))
    refine zQ_csI (M' := 67) (as := [.int v10]) (S' := []) zp_66 rfl rfl rfl zp_67 (Or.inr rfl) rfl rfl (zqm_imp r10' (fun rv h11 r11 => zri_imp r11 (fun v11 r11' => ?_)))
    refine zQ_if zp_66 rfl (t := 77) rfl (i := v11.toInt) rfl (fun c12 => ?_) (fun c12 => ?_)
    · refine zQ_seq 1 (pc' := 78) (L' := [some (.ref 13), some (.int x1), some (.int x2), some (.int x3), some (.int x4), some (.int x5)]) (S' := [.int x3]) (h' := h11) zp_66 rfl ?_
      refine zQ_if zp_66 rfl (t := 86) rfl (i := x3.toInt) rfl (fun c13 => ?_) (fun c13 => ?_)
      · refine zQ_seq 2 (pc' := 88) (L' := [some (.ref 13), some (.int x1), some (.int x2), some (.int x3), some (.int x4), some (.int x5)]) (S' := [.int (Int32.ofInt 1), .ref 13]) (h' := h11) zp_66 rfl ?_
        refine zQ_cvV (M' := 61) (as := [.ref 13, .int (Int32.ofInt 1)]) (S' := []) zp_66 rfl rfl zp_61 rfl rfl rfl (zqm_imp ((r11'.1 c12).1 c13) (fun rv h14 r14 => ?_))
        refine zQ_seq 1 (pc' := 92) (L' := [some (.ref 13), some (.int x1), some (.int x2), some (.int x3), some (.int x4), some (.int x5)]) (S' := [.int (Int32.ofInt 0)]) (h' := h14) zp_66 rfl ?_
        exact zQ_retI zp_66 rfl r14
      · refine zQ_seq 2 (pc' := 83) (L' := [some (.ref 13), some (.int x1), some (.int x2), some (.int x3), some (.int x4), some (.int x5)]) (S' := [.int (Int32.ofInt 2), .int x3]) (h' := h11) zp_66 rfl ?_
        refine zQ_ic zp_66 rfl (t := 93) rfl (i := x3.toInt) (j := (2 : Int)) rfl kc_2 (fun c15 => ?_) (fun c15 => ?_)
        · refine zQ_seq 2 (pc' := 96) (L' := [some (.ref 13), some (.int x1), some (.int x2), some (.int x3), some (.int x4), some (.int x5)]) (S' := [.int x1, .int x4]) (h' := h11) zp_66 rfl ?_
          refine zQ_ic zp_66 rfl (t := 105) rfl (i := x4.toInt) (j := x1.toInt) rfl rfl (fun c16 => ?_) (fun c16 => ?_)
          · refine zQ_seq 2 (pc' := 107) (L' := [some (.ref 13), some (.int x1), some (.int x2), some (.int x3), some (.int x4), some (.int x5)]) (S' := [.int (Int32.ofInt 2), .ref 13]) (h' := h11) zp_66 rfl ?_
            refine zQ_cvV (M' := 61) (as := [.ref 13, .int (Int32.ofInt 2)]) (S' := []) zp_66 rfl rfl zp_61 rfl rfl rfl (zqm_imp ((((r11'.1 c12).2 c13).1 c15).1 c16) (fun rv h17 r17 => ?_))
            refine zQ_seq 1 (pc' := 111) (L' := [some (.ref 13), some (.int x1), some (.int x2), some (.int x3), some (.int x4), some (.int x5)]) (S' := [.int (Int32.ofInt 0)]) (h' := h17) zp_66 rfl ?_
            exact zQ_retI zp_66 rfl r17
          · refine zQ_seq 2 (pc' := 102) (L' := [some (.ref 13), some (.int x1), some (.int x2), some (.int x3), some (.int x4), some (.int x5)]) (S' := [.int x2, .int x4]) (h' := h11) zp_66 rfl ?_
            refine zQ_ic zp_66 rfl (t := 112) rfl (i := x4.toInt) (j := x2.toInt) rfl rfl (fun c18 => ?_) (fun c18 => ?_)
            · refine zQ_seq 7 (pc' := 124) (L' := [some (.ref 13), some (.int x1), some (.int x2), some (.int x3), some (.int x4), some (.int x5)]) (S' := [.int x4]) (h' := (zSet h11 13 2 ((h11.1 13 2) + x3))) zp_66 rfl ?_
              exact zQ_retI zp_66 rfl (((((r11'.1 c12).2 c13).1 c15).2 c16).1 c18)
            · refine zQ_seq 2 (pc' := 107) (L' := [some (.ref 13), some (.int x1), some (.int x2), some (.int x3), some (.int x4), some (.int x5)]) (S' := [.int (Int32.ofInt 2), .ref 13]) (h' := h11) zp_66 rfl ?_
              refine zQ_cvV (M' := 61) (as := [.ref 13, .int (Int32.ofInt 2)]) (S' := []) zp_66 rfl rfl zp_61 rfl rfl rfl (zqm_imp (((((r11'.1 c12).2 c13).1 c15).2 c16).2 c18) (fun rv h19 r19 => ?_))
              refine zQ_seq 1 (pc' := 111) (L' := [some (.ref 13), some (.int x1), some (.int x2), some (.int x3), some (.int x4), some (.int x5)]) (S' := [.int (Int32.ofInt 0)]) (h' := h19) zp_66 rfl ?_
              exact zQ_retI zp_66 rfl r19
        · refine zQ_seq 2 (pc' := 88) (L' := [some (.ref 13), some (.int x1), some (.int x2), some (.int x3), some (.int x4), some (.int x5)]) (S' := [.int (Int32.ofInt 1), .ref 13]) (h' := h11) zp_66 rfl ?_
          refine zQ_cvV (M' := 61) (as := [.ref 13, .int (Int32.ofInt 1)]) (S' := []) zp_66 rfl rfl zp_61 rfl rfl rfl (zqm_imp (((r11'.1 c12).2 c13).2 c15) (fun rv h20 r20 => ?_))
          refine zQ_seq 1 (pc' := 92) (L' := [some (.ref 13), some (.int x1), some (.int x2), some (.int x3), some (.int x4), some (.int x5)]) (S' := [.int (Int32.ofInt 0)]) (h' := h20) zp_66 rfl ?_
          exact zQ_retI zp_66 rfl r20
    · refine zQ_seq 2 (pc' := 43) (L' := [some (.ref 13), some (.int x1), some (.int x2), some (.int x3), some (.int x4), some (.int x5)]) (S' := [.int (Int32.ofInt 2), .int x3]) (h' := h11) zp_66 rfl ?_
      refine zQ_ic zp_66 rfl (t := 64) rfl (i := x3.toInt) (j := (2 : Int)) rfl kc_2 (fun c21 => ?_) (fun c21 => ?_)
      · refine zQ_seq 4 (pc' := 74) (L' := [some (.ref 13), some (.int x1), some (.int x2), some (.int (x3 + Int32.ofInt 1)), some (.int x4), some (.int (x5 + Int32.ofInt 1))]) (S' := []) (h' := h11) zp_66 rfl ?_
        refine zQ_goto zp_66 rfl (t := 20) rfl ?_
        exact ((r11'.2 c12).1 c21)
      · refine zQ_seq 5 (pc' := 54) (L' := [some (.ref 13), some (.int x1), some (.int x2), some (.int x3), some (.int x4), some (.int x5)]) (S' := [.int x5, .ref 13, .int ((Int32.ofInt 10) * x4)]) (h' := h11) zp_66 rfl ?_
        refine zQ_cvI (M' := 63) (as := [.ref 13, .int x5]) (S' := [.int ((Int32.ofInt 10) * x4)]) zp_66 rfl rfl zp_63 (Or.inl rfl) rfl rfl (zqm_imp ((r11'.2 c12).2 c21) (fun rv h22 r22 => zri_imp r22 (fun v22 r22' => ?_)))
        refine zQ_seq 3 (pc' := 61) (L' := [some (.ref 13), some (.int x1), some (.int x2), some (.int x3), some (.int x4), some (.int x5)]) (S' := [.int ((((Int32.ofInt 10) * x4) + v22) - (Int32.ofInt 48))]) (h' := h22) zp_66 rfl ?_
        refine zQ_goto zp_66 rfl (t := 66) rfl ?_
        refine zQ_seq 3 (pc' := 74) (L' := [some (.ref 13), some (.int x1), some (.int x2), some (.int (x3 + Int32.ofInt 1)), some (.int ((((Int32.ofInt 10) * x4) + v22) - (Int32.ofInt 48))), some (.int (x5 + Int32.ofInt 1))]) (S' := []) (h' := h22) zp_66 rfl ?_
        refine zQ_goto zp_66 rfl (t := 20) rfl ?_
        exact r22'
theorem s_67 {h : zH} {Q : Option Value → zH → Prop} (a0 : Int32) (H : ((a0.toInt < (48 : Int) → Q (some (.int (Int32.ofInt 0))) h) ∧ (¬ (a0.toInt < (48 : Int)) → (((57 : Int) < a0.toInt → Q (some (.int (Int32.ofInt 0))) h) ∧ (¬ ((57 : Int) < a0.toInt) → Q (some (.int (Int32.ofInt 1))) h))))) : zqm 67 [.int a0] h Q := by
  refine zqm_of zp_67 (fun n => ?_)
  show zQ n 67 0 [some (.int a0)] [] h Q
  refine zQ_seq 2 (pc' := 3) (L' := [some (.int a0)]) (S' := [.int (Int32.ofInt 48), .int a0]) (h' := h) zp_67 rfl ?_
  refine zQ_ic zp_67 rfl (t := 16) rfl (i := a0.toInt) (j := (48 : Int)) rfl kc_48 (fun c1 => ?_) (fun c1 => ?_)
  · refine zQ_seq 1 (pc' := 17) (L' := [some (.int a0)]) (S' := [.int (Int32.ofInt 0)]) (h' := h) zp_67 rfl ?_
    exact zQ_retI zp_67 rfl (H.1 c1)
  · refine zQ_seq 2 (pc' := 9) (L' := [some (.int a0)]) (S' := [.int (Int32.ofInt 57), .int a0]) (h' := h) zp_67 rfl ?_
    refine zQ_ic zp_67 rfl (t := 16) rfl (i := a0.toInt) (j := (57 : Int)) rfl kc_57 (fun c2 => ?_) (fun c2 => ?_)
    · refine zQ_seq 1 (pc' := 17) (L' := [some (.int a0)]) (S' := [.int (Int32.ofInt 0)]) (h' := h) zp_67 rfl ?_
      exact zQ_retI zp_67 rfl ((H.2 c1).1 c2)
    · refine zQ_seq 1 (pc' := 13) (L' := [some (.int a0)]) (S' := [.int (Int32.ofInt 1)]) (h' := h) zp_67 rfl ?_
      refine zQ_goto zp_67 rfl (t := 17) rfl ?_
      exact zQ_retI zp_67 rfl ((H.2 c1).2 c2)
theorem s_68 {h : zH} {Q : Option Value → zH → Prop} (a0 : Int32) (H : ((a0.toInt < 0 → Q (some (.int (Int32.ofInt 0))) h) ∧ (¬ (a0.toInt < 0) → (((8 : Int) ≤ a0.toInt → Q (some (.int (Int32.ofInt 0))) h) ∧ (¬ ((8 : Int) ≤ a0.toInt) → Q (some (.int (Int32.ofInt 1))) h))))) : zqm 68 [.int a0] h Q := by
  refine zqm_of zp_68 (fun n => ?_)
  show zQ n 68 0 [some (.int a0)] [] h Q
  refine zQ_seq 1 (pc' := 1) (L' := [some (.int a0)]) (S' := [.int a0]) (h' := h) zp_68 rfl ?_
  refine zQ_if zp_68 rfl (t := 14) rfl (i := a0.toInt) rfl (fun c1 => ?_) (fun c1 => ?_)
  · refine zQ_seq 1 (pc' := 15) (L' := [some (.int a0)]) (S' := [.int (Int32.ofInt 0)]) (h' := h) zp_68 rfl ?_
    exact zQ_retI zp_68 rfl (H.1 c1)
  · refine zQ_seq 2 (pc' := 7) (L' := [some (.int a0)]) (S' := [.int (Int32.ofInt 8), .int a0]) (h' := h) zp_68 rfl ?_
    refine zQ_ic zp_68 rfl (t := 14) rfl (i := a0.toInt) (j := (8 : Int)) rfl kc_8 (fun c2 => ?_) (fun c2 => ?_)
    · refine zQ_seq 1 (pc' := 15) (L' := [some (.int a0)]) (S' := [.int (Int32.ofInt 0)]) (h' := h) zp_68 rfl ?_
      exact zQ_retI zp_68 rfl ((H.2 c1).1 c2)
    · refine zQ_seq 1 (pc' := 11) (L' := [some (.int a0)]) (S' := [.int (Int32.ofInt 1)]) (h' := h) zp_68 rfl ?_
      refine zQ_goto zp_68 rfl (t := 15) rfl ?_
      exact zQ_retI zp_68 rfl ((H.2 c1).2 c2)
theorem s_69 {h : zH} {Q : Option Value → zH → Prop} (a0 : Int32) (H : ((a0.toInt < 0 → Q (some (.int (Int32.ofInt 0))) h) ∧ (¬ (a0.toInt < 0) → (((3 : Int) ≤ a0.toInt → Q (some (.int (Int32.ofInt 0))) h) ∧ (¬ ((3 : Int) ≤ a0.toInt) → Q (some (.int (Int32.ofInt 1))) h))))) : zqm 69 [.int a0] h Q := by
  refine zqm_of zp_69 (fun n => ?_)
  show zQ n 69 0 [some (.int a0)] [] h Q
  refine zQ_seq 1 (pc' := 1) (L' := [some (.int a0)]) (S' := [.int a0]) (h' := h) zp_69 rfl ?_
  refine zQ_if zp_69 rfl (t := 13) rfl (i := a0.toInt) rfl (fun c1 => ?_) (fun c1 => ?_)
  · refine zQ_seq 1 (pc' := 14) (L' := [some (.int a0)]) (S' := [.int (Int32.ofInt 0)]) (h' := h) zp_69 rfl ?_
    exact zQ_retI zp_69 rfl (H.1 c1)
  · refine zQ_seq 2 (pc' := 6) (L' := [some (.int a0)]) (S' := [.int (Int32.ofInt 3), .int a0]) (h' := h) zp_69 rfl ?_
    refine zQ_ic zp_69 rfl (t := 13) rfl (i := a0.toInt) (j := (3 : Int)) rfl kc_3 (fun c2 => ?_) (fun c2 => ?_)
    · refine zQ_seq 1 (pc' := 14) (L' := [some (.int a0)]) (S' := [.int (Int32.ofInt 0)]) (h' := h) zp_69 rfl ?_
      exact zQ_retI zp_69 rfl ((H.2 c1).1 c2)
    · refine zQ_seq 1 (pc' := 10) (L' := [some (.int a0)]) (S' := [.int (Int32.ofInt 1)]) (h' := h) zp_69 rfl ?_
      refine zQ_goto zp_69 rfl (t := 14) rfl ?_
      exact zQ_retI zp_69 rfl ((H.2 c1).2 c2)
theorem s_70 {h : zH} {Q : Option Value → zH → Prop} (a1 : Int32) (H : zqm 68 [.int a1] h (fun rv h1 => zri rv (fun v1 => ((v1.toInt = 0 → Q (some (.int (Int32.ofInt 1))) h1) ∧ (¬ (v1.toInt = 0) → (0 ≤ a1.toInt → a1.toInt < 8 → ((0 ≤ (h1.1 12 a1.toInt.toNat).toInt → Q (some (.int (Int32.ofInt 0))) h1) ∧ (¬ (0 ≤ (h1.1 12 a1.toInt.toNat).toInt) → Q (some (.int (Int32.ofInt 1))) h1)))))))) : zqm 70 [.ref 1, .int a1] h Q := by
  refine zqm_of zp_70 (fun n => ?_)
  show zQ n 70 0 [some (.ref 1), some (.int a1)] [] h Q
  refine zQ_seq 1 (pc' := 1) (L' := [some (.ref 1), some (.int a1)]) (S' := [.int a1]) (h' := h) zp_70 rfl ?_
  refine zQ_csI (M' := 68) (as := [.int a1]) (S' := []) zp_70 rfl rfl rfl zp_68 (Or.inr rfl) rfl rfl (zqm_imp H (fun rv h1 r1 => zri_imp r1 (fun v1 r1' => ?_)))
  refine zQ_if zp_70 rfl (t := 16) rfl (i := v1.toInt) rfl (fun c2 => ?_) (fun c2 => ?_)
  · refine zQ_seq 1 (pc' := 17) (L' := [some (.ref 1), some (.int a1)]) (S' := [.int (Int32.ofInt 1)]) (h' := h1) zp_70 rfl ?_
    refine zQ_goto zp_70 rfl (t := 21) rfl ?_
    exact zQ_retI zp_70 rfl (r1'.1 c2)
  · refine zQ_seq 3 (pc' := 12) (L' := [some (.ref 1), some (.int a1)]) (S' := [.int a1, .ref 12]) (h' := h1) zp_70 rfl ?_
    refine zQ_ial (N := 8) (f := h1.1 12) zp_70 rfl rfl rfl (fun b3 b3' => ?_)
    refine zQ_if zp_70 rfl (t := 20) rfl (i := (h1.1 12 a1.toInt.toNat).toInt) rfl (fun c4 => ?_) (fun c4 => ?_)
    · refine zQ_seq 1 (pc' := 21) (L' := [some (.ref 1), some (.int a1)]) (S' := [.int (Int32.ofInt 0)]) (h' := h1) zp_70 rfl ?_
      exact zQ_retI zp_70 rfl (((r1'.2 c2) b3 b3').1 c4)
    · refine zQ_seq 1 (pc' := 17) (L' := [some (.ref 1), some (.int a1)]) (S' := [.int (Int32.ofInt 1)]) (h' := h1) zp_70 rfl ?_
      refine zQ_goto zp_70 rfl (t := 21) rfl ?_
      exact zQ_retI zp_70 rfl (((r1'.2 c2) b3 b3').2 c4)
theorem s_71 {h : zH} {Q : Option Value → zH → Prop} (a1 : Int32) (a2 : Int32) (a3 : Int32) (H : zqm 68 [.int a1] h (fun rv h1 => zri rv (fun v1 => ((v1.toInt = 0 → Q (some (.int (Int32.ofInt 0))) h1) ∧ (¬ (v1.toInt = 0) → ((a2.toInt < 0 → Q (some (.int (Int32.ofInt 0))) h1) ∧ (¬ (a2.toInt < 0) → ((a3.toInt < 0 → Q (some (.int (Int32.ofInt 0))) h1) ∧ (¬ (a3.toInt < 0) → (0 ≤ a1.toInt → a1.toInt < 8 → (((h1.1 12 a1.toInt.toNat).toInt < a2.toInt → Q (some (.int (Int32.ofInt 0))) h1) ∧ (¬ ((h1.1 12 a1.toInt.toNat).toInt < a2.toInt) → (0 ≤ a1.toInt → a1.toInt < 8 → ((((h1.1 12 a1.toInt.toNat) - a2).toInt < a3.toInt → Q (some (.int (Int32.ofInt 0))) h1) ∧ (¬ (((h1.1 12 a1.toInt.toNat) - a2).toInt < a3.toInt) → Q (some (.int (Int32.ofInt 1))) h1))))))))))))))) : zqm 71 [.ref 1, .int a1, .int a2, .int a3] h Q := by
  refine zqm_of zp_71 (fun n => ?_)
  show zQ n 71 0 [some (.ref 1), some (.int a1), some (.int a2), some (.int a3)] [] h Q
  refine zQ_seq 1 (pc' := 1) (L' := [some (.ref 1), some (.int a1), some (.int a2), some (.int a3)]) (S' := [.int a1]) (h' := h) zp_71 rfl ?_
  refine zQ_csI (M' := 68) (as := [.int a1]) (S' := []) zp_71 rfl rfl rfl zp_68 (Or.inr rfl) rfl rfl (zqm_imp H (fun rv h1 r1 => zri_imp r1 (fun v1 r1' => ?_)))
  refine zQ_if zp_71 rfl (t := 41) rfl (i := v1.toInt) rfl (fun c2 => ?_) (fun c2 => ?_)
  · refine zQ_seq 1 (pc' := 42) (L' := [some (.ref 1), some (.int a1), some (.int a2), some (.int a3)]) (S' := [.int (Int32.ofInt 0)]) (h' := h1) zp_71 rfl ?_
    exact zQ_retI zp_71 rfl (r1'.1 c2)
  · refine zQ_seq 1 (pc' := 8) (L' := [some (.ref 1), some (.int a1), some (.int a2), some (.int a3)]) (S' := [.int a2]) (h' := h1) zp_71 rfl ?_
    refine zQ_if zp_71 rfl (t := 41) rfl (i := a2.toInt) rfl (fun c3 => ?_) (fun c3 => ?_)
    · refine zQ_seq 1 (pc' := 42) (L' := [some (.ref 1), some (.int a1), some (.int a2), some (.int a3)]) (S' := [.int (Int32.ofInt 0)]) (h' := h1) zp_71 rfl ?_
      exact zQ_retI zp_71 rfl ((r1'.2 c2).1 c3)
    · refine zQ_seq 1 (pc' := 12) (L' := [some (.ref 1), some (.int a1), some (.int a2), some (.int a3)]) (S' := [.int a3]) (h' := h1) zp_71 rfl ?_
      refine zQ_if zp_71 rfl (t := 41) rfl (i := a3.toInt) rfl (fun c4 => ?_) (fun c4 => ?_)
      · refine zQ_seq 1 (pc' := 42) (L' := [some (.ref 1), some (.int a1), some (.int a2), some (.int a3)]) (S' := [.int (Int32.ofInt 0)]) (h' := h1) zp_71 rfl ?_
        exact zQ_retI zp_71 rfl (((r1'.2 c2).2 c3).1 c4)
      · refine zQ_seq 4 (pc' := 21) (L' := [some (.ref 1), some (.int a1), some (.int a2), some (.int a3)]) (S' := [.int a1, .ref 12, .int a2]) (h' := h1) zp_71 rfl ?_
        refine zQ_ial (N := 8) (f := h1.1 12) zp_71 rfl rfl rfl (fun b5 b5' => ?_)
        refine zQ_ic zp_71 rfl (t := 41) rfl (i := a2.toInt) (j := (h1.1 12 a1.toInt.toNat).toInt) rfl rfl (fun c6 => ?_) (fun c6 => ?_)
        · refine zQ_seq 1 (pc' := 42) (L' := [some (.ref 1), some (.int a1), some (.int a2), some (.int a3)]) (S' := [.int (Int32.ofInt 0)]) (h' := h1) zp_71 rfl ?_
          exact zQ_retI zp_71 rfl (((((r1'.2 c2).2 c3).2 c4) b5 b5').1 c6)
        · refine zQ_seq 4 (pc' := 31) (L' := [some (.ref 1), some (.int a1), some (.int a2), some (.int a3)]) (S' := [.int a1, .ref 12, .int a3]) (h' := h1) zp_71 rfl ?_
          refine zQ_ial (N := 8) (f := h1.1 12) zp_71 rfl rfl rfl (fun b7 b7' => ?_)
          refine zQ_seq 2 (pc' := 34) (L' := [some (.ref 1), some (.int a1), some (.int a2), some (.int a3)]) (S' := [.int ((h1.1 12 a1.toInt.toNat) - a2), .int a3]) (h' := h1) zp_71 rfl ?_
          refine zQ_ic zp_71 rfl (t := 41) rfl (i := a3.toInt) (j := ((h1.1 12 a1.toInt.toNat) - a2).toInt) rfl rfl (fun c8 => ?_) (fun c8 => ?_)
          · refine zQ_seq 1 (pc' := 42) (L' := [some (.ref 1), some (.int a1), some (.int a2), some (.int a3)]) (S' := [.int (Int32.ofInt 0)]) (h' := h1) zp_71 rfl ?_
            exact zQ_retI zp_71 rfl (((((((r1'.2 c2).2 c3).2 c4) b5 b5').2 c6) b7 b7').1 c8)
          · refine zQ_seq 1 (pc' := 38) (L' := [some (.ref 1), some (.int a1), some (.int a2), some (.int a3)]) (S' := [.int (Int32.ofInt 1)]) (h' := h1) zp_71 rfl ?_
            refine zQ_goto zp_71 rfl (t := 42) rfl ?_
            exact zQ_retI zp_71 rfl (((((((r1'.2 c2).2 c3).2 c4) b5 b5').2 c6) b7 b7').2 c8)
theorem s_72 {h : zH} {Q : Option Value → zH → Prop} (a1 : Int32) (a2 : Int32) (H : zqm 68 [.int a1] h (fun rv h1 => zri rv (fun v1 => ((v1.toInt = 0 → Q (some (.int (Int32.ofInt 0))) h1) ∧ (¬ (v1.toInt = 0) → zqm 68 [.int a2] h1 (fun rv h3 => zri rv (fun v3 => ((v3.toInt = 0 → Q (some (.int (Int32.ofInt 0))) h3) ∧ (¬ (v3.toInt = 0) → (0 ≤ a1.toInt → a1.toInt < 8 → (0 ≤ a2.toInt → a2.toInt < 8 → ((¬ (h3.1 11 a1.toInt.toNat).toInt = (h3.1 11 a2.toInt.toNat).toInt → Q (some (.int (Int32.ofInt 0))) h3) ∧ (¬ (¬ (h3.1 11 a1.toInt.toNat).toInt = (h3.1 11 a2.toInt.toNat).toInt) → Q (some (.int (Int32.ofInt 1))) h3))))))))))))) : zqm 72 [.ref 1, .int a1, .int a2] h Q := by
  refine zqm_of zp_72 (fun n => ?_)
  show zQ n 72 0 [some (.ref 1), some (.int a1), some (.int a2)] [] h Q
  refine zQ_seq 1 (pc' := 1) (L' := [some (.ref 1), some (.int a1), some (.int a2)]) (S' := [.int a1]) (h' := h) zp_72 rfl ?_
  refine zQ_csI (M' := 68) (as := [.int a1]) (S' := []) zp_72 rfl rfl rfl zp_68 (Or.inr rfl) rfl rfl (zqm_imp H (fun rv h1 r1 => zri_imp r1 (fun v1 r1' => ?_)))
  refine zQ_if zp_72 rfl (t := 33) rfl (i := v1.toInt) rfl (fun c2 => ?_) (fun c2 => ?_)
  · refine zQ_seq 1 (pc' := 34) (L' := [some (.ref 1), some (.int a1), some (.int a2)]) (S' := [.int (Int32.ofInt 0)]) (h' := h1) zp_72 rfl ?_
    exact zQ_retI zp_72 rfl (r1'.1 c2)
  · refine zQ_seq 1 (pc' := 8) (L' := [some (.ref 1), some (.int a1), some (.int a2)]) (S' := [.int a2]) (h' := h1) zp_72 rfl ?_
    refine zQ_csI (M' := 68) (as := [.int a2]) (S' := []) zp_72 rfl rfl rfl zp_68 (Or.inr rfl) rfl rfl (zqm_imp (r1'.2 c2) (fun rv h3 r3 => zri_imp r3 (fun v3 r3' => ?_)))
    refine zQ_if zp_72 rfl (t := 33) rfl (i := v3.toInt) rfl (fun c4 => ?_) (fun c4 => ?_)
    · refine zQ_seq 1 (pc' := 34) (L' := [some (.ref 1), some (.int a1), some (.int a2)]) (S' := [.int (Int32.ofInt 0)]) (h' := h3) zp_72 rfl ?_
      exact zQ_retI zp_72 rfl (r3'.1 c4)
    · refine zQ_seq 3 (pc' := 19) (L' := [some (.ref 1), some (.int a1), some (.int a2)]) (S' := [.int a1, .ref 11]) (h' := h3) zp_72 rfl ?_
      refine zQ_ial (N := 8) (f := h3.1 11) zp_72 rfl rfl rfl (fun b5 b5' => ?_)
      refine zQ_seq 3 (pc' := 25) (L' := [some (.ref 1), some (.int a1), some (.int a2)]) (S' := [.int a2, .ref 11, .int (h3.1 11 a1.toInt.toNat)]) (h' := h3) zp_72 rfl ?_
      refine zQ_ial (N := 8) (f := h3.1 11) zp_72 rfl rfl rfl (fun b6 b6' => ?_)
      refine zQ_ic zp_72 rfl (t := 33) rfl (i := (h3.1 11 a1.toInt.toNat).toInt) (j := (h3.1 11 a2.toInt.toNat).toInt) rfl rfl (fun c7 => ?_) (fun c7 => ?_)
      · refine zQ_seq 1 (pc' := 34) (L' := [some (.ref 1), some (.int a1), some (.int a2)]) (S' := [.int (Int32.ofInt 0)]) (h' := h3) zp_72 rfl ?_
        exact zQ_retI zp_72 rfl ((((r3'.2 c4) b5 b5') b6 b6').1 c7)
      · refine zQ_seq 1 (pc' := 30) (L' := [some (.ref 1), some (.int a1), some (.int a2)]) (S' := [.int (Int32.ofInt 1)]) (h' := h3) zp_72 rfl ?_
        refine zQ_goto zp_72 rfl (t := 34) rfl ?_
        exact zQ_retI zp_72 rfl ((((r3'.2 c4) b5 b5') b6 b6').2 c7)
theorem s_74 {h : zH} {Q : Option Value → zH → Prop} (a1 : Int32) (a2 : Int32) (a3 : Int32) (H : (∀ n, zqm 68 [.int a1] h (fun rv h1 => zri rv (fun v1 => ((v1.toInt = 0 → Q none h1) ∧ (¬ (v1.toInt = 0) → ((a3.toInt < 0 → Q none h1) ∧ (¬ (a3.toInt < 0) → ((a3.toInt ≤ (40 : Int) → (0 ≤ a1.toInt → a1.toInt < 8 → (0 ≤ a1.toInt → a1.toInt < 8 → zQ n 74 35 [some (.ref 1), some (.int a1), some (.int a2), some (.int a3), some (.int (Int32.ofInt 0))] [] (zSet (zSet h1 11 a1.toInt.toNat a2) 12 a1.toInt.toNat a3) Q))) ∧ (¬ (a3.toInt ≤ (40 : Int)) → Q none h1)))))))))) : zqm 74 [.ref 1, .int a1, .int a2, .int a3] h Q := by
  refine zqm_of zp_74 (fun n => ?_)
  have H := H n
  show zQ n 74 0 [some (.ref 1), some (.int a1), some (.int a2), some (.int a3), none] [] h Q
  refine zQ_seq 1 (pc' := 1) (L' := [some (.ref 1), some (.int a1), some (.int a2), some (.int a3), none]) (S' := [.int a1]) (h' := h) zp_74 rfl ?_
  refine zQ_csI (M' := 68) (as := [.int a1]) (S' := []) zp_74 rfl rfl rfl zp_68 (Or.inr rfl) rfl rfl (zqm_imp H (fun rv h1 r1 => zri_imp r1 (fun v1 r1' => ?_)))
  refine zQ_if zp_74 rfl (t := 17) rfl (i := v1.toInt) rfl (fun c2 => ?_) (fun c2 => ?_)
  · exact zQ_retV zp_74 rfl (r1'.1 c2)
  · refine zQ_seq 1 (pc' := 8) (L' := [some (.ref 1), some (.int a1), some (.int a2), some (.int a3), none]) (S' := [.int a3]) (h' := h1) zp_74 rfl ?_
    refine zQ_if zp_74 rfl (t := 17) rfl (i := a3.toInt) rfl (fun c3 => ?_) (fun c3 => ?_)
    · exact zQ_retV zp_74 rfl ((r1'.2 c2).1 c3)
    · refine zQ_seq 2 (pc' := 14) (L' := [some (.ref 1), some (.int a1), some (.int a2), some (.int a3), none]) (S' := [.int (Int32.ofInt 40), .int a3]) (h' := h1) zp_74 rfl ?_
      refine zQ_ic zp_74 rfl (t := 18) rfl (i := a3.toInt) (j := (40 : Int)) rfl kc_40 (fun c4 => ?_) (fun c4 => ?_)
      · refine zQ_seq 4 (pc' := 24) (L' := [some (.ref 1), some (.int a1), some (.int a2), some (.int a3), none]) (S' := [.int a2, .int a1, .ref 11]) (h' := h1) zp_74 rfl ?_
        refine zQ_ias (N := 8) zp_74 rfl rfl rfl (fun b5 b5' => ?_)
        refine zQ_seq 4 (pc' := 31) (L' := [some (.ref 1), some (.int a1), some (.int a2), some (.int a3), none]) (S' := [.int a3, .int a1, .ref 12]) (h' := (zSet h1 11 a1.toInt.toNat a2)) zp_74 rfl ?_
        refine zQ_ias (N := 8) zp_74 rfl rfl rfl (fun b6 b6' => ?_)
        refine zQ_seq 2 (pc' := 35) (L' := [some (.ref 1), some (.int a1), some (.int a2), some (.int a3), some (.int (Int32.ofInt 0))]) (S' := []) (h' := (zSet (zSet h1 11 a1.toInt.toNat a2) 12 a1.toInt.toNat a3)) zp_74 rfl ?_
        exact (((((r1'.2 c2).2 c3).1 c4) b5 b5') b6 b6')
      · exact zQ_retV zp_74 rfl (((r1'.2 c2).2 c3).2 c4)
theorem s_74_35 {n : Nat} {h : zH} {Q : Option Value → zH → Prop} (x1 : Int32) (x2 : Int32) (x3 : Int32) (x4 : Int32) (H : ((x3.toInt ≤ x4.toInt → Q none h) ∧ (¬ (x3.toInt ≤ x4.toInt) → (0 ≤ x1.toInt → x1.toInt < 8 → (0 ≤ x4.toInt → x4.toInt < 40 → zQ n 74 35 [some (.ref 1), some (.int x1), some (.int x2), some (.int x3), some (.int (x4 + Int32.ofInt 1))] [] (zSet h (3 + x1.toInt.toNat) x4.toInt.toNat (Int32.ofInt 0)) Q))))) : zQ (n + 1) 74 35 [some (.ref 1), some (.int x1), some (.int x2), some (.int x3), some (.int x4)] [] h Q := by
  refine zQ_seqL 1 (pc' := 38) (L' := [some (.ref 1), some (.int x1), some (.int x2), some (.int x3), some (.int x4)]) (S' := [.int x3, .int x4]) (h' := h) zp_74 rfl ?_
  refine zQ_ic zp_74 rfl (t := 57) rfl (i := x4.toInt) (j := x3.toInt) rfl rfl (fun c1 => ?_) (fun c1 => ?_)
  · exact zQ_retV zp_74 rfl (H.1 c1)
  · refine zQ_seq 3 (pc' := 46) (L' := [some (.ref 1), some (.int x1), some (.int x2), some (.int x3), some (.int x4)]) (S' := [.int x1, .ref 2]) (h' := h) zp_74 rfl ?_
    refine zQ_row zp_74 rfl (fun b2 b2' b2'' => ?_)
    refine zQ_seq 2 (pc' := 50) (L' := [some (.ref 1), some (.int x1), some (.int x2), some (.int x3), some (.int x4)]) (S' := [.int (Int32.ofInt 0), .int x4, .ref (3 + x1.toInt.toNat)]) (h' := h) zp_74 rfl ?_
    refine zQ_ias (N := 40) zp_74 rfl b2'' rfl (fun b3 b3' => ?_)
    refine zQ_seq 1 (pc' := 54) (L' := [some (.ref 1), some (.int x1), some (.int x2), some (.int x3), some (.int (x4 + Int32.ofInt 1))]) (S' := []) (h' := (zSet h (3 + x1.toInt.toNat) x4.toInt.toNat (Int32.ofInt 0))) zp_74 rfl ?_
    refine zQ_goto zp_74 rfl (t := 35) rfl ?_
    exact (((H.2 c1) b2 b2') b3 b3')
theorem s_75 {h : zH} {Q : Option Value → zH → Prop} (a1 : Int32) (H : zqm 70 [.ref 1, .int a1] h (fun rv h1 => zri rv (fun v1 => ((v1.toInt = 0 → (0 ≤ a1.toInt → a1.toInt < 8 → (0 ≤ a1.toInt → a1.toInt < 8 → Q (some (.int (h1.1 12 a1.toInt.toNat))) (zSet h1 12 a1.toInt.toNat (Int32.ofInt (-1)))))) ∧ (¬ (v1.toInt = 0) → Q (some (.int (Int32.ofInt 0))) h1))))) : zqm 75 [.ref 1, .int a1] h Q := by
  refine zqm_of zp_75 (fun n => ?_)
  show zQ n 75 0 [some (.ref 1), some (.int a1), none] [] h Q
  refine zQ_seq 2 (pc' := 2) (L' := [some (.ref 1), some (.int a1), none]) (S' := [.int a1, .ref 1]) (h' := h) zp_75 rfl ?_
  refine zQ_cvI (M' := 70) (as := [.ref 1, .int a1]) (S' := []) zp_75 rfl rfl zp_70 (Or.inr rfl) rfl rfl (zqm_imp H (fun rv h1 r1 => zri_imp r1 (fun v1 r1' => ?_)))
  refine zQ_if zp_75 rfl (t := 10) rfl (i := v1.toInt) rfl (fun c2 => ?_) (fun c2 => ?_)
  · refine zQ_seq 3 (pc' := 15) (L' := [some (.ref 1), some (.int a1), none]) (S' := [.int a1, .ref 12]) (h' := h1) zp_75 rfl ?_
    refine zQ_ial (N := 8) (f := h1.1 12) zp_75 rfl rfl rfl (fun b3 b3' => ?_)
    refine zQ_seq 5 (pc' := 23) (L' := [some (.ref 1), some (.int a1), some (.int (h1.1 12 a1.toInt.toNat))]) (S' := [.int (Int32.ofInt (-1)), .int a1, .ref 12]) (h' := h1) zp_75 rfl ?_
    refine zQ_ias (N := 8) zp_75 rfl rfl rfl (fun b4 b4' => ?_)
    refine zQ_seq 1 (pc' := 25) (L' := [some (.ref 1), some (.int a1), some (.int (h1.1 12 a1.toInt.toNat))]) (S' := [.int (h1.1 12 a1.toInt.toNat)]) (h' := (zSet h1 12 a1.toInt.toNat (Int32.ofInt (-1)))) zp_75 rfl ?_
    exact zQ_retI zp_75 rfl (((r1'.1 c2) b3 b3') b4 b4')
  · refine zQ_seq 1 (pc' := 9) (L' := [some (.ref 1), some (.int a1), none]) (S' := [.int (Int32.ofInt 0)]) (h' := h1) zp_75 rfl ?_
    exact zQ_retI zp_75 rfl (r1'.2 c2)
theorem s_77 {h : zH} {Q : Option Value → zH → Prop} (a1 : Int32) (a2 : Int32) (a3 : Int32) (H : zqm 71 [.ref 1, .int a1, .int a2, .int (Int32.ofInt 1)] h (fun rv h1 => zri rv (fun v1 => ((¬ v1.toInt = 0 → (0 ≤ a1.toInt → a1.toInt < 8 → (0 ≤ a1.toInt → a1.toInt < 8 → zqm 78 [.int (h1.1 11 a1.toInt.toNat), .int a3] h1 (fun rv h5 => zri rv (fun v5 => (0 ≤ a2.toInt → a2.toInt < 40 → (0 ≤ a1.toInt → a1.toInt < 8 → (0 ≤ a2.toInt → a2.toInt < 40 → Q (some (.int ((zSet h5 (3 + a1.toInt.toNat) a2.toInt.toNat v5).1 (3 + a1.toInt.toNat) a2.toInt.toNat))) (zSet h5 (3 + a1.toInt.toNat) a2.toInt.toNat v5))))))))) ∧ (¬ (¬ v1.toInt = 0) → Q (some (.int (Int32.ofInt 0))) h1))))) : zqm 77 [.ref 1, .int a1, .int a2, .int a3] h Q := by
  refine zqm_of zp_77 (fun n => ?_)
  show zQ n 77 0 [some (.ref 1), some (.int a1), some (.int a2), some (.int a3)] [] h Q
  refine zQ_seq 4 (pc' := 4) (L' := [some (.ref 1), some (.int a1), some (.int a2), some (.int a3)]) (S' := [.int (Int32.ofInt 1), .int a2, .int a1, .ref 1]) (h' := h) zp_77 rfl ?_
  refine zQ_cvI (M' := 71) (as := [.ref 1, .int a1, .int a2, .int (Int32.ofInt 1)]) (S' := []) zp_77 rfl rfl zp_71 (Or.inr rfl) rfl rfl (zqm_imp H (fun rv h1 r1 => zri_imp r1 (fun v1 r1' => ?_)))
  refine zQ_if zp_77 rfl (t := 12) rfl (i := v1.toInt) rfl (fun c2 => ?_) (fun c2 => ?_)
  · refine zQ_seq 3 (pc' := 17) (L' := [some (.ref 1), some (.int a1), some (.int a2), some (.int a3)]) (S' := [.int a1, .ref 2]) (h' := h1) zp_77 rfl ?_
    refine zQ_row zp_77 rfl (fun b3 b3' b3'' => ?_)
    refine zQ_seq 4 (pc' := 24) (L' := [some (.ref 1), some (.int a1), some (.int a2), some (.int a3)]) (S' := [.int a1, .ref 11, .int a2, .ref (3 + a1.toInt.toNat)]) (h' := h1) zp_77 rfl ?_
    refine zQ_ial (N := 8) (f := h1.1 11) zp_77 rfl rfl rfl (fun b4 b4' => ?_)
    refine zQ_seq 1 (pc' := 26) (L' := [some (.ref 1), some (.int a1), some (.int a2), some (.int a3)]) (S' := [.int a3, .int (h1.1 11 a1.toInt.toNat), .int a2, .ref (3 + a1.toInt.toNat)]) (h' := h1) zp_77 rfl ?_
    refine zQ_csI (M' := 78) (as := [.int (h1.1 11 a1.toInt.toNat), .int a3]) (S' := [.int a2, .ref (3 + a1.toInt.toNat)]) zp_77 rfl rfl rfl zp_78 (Or.inl rfl) rfl rfl (zqm_imp (((r1'.1 c2) b3 b3') b4 b4') (fun rv h5 r5 => zri_imp r5 (fun v5 r5' => ?_)))
    refine zQ_ias (N := 40) zp_77 rfl b3'' rfl (fun b6 b6' => ?_)
    refine zQ_seq 3 (pc' := 35) (L' := [some (.ref 1), some (.int a1), some (.int a2), some (.int a3)]) (S' := [.int a1, .ref 2]) (h' := (zSet h5 (3 + a1.toInt.toNat) a2.toInt.toNat v5)) zp_77 rfl ?_
    refine zQ_row zp_77 rfl (fun b7 b7' b7'' => ?_)
    refine zQ_seq 1 (pc' := 37) (L' := [some (.ref 1), some (.int a1), some (.int a2), some (.int a3)]) (S' := [.int a2, .ref (3 + a1.toInt.toNat)]) (h' := (zSet h5 (3 + a1.toInt.toNat) a2.toInt.toNat v5)) zp_77 rfl ?_
    refine zQ_ial (N := 40) (f := (zSet h5 (3 + a1.toInt.toNat) a2.toInt.toNat v5).1 (3 + a1.toInt.toNat)) zp_77 rfl (wk_row b7'') rfl (fun b8 b8' => ?_)
    exact zQ_retI zp_77 rfl (((r5' b6 b6') b7 b7') b8 b8')
  · refine zQ_seq 1 (pc' := 11) (L' := [some (.ref 1), some (.int a1), some (.int a2), some (.int a3)]) (S' := [.int (Int32.ofInt 0)]) (h' := h1) zp_77 rfl ?_
    exact zQ_retI zp_77 rfl (r1'.2 c2)
theorem s_78 {h : zH} {Q : Option Value → zH → Prop} (a0 : Int32) (a1 : Int32) (H : ((¬ a0.toInt = 0 → ((¬ a0.toInt = (1 : Int) → Q (some (.int a1)) h) ∧ (¬ (¬ a0.toInt = (1 : Int)) → Q (some (.int (a1.toInt16.toInt32))) h))) ∧ (¬ (¬ a0.toInt = 0) → Q (some (.int (a1.toInt8.toInt32))) h))) : zqm 78 [.int a0, .int a1] h Q := by
  refine zqm_of zp_78 (fun n => ?_)
  show zQ n 78 0 [some (.int a0), some (.int a1)] [] h Q
  refine zQ_seq 1 (pc' := 1) (L' := [some (.int a0), some (.int a1)]) (S' := [.int a0]) (h' := h) zp_78 rfl ?_
  refine zQ_if zp_78 rfl (t := 7) rfl (i := a0.toInt) rfl (fun c1 => ?_) (fun c1 => ?_)
  · refine zQ_seq 2 (pc' := 9) (L' := [some (.int a0), some (.int a1)]) (S' := [.int (Int32.ofInt 1), .int a0]) (h' := h) zp_78 rfl ?_
    refine zQ_ic zp_78 rfl (t := 17) rfl (i := a0.toInt) (j := (1 : Int)) rfl kc_1 (fun c2 => ?_) (fun c2 => ?_)
    · refine zQ_seq 1 (pc' := 18) (L' := [some (.int a0), some (.int a1)]) (S' := [.int a1]) (h' := h) zp_78 rfl ?_
      exact zQ_retI zp_78 rfl ((H.1 c1).1 c2)
    · refine zQ_seq 2 (pc' := 14) (L' := [some (.int a0), some (.int a1)]) (S' := [.int (a1.toInt16.toInt32)]) (h' := h) zp_78 rfl ?_
      refine zQ_goto zp_78 rfl (t := 18) rfl ?_
      exact zQ_retI zp_78 rfl ((H.1 c1).2 c2)
  · refine zQ_seq 2 (pc' := 6) (L' := [some (.int a0), some (.int a1)]) (S' := [.int (a1.toInt8.toInt32)]) (h' := h) zp_78 rfl ?_
    exact zQ_retI zp_78 rfl (H.2 c1)
theorem s_79 {h : zH} {Q : Option Value → zH → Prop} (a1 : Int32) (a2 : Int32) (a3 : Int32) (a4 : Int32) (a5 : Int32) (H : zqm 71 [.ref 1, .int a1, .int a2, .int a5] h (fun rv h1 => zri rv (fun v1 => ((v1.toInt = 0 → Q none h1) ∧ (¬ (v1.toInt = 0) → zqm 71 [.ref 1, .int a3, .int a4, .int a5] h1 (fun rv h3 => zri rv (fun v3 => ((v3.toInt = 0 → Q none h3) ∧ (¬ (v3.toInt = 0) → (0 ≤ a1.toInt → a1.toInt < 8 → (0 ≤ a3.toInt → a3.toInt < 8 → (0 ≤ a2.toInt → 0 ≤ a4.toInt → 0 ≤ a5.toInt → a2.toInt + a5.toInt ≤ 40 → a4.toInt + a5.toInt ≤ 40 → Q none (zCpy h3 (3 + a1.toInt.toNat) (3 + a3.toInt.toNat) a2.toInt.toNat a4.toInt.toNat a5.toInt.toNat))))))))))))) : zqm 79 [.ref 1, .int a1, .int a2, .int a3, .int a4, .int a5] h Q := by
  refine zqm_of zp_79 (fun n => ?_)
  show zQ n 79 0 [some (.ref 1), some (.int a1), some (.int a2), some (.int a3), some (.int a4), some (.int a5)] [] h Q
  refine zQ_seq 4 (pc' := 5) (L' := [some (.ref 1), some (.int a1), some (.int a2), some (.int a3), some (.int a4), some (.int a5)]) (S' := [.int a5, .int a2, .int a1, .ref 1]) (h' := h) zp_79 rfl ?_
  refine zQ_cvI (M' := 71) (as := [.ref 1, .int a1, .int a2, .int a5]) (S' := []) zp_79 rfl rfl zp_71 (Or.inr rfl) rfl rfl (zqm_imp H (fun rv h1 r1 => zri_imp r1 (fun v1 r1' => ?_)))
  refine zQ_if zp_79 rfl (t := 43) rfl (i := v1.toInt) rfl (fun c2 => ?_) (fun c2 => ?_)
  · exact zQ_retV zp_79 rfl (r1'.1 c2)
  · refine zQ_seq 4 (pc' := 17) (L' := [some (.ref 1), some (.int a1), some (.int a2), some (.int a3), some (.int a4), some (.int a5)]) (S' := [.int a5, .int a4, .int a3, .ref 1]) (h' := h1) zp_79 rfl ?_
    refine zQ_cvI (M' := 71) (as := [.ref 1, .int a3, .int a4, .int a5]) (S' := []) zp_79 rfl rfl zp_71 (Or.inr rfl) rfl rfl (zqm_imp (r1'.2 c2) (fun rv h3 r3 => zri_imp r3 (fun v3 r3' => ?_)))
    refine zQ_if zp_79 rfl (t := 43) rfl (i := v3.toInt) rfl (fun c4 => ?_) (fun c4 => ?_)
    · exact zQ_retV zp_79 rfl (r3'.1 c4)
    · refine zQ_seq 3 (pc' := 28) (L' := [some (.ref 1), some (.int a1), some (.int a2), some (.int a3), some (.int a4), some (.int a5)]) (S' := [.int a1, .ref 2]) (h' := h3) zp_79 rfl ?_
      refine zQ_row zp_79 rfl (fun b5 b5' b5'' => ?_)
      refine zQ_seq 4 (pc' := 35) (L' := [some (.ref 1), some (.int a1), some (.int a2), some (.int a3), some (.int a4), some (.int a5)]) (S' := [.int a3, .ref 2, .int a2, .ref (3 + a1.toInt.toNat)]) (h' := h3) zp_79 rfl ?_
      refine zQ_row zp_79 rfl (fun b6 b6' b6'' => ?_)
      refine zQ_seq 2 (pc' := 40) (L' := [some (.ref 1), some (.int a1), some (.int a2), some (.int a3), some (.int a4), some (.int a5)]) (S' := [.int a5, .int a4, .ref (3 + a3.toInt.toNat), .int a2, .ref (3 + a1.toInt.toNat)]) (h' := h3) zp_79 rfl ?_
      refine zQ_copy (n0 := 40) (n1 := 40) (i := a2.toInt) (j := a4.toInt) (l := a5.toInt) zp_79 rfl rfl b5'' b6'' rfl rfl rfl (fun b7 b7' b7'' b7''' b7'''' => ?_)
      exact zQ_retV zp_79 rfl ((((r3'.2 c4) b5 b5') b6 b6') b7 b7' b7'' b7''' b7'''')
theorem s_216 {h : zH} {Q : Option Value → zH → Prop} (a0 : Int32) (H : Q (some (.int (a0 &&& (-a0)))) h) : zqm 216 [.int a0] h Q := by
  refine zqm_of zp_216 (fun n => ?_)
  show zQ n 216 0 [some (.int a0)] [] h Q
  refine zQ_seq 4 (pc' := 4) (L' := [some (.int a0)]) (S' := [.int (a0 &&& (-a0))]) (h' := h) zp_216 rfl ?_
  exact zQ_retI zp_216 rfl H
theorem s_217 {h : zH} {Q : Option Value → zH → Prop} (a0 : Int32) (H : Q (some (.int ((((((((a0 - (((a0.toUInt32 >>> ((Int32.ofInt 1).toUInt32 &&& Int32.toUInt32 31)).toInt32) &&& (1431655765 : Int32))) &&& (858993459 : Int32)) + ((((a0 - (((a0.toUInt32 >>> ((Int32.ofInt 1).toUInt32 &&& Int32.toUInt32 31)).toInt32) &&& (1431655765 : Int32))).toUInt32 >>> ((Int32.ofInt 2).toUInt32 &&& Int32.toUInt32 31)).toInt32) &&& (858993459 : Int32))) + (((((a0 - (((a0.toUInt32 >>> ((Int32.ofInt 1).toUInt32 &&& Int32.toUInt32 31)).toInt32) &&& (1431655765 : Int32))) &&& (858993459 : Int32)) + ((((a0 - (((a0.toUInt32 >>> ((Int32.ofInt 1).toUInt32 &&& Int32.toUInt32 31)).toInt32) &&& (1431655765 : Int32))).toUInt32 >>> ((Int32.ofInt 2).toUInt32 &&& Int32.toUInt32 31)).toInt32) &&& (858993459 : Int32))).toUInt32 >>> ((Int32.ofInt 4).toUInt32 &&& Int32.toUInt32 31)).toInt32)) &&& (252645135 : Int32)) + (((((((a0 - (((a0.toUInt32 >>> ((Int32.ofInt 1).toUInt32 &&& Int32.toUInt32 31)).toInt32) &&& (1431655765 : Int32))) &&& (858993459 : Int32)) + ((((a0 - (((a0.toUInt32 >>> ((Int32.ofInt 1).toUInt32 &&& Int32.toUInt32 31)).toInt32) &&& (1431655765 : Int32))).toUInt32 >>> ((Int32.ofInt 2).toUInt32 &&& Int32.toUInt32 31)).toInt32) &&& (858993459 : Int32))) + (((((a0 - (((a0.toUInt32 >>> ((Int32.ofInt 1).toUInt32 &&& Int32.toUInt32 31)).toInt32) &&& (1431655765 : Int32))) &&& (858993459 : Int32)) + ((((a0 - (((a0.toUInt32 >>> ((Int32.ofInt 1).toUInt32 &&& Int32.toUInt32 31)).toInt32) &&& (1431655765 : Int32))).toUInt32 >>> ((Int32.ofInt 2).toUInt32 &&& Int32.toUInt32 31)).toInt32) &&& (858993459 : Int32))).toUInt32 >>> ((Int32.ofInt 4).toUInt32 &&& Int32.toUInt32 31)).toInt32)) &&& (252645135 : Int32)).toUInt32 >>> ((Int32.ofInt 8).toUInt32 &&& Int32.toUInt32 31)).toInt32)) + ((((((((a0 - (((a0.toUInt32 >>> ((Int32.ofInt 1).toUInt32 &&& Int32.toUInt32 31)).toInt32) &&& (1431655765 : Int32))) &&& (858993459 : Int32)) + ((((a0 - (((a0.toUInt32 >>> ((Int32.ofInt 1).toUInt32 &&& Int32.toUInt32 31)).toInt32) &&& (1431655765 : Int32))).toUInt32 >>> ((Int32.ofInt 2).toUInt32 &&& Int32.toUInt32 31)).toInt32) &&& (858993459 : Int32))) + (((((a0 - (((a0.toUInt32 >>> ((Int32.ofInt 1).toUInt32 &&& Int32.toUInt32 31)).toInt32) &&& (1431655765 : Int32))) &&& (858993459 : Int32)) + ((((a0 - (((a0.toUInt32 >>> ((Int32.ofInt 1).toUInt32 &&& Int32.toUInt32 31)).toInt32) &&& (1431655765 : Int32))).toUInt32 >>> ((Int32.ofInt 2).toUInt32 &&& Int32.toUInt32 31)).toInt32) &&& (858993459 : Int32))).toUInt32 >>> ((Int32.ofInt 4).toUInt32 &&& Int32.toUInt32 31)).toInt32)) &&& (252645135 : Int32)) + (((((((a0 - (((a0.toUInt32 >>> ((Int32.ofInt 1).toUInt32 &&& Int32.toUInt32 31)).toInt32) &&& (1431655765 : Int32))) &&& (858993459 : Int32)) + ((((a0 - (((a0.toUInt32 >>> ((Int32.ofInt 1).toUInt32 &&& Int32.toUInt32 31)).toInt32) &&& (1431655765 : Int32))).toUInt32 >>> ((Int32.ofInt 2).toUInt32 &&& Int32.toUInt32 31)).toInt32) &&& (858993459 : Int32))) + (((((a0 - (((a0.toUInt32 >>> ((Int32.ofInt 1).toUInt32 &&& Int32.toUInt32 31)).toInt32) &&& (1431655765 : Int32))) &&& (858993459 : Int32)) + ((((a0 - (((a0.toUInt32 >>> ((Int32.ofInt 1).toUInt32 &&& Int32.toUInt32 31)).toInt32) &&& (1431655765 : Int32))).toUInt32 >>> ((Int32.ofInt 2).toUInt32 &&& Int32.toUInt32 31)).toInt32) &&& (858993459 : Int32))).toUInt32 >>> ((Int32.ofInt 4).toUInt32 &&& Int32.toUInt32 31)).toInt32)) &&& (252645135 : Int32)).toUInt32 >>> ((Int32.ofInt 8).toUInt32 &&& Int32.toUInt32 31)).toInt32)).toUInt32 >>> ((Int32.ofInt 16).toUInt32 &&& Int32.toUInt32 31)).toInt32)) &&& (Int32.ofInt 63)))) h) : zqm 217 [.int a0] h Q := by
  refine zqm_of zp_217 (fun n => ?_)
  show zQ n 217 0 [some (.int a0)] [] h Q
  refine zQ_seq 41 (pc' := 52) (L' := [some (.int (((((((a0 - (((a0.toUInt32 >>> ((Int32.ofInt 1).toUInt32 &&& Int32.toUInt32 31)).toInt32) &&& (1431655765 : Int32))) &&& (858993459 : Int32)) + ((((a0 - (((a0.toUInt32 >>> ((Int32.ofInt 1).toUInt32 &&& Int32.toUInt32 31)).toInt32) &&& (1431655765 : Int32))).toUInt32 >>> ((Int32.ofInt 2).toUInt32 &&& Int32.toUInt32 31)).toInt32) &&& (858993459 : Int32))) + (((((a0 - (((a0.toUInt32 >>> ((Int32.ofInt 1).toUInt32 &&& Int32.toUInt32 31)).toInt32) &&& (1431655765 : Int32))) &&& (858993459 : Int32)) + ((((a0 - (((a0.toUInt32 >>> ((Int32.ofInt 1).toUInt32 &&& Int32.toUInt32 31)).toInt32) &&& (1431655765 : Int32))).toUInt32 >>> ((Int32.ofInt 2).toUInt32 &&& Int32.toUInt32 31)).toInt32) &&& (858993459 : Int32))).toUInt32 >>> ((Int32.ofInt 4).toUInt32 &&& Int32.toUInt32 31)).toInt32)) &&& (252645135 : Int32)) + (((((((a0 - (((a0.toUInt32 >>> ((Int32.ofInt 1).toUInt32 &&& Int32.toUInt32 31)).toInt32) &&& (1431655765 : Int32))) &&& (858993459 : Int32)) + ((((a0 - (((a0.toUInt32 >>> ((Int32.ofInt 1).toUInt32 &&& Int32.toUInt32 31)).toInt32) &&& (1431655765 : Int32))).toUInt32 >>> ((Int32.ofInt 2).toUInt32 &&& Int32.toUInt32 31)).toInt32) &&& (858993459 : Int32))) + (((((a0 - (((a0.toUInt32 >>> ((Int32.ofInt 1).toUInt32 &&& Int32.toUInt32 31)).toInt32) &&& (1431655765 : Int32))) &&& (858993459 : Int32)) + ((((a0 - (((a0.toUInt32 >>> ((Int32.ofInt 1).toUInt32 &&& Int32.toUInt32 31)).toInt32) &&& (1431655765 : Int32))).toUInt32 >>> ((Int32.ofInt 2).toUInt32 &&& Int32.toUInt32 31)).toInt32) &&& (858993459 : Int32))).toUInt32 >>> ((Int32.ofInt 4).toUInt32 &&& Int32.toUInt32 31)).toInt32)) &&& (252645135 : Int32)).toUInt32 >>> ((Int32.ofInt 8).toUInt32 &&& Int32.toUInt32 31)).toInt32)) + ((((((((a0 - (((a0.toUInt32 >>> ((Int32.ofInt 1).toUInt32 &&& Int32.toUInt32 31)).toInt32) &&& (1431655765 : Int32))) &&& (858993459 : Int32)) + ((((a0 - (((a0.toUInt32 >>> ((Int32.ofInt 1).toUInt32 &&& Int32.toUInt32 31)).toInt32) &&& (1431655765 : Int32))).toUInt32 >>> ((Int32.ofInt 2).toUInt32 &&& Int32.toUInt32 31)).toInt32) &&& (858993459 : Int32))) + (((((a0 - (((a0.toUInt32 >>> ((Int32.ofInt 1).toUInt32 &&& Int32.toUInt32 31)).toInt32) &&& (1431655765 : Int32))) &&& (858993459 : Int32)) + ((((a0 - (((a0.toUInt32 >>> ((Int32.ofInt 1).toUInt32 &&& Int32.toUInt32 31)).toInt32) &&& (1431655765 : Int32))).toUInt32 >>> ((Int32.ofInt 2).toUInt32 &&& Int32.toUInt32 31)).toInt32) &&& (858993459 : Int32))).toUInt32 >>> ((Int32.ofInt 4).toUInt32 &&& Int32.toUInt32 31)).toInt32)) &&& (252645135 : Int32)) + (((((((a0 - (((a0.toUInt32 >>> ((Int32.ofInt 1).toUInt32 &&& Int32.toUInt32 31)).toInt32) &&& (1431655765 : Int32))) &&& (858993459 : Int32)) + ((((a0 - (((a0.toUInt32 >>> ((Int32.ofInt 1).toUInt32 &&& Int32.toUInt32 31)).toInt32) &&& (1431655765 : Int32))).toUInt32 >>> ((Int32.ofInt 2).toUInt32 &&& Int32.toUInt32 31)).toInt32) &&& (858993459 : Int32))) + (((((a0 - (((a0.toUInt32 >>> ((Int32.ofInt 1).toUInt32 &&& Int32.toUInt32 31)).toInt32) &&& (1431655765 : Int32))) &&& (858993459 : Int32)) + ((((a0 - (((a0.toUInt32 >>> ((Int32.ofInt 1).toUInt32 &&& Int32.toUInt32 31)).toInt32) &&& (1431655765 : Int32))).toUInt32 >>> ((Int32.ofInt 2).toUInt32 &&& Int32.toUInt32 31)).toInt32) &&& (858993459 : Int32))).toUInt32 >>> ((Int32.ofInt 4).toUInt32 &&& Int32.toUInt32 31)).toInt32)) &&& (252645135 : Int32)).toUInt32 >>> ((Int32.ofInt 8).toUInt32 &&& Int32.toUInt32 31)).toInt32)).toUInt32 >>> ((Int32.ofInt 16).toUInt32 &&& Int32.toUInt32 31)).toInt32)))]) (S' := [.int ((((((((a0 - (((a0.toUInt32 >>> ((Int32.ofInt 1).toUInt32 &&& Int32.toUInt32 31)).toInt32) &&& (1431655765 : Int32))) &&& (858993459 : Int32)) + ((((a0 - (((a0.toUInt32 >>> ((Int32.ofInt 1).toUInt32 &&& Int32.toUInt32 31)).toInt32) &&& (1431655765 : Int32))).toUInt32 >>> ((Int32.ofInt 2).toUInt32 &&& Int32.toUInt32 31)).toInt32) &&& (858993459 : Int32))) + (((((a0 - (((a0.toUInt32 >>> ((Int32.ofInt 1).toUInt32 &&& Int32.toUInt32 31)).toInt32) &&& (1431655765 : Int32))) &&& (858993459 : Int32)) + ((((a0 - (((a0.toUInt32 >>> ((Int32.ofInt 1).toUInt32 &&& Int32.toUInt32 31)).toInt32) &&& (1431655765 : Int32))).toUInt32 >>> ((Int32.ofInt 2).toUInt32 &&& Int32.toUInt32 31)).toInt32) &&& (858993459 : Int32))).toUInt32 >>> ((Int32.ofInt 4).toUInt32 &&& Int32.toUInt32 31)).toInt32)) &&& (252645135 : Int32)) + (((((((a0 - (((a0.toUInt32 >>> ((Int32.ofInt 1).toUInt32 &&& Int32.toUInt32 31)).toInt32) &&& (1431655765 : Int32))) &&& (858993459 : Int32)) + ((((a0 - (((a0.toUInt32 >>> ((Int32.ofInt 1).toUInt32 &&& Int32.toUInt32 31)).toInt32) &&& (1431655765 : Int32))).toUInt32 >>> ((Int32.ofInt 2).toUInt32 &&& Int32.toUInt32 31)).toInt32) &&& (858993459 : Int32))) + (((((a0 - (((a0.toUInt32 >>> ((Int32.ofInt 1).toUInt32 &&& Int32.toUInt32 31)).toInt32) &&& (1431655765 : Int32))) &&& (858993459 : Int32)) + ((((a0 - (((a0.toUInt32 >>> ((Int32.ofInt 1).toUInt32 &&& Int32.toUInt32 31)).toInt32) &&& (1431655765 : Int32))).toUInt32 >>> ((Int32.ofInt 2).toUInt32 &&& Int32.toUInt32 31)).toInt32) &&& (858993459 : Int32))).toUInt32 >>> ((Int32.ofInt 4).toUInt32 &&& Int32.toUInt32 31)).toInt32)) &&& (252645135 : Int32)).toUInt32 >>> ((Int32.ofInt 8).toUInt32 &&& Int32.toUInt32 31)).toInt32)) + ((((((((a0 - (((a0.toUInt32 >>> ((Int32.ofInt 1).toUInt32 &&& Int32.toUInt32 31)).toInt32) &&& (1431655765 : Int32))) &&& (858993459 : Int32)) + ((((a0 - (((a0.toUInt32 >>> ((Int32.ofInt 1).toUInt32 &&& Int32.toUInt32 31)).toInt32) &&& (1431655765 : Int32))).toUInt32 >>> ((Int32.ofInt 2).toUInt32 &&& Int32.toUInt32 31)).toInt32) &&& (858993459 : Int32))) + (((((a0 - (((a0.toUInt32 >>> ((Int32.ofInt 1).toUInt32 &&& Int32.toUInt32 31)).toInt32) &&& (1431655765 : Int32))) &&& (858993459 : Int32)) + ((((a0 - (((a0.toUInt32 >>> ((Int32.ofInt 1).toUInt32 &&& Int32.toUInt32 31)).toInt32) &&& (1431655765 : Int32))).toUInt32 >>> ((Int32.ofInt 2).toUInt32 &&& Int32.toUInt32 31)).toInt32) &&& (858993459 : Int32))).toUInt32 >>> ((Int32.ofInt 4).toUInt32 &&& Int32.toUInt32 31)).toInt32)) &&& (252645135 : Int32)) + (((((((a0 - (((a0.toUInt32 >>> ((Int32.ofInt 1).toUInt32 &&& Int32.toUInt32 31)).toInt32) &&& (1431655765 : Int32))) &&& (858993459 : Int32)) + ((((a0 - (((a0.toUInt32 >>> ((Int32.ofInt 1).toUInt32 &&& Int32.toUInt32 31)).toInt32) &&& (1431655765 : Int32))).toUInt32 >>> ((Int32.ofInt 2).toUInt32 &&& Int32.toUInt32 31)).toInt32) &&& (858993459 : Int32))) + (((((a0 - (((a0.toUInt32 >>> ((Int32.ofInt 1).toUInt32 &&& Int32.toUInt32 31)).toInt32) &&& (1431655765 : Int32))) &&& (858993459 : Int32)) + ((((a0 - (((a0.toUInt32 >>> ((Int32.ofInt 1).toUInt32 &&& Int32.toUInt32 31)).toInt32) &&& (1431655765 : Int32))).toUInt32 >>> ((Int32.ofInt 2).toUInt32 &&& Int32.toUInt32 31)).toInt32) &&& (858993459 : Int32))).toUInt32 >>> ((Int32.ofInt 4).toUInt32 &&& Int32.toUInt32 31)).toInt32)) &&& (252645135 : Int32)).toUInt32 >>> ((Int32.ofInt 8).toUInt32 &&& Int32.toUInt32 31)).toInt32)).toUInt32 >>> ((Int32.ofInt 16).toUInt32 &&& Int32.toUInt32 31)).toInt32)) &&& (Int32.ofInt 63))]) (h' := h) zp_217 rfl ?_
  exact zQ_retI zp_217 rfl H
theorem s_221 {h : zH} {Q : Option Value → zH → Prop} (a0 : Int32) (a1 : Int32) (H : ((a1.toInt < a0.toInt → Q (some (.int a1)) h) ∧ (¬ (a1.toInt < a0.toInt) → Q (some (.int a0)) h))) : zqm 221 [.int a0, .int a1] h Q := by
  refine zqm_of zp_221 (fun n => ?_)
  show zQ n 221 0 [some (.int a0), some (.int a1)] [] h Q
  refine zQ_seq 2 (pc' := 2) (L' := [some (.int a0), some (.int a1)]) (S' := [.int a1, .int a0]) (h' := h) zp_221 rfl ?_
  refine zQ_ic zp_221 rfl (t := 9) rfl (i := a0.toInt) (j := a1.toInt) rfl rfl (fun c1 => ?_) (fun c1 => ?_)
  · refine zQ_seq 1 (pc' := 10) (L' := [some (.int a0), some (.int a1)]) (S' := [.int a1]) (h' := h) zp_221 rfl ?_
    exact zQ_retI zp_221 rfl (H.1 c1)
  · refine zQ_seq 1 (pc' := 6) (L' := [some (.int a0), some (.int a1)]) (S' := [.int a0]) (h' := h) zp_221 rfl ?_
    refine zQ_goto zp_221 rfl (t := 10) rfl ?_
    exact zQ_retI zp_221 rfl (H.2 c1)

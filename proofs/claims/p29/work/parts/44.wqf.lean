/-! segments: the reference, on -/
theorem s_166 {h : zH} {Q : Option Value → zH → Prop} (a1 : Int32) (H : (∀ n, zQ n 166 4 [some (.ref 58), some (.int a1), some (.int (Int32.ofInt 0)), some (.int (Int32.ofInt 0))] [] h Q)) : zqm 166 [.ref 58, .int a1] h Q := by
  refine zqm_of zp_166 (fun n => ?_)
  have H := H n
  show zQ n 166 0 [some (.ref 58), some (.int a1), none, none] [] h Q
  refine zQ_seq 4 (pc' := 4) (L' := [some (.ref 58), some (.int a1), some (.int (Int32.ofInt 0)), some (.int (Int32.ofInt 0))]) (S' := []) (h' := h) zp_166 rfl ?_
  exact H
theorem s_166_4 {n : Nat} {h : zH} {Q : Option Value → zH → Prop} (x1 : Int32) (x2 : Int32) (x3 : Int32) (H : (((h.1 64 57).toInt ≤ x3.toInt → Q (some (.int x2)) h) ∧ (¬ ((h.1 64 57).toInt ≤ x3.toInt) → zqm 164 [.ref 58, .int x3, .int x1] h (fun rv h2 => zri rv (fun v2 => zQ n 166 4 [some (.ref 58), some (.int x1), some (.int (x2 + v2)), some (.int (x3 + Int32.ofInt 1))] [] h2 Q))))) : zQ (n + 1) 166 4 [some (.ref 58), some (.int x1), some (.int x2), some (.int x3)] [] h Q := by
  refine zQ_seqL 3 (pc' := 11) (L' := [some (.ref 58), some (.int x1), some (.int x2), some (.int x3)]) (S' := [.int (Int32.ofInt 57), .ref 64, .int x3]) (h' := h) zp_166 rfl ?_
  refine zQ_ialk 57 (N := 62) (f := h.1 64) zp_166 rfl rfl kc_57 ?_
  refine zQ_ic zp_166 rfl (t := 30) rfl (i := x3.toInt) (j := (h.1 64 57).toInt) rfl rfl (fun c1 => ?_) (fun c1 => ?_)
  · refine zQ_seq 1 (pc' := 31) (L' := [some (.ref 58), some (.int x1), some (.int x2), some (.int x3)]) (S' := [.int x2]) (h' := h) zp_166 rfl ?_
    exact zQ_retI zp_166 rfl (H.1 c1)
  · refine zQ_seq 4 (pc' := 19) (L' := [some (.ref 58), some (.int x1), some (.int x2), some (.int x3)]) (S' := [.int x1, .int x3, .ref 58, .int x2]) (h' := h) zp_166 rfl ?_
    refine zQ_cvI (M' := 164) (as := [.ref 58, .int x3, .int x1]) (S' := [.int x2]) zp_166 rfl rfl zp_164 (Or.inl rfl) rfl rfl (zqm_imp (H.2 c1) (fun rv h2 r2 => zri_imp r2 (fun v2 r2' => ?_)))
    refine zQ_seq 3 (pc' := 27) (L' := [some (.ref 58), some (.int x1), some (.int (x2 + v2)), some (.int (x3 + Int32.ofInt 1))]) (S' := []) (h' := h2) zp_166 rfl ?_
    refine zQ_goto zp_166 rfl (t := 4) rfl ?_
    exact r2'
theorem s_167_58_64 {h : zH} {Q : Option Value → zH → Prop} (a2 : Int32) (a3 : Int32) (H : (0 ≤ ((Int32.ofInt 15) + a2).toInt → ((Int32.ofInt 15) + a2).toInt < 62 → ((((zSet h 64 ((Int32.ofInt 15) + a2).toInt.toNat a3).1 64 58).toInt = 0 → Q none (zSet h 64 ((Int32.ofInt 15) + a2).toInt.toNat a3)) ∧ (¬ (((zSet h 64 ((Int32.ofInt 15) + a2).toInt.toNat a3).1 64 58).toInt = 0) → (0 ≤ ((Int32.ofInt 15) + ((a2 + ((zSet h 64 ((Int32.ofInt 15) + a2).toInt.toNat a3).1 64 58)) - (a2 + ((zSet h 64 ((Int32.ofInt 15) + a2).toInt.toNat a3).1 64 58)) / (Int32.ofInt 15) * (Int32.ofInt 15))).toInt → ((Int32.ofInt 15) + ((a2 + ((zSet h 64 ((Int32.ofInt 15) + a2).toInt.toNat a3).1 64 58)) - (a2 + ((zSet h 64 ((Int32.ofInt 15) + a2).toInt.toNat a3).1 64 58)) / (Int32.ofInt 15) * (Int32.ofInt 15))).toInt < 62 → (0 ≤ ((Int32.ofInt 15) + ((a2 + ((zSet h 64 ((Int32.ofInt 15) + a2).toInt.toNat a3).1 64 58)) - (a2 + ((zSet h 64 ((Int32.ofInt 15) + a2).toInt.toNat a3).1 64 58)) / (Int32.ofInt 15) * (Int32.ofInt 15))).toInt → ((Int32.ofInt 15) + ((a2 + ((zSet h 64 ((Int32.ofInt 15) + a2).toInt.toNat a3).1 64 58)) - (a2 + ((zSet h 64 ((Int32.ofInt 15) + a2).toInt.toNat a3).1 64 58)) / (Int32.ofInt 15) * (Int32.ofInt 15))).toInt < 62 → Q none (zSet (zSet h 64 ((Int32.ofInt 15) + a2).toInt.toNat a3) 64 ((Int32.ofInt 15) + ((a2 + ((zSet h 64 ((Int32.ofInt 15) + a2).toInt.toNat a3).1 64 58)) - (a2 + ((zSet h 64 ((Int32.ofInt 15) + a2).toInt.toNat a3).1 64 58)) / (Int32.ofInt 15) * (Int32.ofInt 15))).toInt.toNat ((((zSet h 64 ((Int32.ofInt 15) + a2).toInt.toNat a3).1 64 ((Int32.ofInt 15) + ((a2 + ((zSet h 64 ((Int32.ofInt 15) + a2).toInt.toNat a3).1 64 58)) - (a2 + ((zSet h 64 ((Int32.ofInt 15) + a2).toInt.toNat a3).1 64 58)) / (Int32.ofInt 15) * (Int32.ofInt 15))).toInt.toNat) + ((zSet h 64 ((Int32.ofInt 15) + a2).toInt.toNat a3).1 64 59)) - (((zSet h 64 ((Int32.ofInt 15) + a2).toInt.toNat a3).1 64 ((Int32.ofInt 15) + ((a2 + ((zSet h 64 ((Int32.ofInt 15) + a2).toInt.toNat a3).1 64 58)) - (a2 + ((zSet h 64 ((Int32.ofInt 15) + a2).toInt.toNat a3).1 64 58)) / (Int32.ofInt 15) * (Int32.ofInt 15))).toInt.toNat) + ((zSet h 64 ((Int32.ofInt 15) + a2).toInt.toNat a3).1 64 59)) / (Int32.ofInt 4) * (Int32.ofInt 4))))))))) : zqm 167 [.ref 58, .ref 64, .int a2, .int a3] h Q := by
  refine zqm_of zp_167 (fun n => ?_)
  show zQ n 167 0 [some (.ref 58), some (.ref 64), some (.int a2), some (.int a3), none] [] h Q
  refine zQ_seq 5 (pc' := 6) (L' := [some (.ref 58), some (.ref 64), some (.int a2), some (.int a3), none]) (S' := [.int a3, .int ((Int32.ofInt 15) + a2), .ref 64]) (h' := h) zp_167 rfl ?_
  refine zQ_ias (N := 62) zp_167 rfl rfl rfl (fun b1 b1' => ?_)
  refine zQ_seq 2 (pc' := 10) (L' := [some (.ref 58), some (.ref 64), some (.int a2), some (.int a3), none]) (S' := [.int (Int32.ofInt 58), .ref 64]) (h' := (zSet h 64 ((Int32.ofInt 15) + a2).toInt.toNat a3)) zp_167 rfl ?_
  refine zQ_ialk 58 (N := 62) (f := (zSet h 64 ((Int32.ofInt 15) + a2).toInt.toNat a3).1 64) zp_167 rfl rfl kc_58 ?_
  refine zQ_if zp_167 rfl (t := 46) rfl (i := ((zSet h 64 ((Int32.ofInt 15) + a2).toInt.toNat a3).1 64 58).toInt) rfl (fun c2 => ?_) (fun c2 => ?_)
  · exact zQ_retV zp_167 rfl ((H b1 b1').1 c2)
  · refine zQ_seq 3 (pc' := 18) (L' := [some (.ref 58), some (.ref 64), some (.int a2), some (.int a3), none]) (S' := [.int (Int32.ofInt 58), .ref 64, .int a2]) (h' := (zSet h 64 ((Int32.ofInt 15) + a2).toInt.toNat a3)) zp_167 rfl ?_
    refine zQ_ialk 58 (N := 62) (f := (zSet h 64 ((Int32.ofInt 15) + a2).toInt.toNat a3).1 64) zp_167 rfl rfl kc_58 ?_
    refine zQ_seq 2 (pc' := 22) (L' := [some (.ref 58), some (.ref 64), some (.int a2), some (.int a3), none]) (S' := [.int (Int32.ofInt 15), .int (a2 + ((zSet h 64 ((Int32.ofInt 15) + a2).toInt.toNat a3).1 64 58))]) (h' := (zSet h 64 ((Int32.ofInt 15) + a2).toInt.toNat a3)) zp_167 rfl ?_
    refine zQ_rem zp_167 rfl (fun _ => ?_)
    refine zQ_seq 9 (pc' := 37) (L' := [some (.ref 58), some (.ref 64), some (.int a2), some (.int a3), some (.int ((a2 + ((zSet h 64 ((Int32.ofInt 15) + a2).toInt.toNat a3).1 64 58)) - (a2 + ((zSet h 64 ((Int32.ofInt 15) + a2).toInt.toNat a3).1 64 58)) / (Int32.ofInt 15) * (Int32.ofInt 15)))]) (S' := [.int ((Int32.ofInt 15) + ((a2 + ((zSet h 64 ((Int32.ofInt 15) + a2).toInt.toNat a3).1 64 58)) - (a2 + ((zSet h 64 ((Int32.ofInt 15) + a2).toInt.toNat a3).1 64 58)) / (Int32.ofInt 15) * (Int32.ofInt 15))), .ref 64, .int ((Int32.ofInt 15) + ((a2 + ((zSet h 64 ((Int32.ofInt 15) + a2).toInt.toNat a3).1 64 58)) - (a2 + ((zSet h 64 ((Int32.ofInt 15) + a2).toInt.toNat a3).1 64 58)) / (Int32.ofInt 15) * (Int32.ofInt 15))), .ref 64]) (h' := (zSet h 64 ((Int32.ofInt 15) + a2).toInt.toNat a3)) zp_167 rfl ?_
    refine zQ_ial (N := 62) (f := (zSet h 64 ((Int32.ofInt 15) + a2).toInt.toNat a3).1 64) zp_167 rfl rfl rfl (fun b3 b3' => ?_)
    refine zQ_seq 2 (pc' := 41) (L' := [some (.ref 58), some (.ref 64), some (.int a2), some (.int a3), some (.int ((a2 + ((zSet h 64 ((Int32.ofInt 15) + a2).toInt.toNat a3).1 64 58)) - (a2 + ((zSet h 64 ((Int32.ofInt 15) + a2).toInt.toNat a3).1 64 58)) / (Int32.ofInt 15) * (Int32.ofInt 15)))]) (S' := [.int (Int32.ofInt 59), .ref 64, .int ((zSet h 64 ((Int32.ofInt 15) + a2).toInt.toNat a3).1 64 ((Int32.ofInt 15) + ((a2 + ((zSet h 64 ((Int32.ofInt 15) + a2).toInt.toNat a3).1 64 58)) - (a2 + ((zSet h 64 ((Int32.ofInt 15) + a2).toInt.toNat a3).1 64 58)) / (Int32.ofInt 15) * (Int32.ofInt 15))).toInt.toNat), .int ((Int32.ofInt 15) + ((a2 + ((zSet h 64 ((Int32.ofInt 15) + a2).toInt.toNat a3).1 64 58)) - (a2 + ((zSet h 64 ((Int32.ofInt 15) + a2).toInt.toNat a3).1 64 58)) / (Int32.ofInt 15) * (Int32.ofInt 15))), .ref 64]) (h' := (zSet h 64 ((Int32.ofInt 15) + a2).toInt.toNat a3)) zp_167 rfl ?_
    refine zQ_ialk 59 (N := 62) (f := (zSet h 64 ((Int32.ofInt 15) + a2).toInt.toNat a3).1 64) zp_167 rfl rfl kc_59 ?_
    refine zQ_seq 2 (pc' := 44) (L' := [some (.ref 58), some (.ref 64), some (.int a2), some (.int a3), some (.int ((a2 + ((zSet h 64 ((Int32.ofInt 15) + a2).toInt.toNat a3).1 64 58)) - (a2 + ((zSet h 64 ((Int32.ofInt 15) + a2).toInt.toNat a3).1 64 58)) / (Int32.ofInt 15) * (Int32.ofInt 15)))]) (S' := [.int (Int32.ofInt 4), .int (((zSet h 64 ((Int32.ofInt 15) + a2).toInt.toNat a3).1 64 ((Int32.ofInt 15) + ((a2 + ((zSet h 64 ((Int32.ofInt 15) + a2).toInt.toNat a3).1 64 58)) - (a2 + ((zSet h 64 ((Int32.ofInt 15) + a2).toInt.toNat a3).1 64 58)) / (Int32.ofInt 15) * (Int32.ofInt 15))).toInt.toNat) + ((zSet h 64 ((Int32.ofInt 15) + a2).toInt.toNat a3).1 64 59)), .int ((Int32.ofInt 15) + ((a2 + ((zSet h 64 ((Int32.ofInt 15) + a2).toInt.toNat a3).1 64 58)) - (a2 + ((zSet h 64 ((Int32.ofInt 15) + a2).toInt.toNat a3).1 64 58)) / (Int32.ofInt 15) * (Int32.ofInt 15))), .ref 64]) (h' := (zSet h 64 ((Int32.ofInt 15) + a2).toInt.toNat a3)) zp_167 rfl ?_
    refine zQ_rem zp_167 rfl (fun _ => ?_)
    refine zQ_ias (N := 62) zp_167 rfl rfl rfl (fun b4 b4' => ?_)
    exact zQ_retV zp_167 rfl ((((H b1 b1').2 c2) b3 b3') b4 b4')
theorem s_167_58_67 {h : zH} {Q : Option Value → zH → Prop} (a2 : Int32) (a3 : Int32) (H : (0 ≤ ((Int32.ofInt 15) + a2).toInt → ((Int32.ofInt 15) + a2).toInt < 62 → ((((zSet h 67 ((Int32.ofInt 15) + a2).toInt.toNat a3).1 67 58).toInt = 0 → Q none (zSet h 67 ((Int32.ofInt 15) + a2).toInt.toNat a3)) ∧ (¬ (((zSet h 67 ((Int32.ofInt 15) + a2).toInt.toNat a3).1 67 58).toInt = 0) → (0 ≤ ((Int32.ofInt 15) + ((a2 + ((zSet h 67 ((Int32.ofInt 15) + a2).toInt.toNat a3).1 67 58)) - (a2 + ((zSet h 67 ((Int32.ofInt 15) + a2).toInt.toNat a3).1 67 58)) / (Int32.ofInt 15) * (Int32.ofInt 15))).toInt → ((Int32.ofInt 15) + ((a2 + ((zSet h 67 ((Int32.ofInt 15) + a2).toInt.toNat a3).1 67 58)) - (a2 + ((zSet h 67 ((Int32.ofInt 15) + a2).toInt.toNat a3).1 67 58)) / (Int32.ofInt 15) * (Int32.ofInt 15))).toInt < 62 → (0 ≤ ((Int32.ofInt 15) + ((a2 + ((zSet h 67 ((Int32.ofInt 15) + a2).toInt.toNat a3).1 67 58)) - (a2 + ((zSet h 67 ((Int32.ofInt 15) + a2).toInt.toNat a3).1 67 58)) / (Int32.ofInt 15) * (Int32.ofInt 15))).toInt → ((Int32.ofInt 15) + ((a2 + ((zSet h 67 ((Int32.ofInt 15) + a2).toInt.toNat a3).1 67 58)) - (a2 + ((zSet h 67 ((Int32.ofInt 15) + a2).toInt.toNat a3).1 67 58)) / (Int32.ofInt 15) * (Int32.ofInt 15))).toInt < 62 → Q none (zSet (zSet h 67 ((Int32.ofInt 15) + a2).toInt.toNat a3) 67 ((Int32.ofInt 15) + ((a2 + ((zSet h 67 ((Int32.ofInt 15) + a2).toInt.toNat a3).1 67 58)) - (a2 + ((zSet h 67 ((Int32.ofInt 15) + a2).toInt.toNat a3).1 67 58)) / (Int32.ofInt 15) * (Int32.ofInt 15))).toInt.toNat ((((zSet h 67 ((Int32.ofInt 15) + a2).toInt.toNat a3).1 67 ((Int32.ofInt 15) + ((a2 + ((zSet h 67 ((Int32.ofInt 15) + a2).toInt.toNat a3).1 67 58)) - (a2 + ((zSet h 67 ((Int32.ofInt 15) + a2).toInt.toNat a3).1 67 58)) / (Int32.ofInt 15) * (Int32.ofInt 15))).toInt.toNat) + ((zSet h 67 ((Int32.ofInt 15) + a2).toInt.toNat a3).1 67 59)) - (((zSet h 67 ((Int32.ofInt 15) + a2).toInt.toNat a3).1 67 ((Int32.ofInt 15) + ((a2 + ((zSet h 67 ((Int32.ofInt 15) + a2).toInt.toNat a3).1 67 58)) - (a2 + ((zSet h 67 ((Int32.ofInt 15) + a2).toInt.toNat a3).1 67 58)) / (Int32.ofInt 15) * (Int32.ofInt 15))).toInt.toNat) + ((zSet h 67 ((Int32.ofInt 15) + a2).toInt.toNat a3).1 67 59)) / (Int32.ofInt 4) * (Int32.ofInt 4))))))))) : zqm 167 [.ref 58, .ref 67, .int a2, .int a3] h Q := by
  refine zqm_of zp_167 (fun n => ?_)
  show zQ n 167 0 [some (.ref 58), some (.ref 67), some (.int a2), some (.int a3), none] [] h Q
  refine zQ_seq 5 (pc' := 6) (L' := [some (.ref 58), some (.ref 67), some (.int a2), some (.int a3), none]) (S' := [.int a3, .int ((Int32.ofInt 15) + a2), .ref 67]) (h' := h) zp_167 rfl ?_
  refine zQ_ias (N := 62) zp_167 rfl rfl rfl (fun b1 b1' => ?_)
  refine zQ_seq 2 (pc' := 10) (L' := [some (.ref 58), some (.ref 67), some (.int a2), some (.int a3), none]) (S' := [.int (Int32.ofInt 58), .ref 67]) (h' := (zSet h 67 ((Int32.ofInt 15) + a2).toInt.toNat a3)) zp_167 rfl ?_
  refine zQ_ialk 58 (N := 62) (f := (zSet h 67 ((Int32.ofInt 15) + a2).toInt.toNat a3).1 67) zp_167 rfl rfl kc_58 ?_
  refine zQ_if zp_167 rfl (t := 46) rfl (i := ((zSet h 67 ((Int32.ofInt 15) + a2).toInt.toNat a3).1 67 58).toInt) rfl (fun c2 => ?_) (fun c2 => ?_)
  · exact zQ_retV zp_167 rfl ((H b1 b1').1 c2)
  · refine zQ_seq 3 (pc' := 18) (L' := [some (.ref 58), some (.ref 67), some (.int a2), some (.int a3), none]) (S' := [.int (Int32.ofInt 58), .ref 67, .int a2]) (h' := (zSet h 67 ((Int32.ofInt 15) + a2).toInt.toNat a3)) zp_167 rfl ?_
    refine zQ_ialk 58 (N := 62) (f := (zSet h 67 ((Int32.ofInt 15) + a2).toInt.toNat a3).1 67) zp_167 rfl rfl kc_58 ?_
    refine zQ_seq 2 (pc' := 22) (L' := [some (.ref 58), some (.ref 67), some (.int a2), some (.int a3), none]) (S' := [.int (Int32.ofInt 15), .int (a2 + ((zSet h 67 ((Int32.ofInt 15) + a2).toInt.toNat a3).1 67 58))]) (h' := (zSet h 67 ((Int32.ofInt 15) + a2).toInt.toNat a3)) zp_167 rfl ?_
    refine zQ_rem zp_167 rfl (fun _ => ?_)
    refine zQ_seq 9 (pc' := 37) (L' := [some (.ref 58), some (.ref 67), some (.int a2), some (.int a3), some (.int ((a2 + ((zSet h 67 ((Int32.ofInt 15) + a2).toInt.toNat a3).1 67 58)) - (a2 + ((zSet h 67 ((Int32.ofInt 15) + a2).toInt.toNat a3).1 67 58)) / (Int32.ofInt 15) * (Int32.ofInt 15)))]) (S' := [.int ((Int32.ofInt 15) + ((a2 + ((zSet h 67 ((Int32.ofInt 15) + a2).toInt.toNat a3).1 67 58)) - (a2 + ((zSet h 67 ((Int32.ofInt 15) + a2).toInt.toNat a3).1 67 58)) / (Int32.ofInt 15) * (Int32.ofInt 15))), .ref 67, .int ((Int32.ofInt 15) + ((a2 + ((zSet h 67 ((Int32.ofInt 15) + a2).toInt.toNat a3).1 67 58)) - (a2 + ((zSet h 67 ((Int32.ofInt 15) + a2).toInt.toNat a3).1 67 58)) / (Int32.ofInt 15) * (Int32.ofInt 15))), .ref 67]) (h' := (zSet h 67 ((Int32.ofInt 15) + a2).toInt.toNat a3)) zp_167 rfl ?_
    refine zQ_ial (N := 62) (f := (zSet h 67 ((Int32.ofInt 15) + a2).toInt.toNat a3).1 67) zp_167 rfl rfl rfl (fun b3 b3' => ?_)
    refine zQ_seq 2 (pc' := 41) (L' := [some (.ref 58), some (.ref 67), some (.int a2), some (.int a3), some (.int ((a2 + ((zSet h 67 ((Int32.ofInt 15) + a2).toInt.toNat a3).1 67 58)) - (a2 + ((zSet h 67 ((Int32.ofInt 15) + a2).toInt.toNat a3).1 67 58)) / (Int32.ofInt 15) * (Int32.ofInt 15)))]) (S' := [.int (Int32.ofInt 59), .ref 67, .int ((zSet h 67 ((Int32.ofInt 15) + a2).toInt.toNat a3).1 67 ((Int32.ofInt 15) + ((a2 + ((zSet h 67 ((Int32.ofInt 15) + a2).toInt.toNat a3).1 67 58)) - (a2 + ((zSet h 67 ((Int32.ofInt 15) + a2).toInt.toNat a3).1 67 58)) / (Int32.ofInt 15) * (Int32.ofInt 15))).toInt.toNat), .int ((Int32.ofInt 15) + ((a2 + ((zSet h 67 ((Int32.ofInt 15) + a2).toInt.toNat a3).1 67 58)) - (a2 + ((zSet h 67 ((Int32.ofInt 15) + a2).toInt.toNat a3).1 67 58)) / (Int32.ofInt 15) * (Int32.ofInt 15))), .ref 67]) (h' := (zSet h 67 ((Int32.ofInt 15) + a2).toInt.toNat a3)) zp_167 rfl ?_
    refine zQ_ialk 59 (N := 62) (f := (zSet h 67 ((Int32.ofInt 15) + a2).toInt.toNat a3).1 67) zp_167 rfl rfl kc_59 ?_
    refine zQ_seq 2 (pc' := 44) (L' := [some (.ref 58), some (.ref 67), some (.int a2), some (.int a3), some (.int ((a2 + ((zSet h 67 ((Int32.ofInt 15) + a2).toInt.toNat a3).1 67 58)) - (a2 + ((zSet h 67 ((Int32.ofInt 15) + a2).toInt.toNat a3).1 67 58)) / (Int32.ofInt 15) * (Int32.ofInt 15)))]) (S' := [.int (Int32.ofInt 4), .int (((zSet h 67 ((Int32.ofInt 15) + a2).toInt.toNat a3).1 67 ((Int32.ofInt 15) + ((a2 + ((zSet h 67 ((Int32.ofInt 15) + a2).toInt.toNat a3).1 67 58)) - (a2 + ((zSet h 67 ((Int32.ofInt 15) + a2).toInt.toNat a3).1 67 58)) / (Int32.ofInt 15) * (Int32.ofInt 15))).toInt.toNat) + ((zSet h 67 ((Int32.ofInt 15) + a2).toInt.toNat a3).1 67 59)), .int ((Int32.ofInt 15) + ((a2 + ((zSet h 67 ((Int32.ofInt 15) + a2).toInt.toNat a3).1 67 58)) - (a2 + ((zSet h 67 ((Int32.ofInt 15) + a2).toInt.toNat a3).1 67 58)) / (Int32.ofInt 15) * (Int32.ofInt 15))), .ref 67]) (h' := (zSet h 67 ((Int32.ofInt 15) + a2).toInt.toNat a3)) zp_167 rfl ?_
    refine zQ_rem zp_167 rfl (fun _ => ?_)
    refine zQ_ias (N := 62) zp_167 rfl rfl rfl (fun b4 b4' => ?_)
    exact zQ_retV zp_167 rfl ((((H b1 b1').2 c2) b3 b3') b4 b4')
theorem s_168 {h : zH} {Q : Option Value → zH → Prop} (a1 : Int32) (a2 : Int32) (H : zqm 150 [.ref 58] h (fun rv h1 => zri rv (fun v1 => ((¬ v1.toInt = 0 → zqm 151 [.int a1] h1 (fun rv h3 => zri rv (fun v3 => ((v3.toInt = 0 → Q (some (.int (-1000001 : Int32))) h3) ∧ (¬ (v3.toInt = 0) → zqm 121 [.int a2, .int (Int32.ofInt 0), .int (Int32.ofInt 3)] h3 (fun rv h5 => zri rv (fun v5 => ((¬ v5.toInt = 0 → (0 ≤ ((Int32.ofInt 15) + a1).toInt → ((Int32.ofInt 15) + a1).toInt < 62 → ((¬ (h5.1 64 ((Int32.ofInt 15) + a1).toInt.toNat).toInt = a2.toInt → zqm 148 [.ref 58] h5 (fun _ h9 => zqm 167 [.ref 58, .ref 64, .int a1, .int a2] h9 (fun _ h10 => zqm 156 [.ref 58, .ref 64] h10 (fun rv h11 => zri rv (fun v11 => Q (some (.int v11)) h11))))) ∧ (¬ (¬ (h5.1 64 ((Int32.ofInt 15) + a1).toInt.toNat).toInt = a2.toInt) → Q (some (.int (-1000002 : Int32))) h5)))) ∧ (¬ (¬ v5.toInt = 0) → Q (some (.int (-1000001 : Int32))) h5))))))))) ∧ (¬ (¬ v1.toInt = 0) → Q (some (.int (-1000002 : Int32))) h1))))) : zqm 168 [.ref 58, .int a1, .int a2] h Q := by
  refine zqm_of zp_168 (fun n => ?_)
  show zQ n 168 0 [some (.ref 58), some (.int a1), some (.int a2)] [] h Q
  refine zQ_seq 1 (pc' := 1) (L' := [some (.ref 58), some (.int a1), some (.int a2)]) (S' := [.ref 58]) (h' := h) zp_168 rfl ?_
  refine zQ_cvI (M' := 150) (as := [.ref 58]) (S' := []) zp_168 rfl rfl zp_150 (Or.inr rfl) rfl rfl (zqm_imp H (fun rv h1 r1 => zri_imp r1 (fun v1 r1' => ?_)))
  refine zQ_if zp_168 rfl (t := 10) rfl (i := v1.toInt) rfl (fun c2 => ?_) (fun c2 => ?_)
  · refine zQ_seq 1 (pc' := 11) (L' := [some (.ref 58), some (.int a1), some (.int a2)]) (S' := [.int a1]) (h' := h1) zp_168 rfl ?_
    refine zQ_csI (M' := 151) (as := [.int a1]) (S' := []) zp_168 rfl rfl rfl zp_151 (Or.inr rfl) rfl rfl (zqm_imp (r1'.1 c2) (fun rv h3 r3 => zri_imp r3 (fun v3 r3' => ?_)))
    refine zQ_if zp_168 rfl (t := 26) rfl (i := v3.toInt) rfl (fun c4 => ?_) (fun c4 => ?_)
    · refine zQ_seq 1 (pc' := 28) (L' := [some (.ref 58), some (.int a1), some (.int a2)]) (S' := [.int (-1000001 : Int32)]) (h' := h3) zp_168 rfl ?_
      exact zQ_retI zp_168 rfl (r3'.1 c4)
    · refine zQ_seq 3 (pc' := 20) (L' := [some (.ref 58), some (.int a1), some (.int a2)]) (S' := [.int (Int32.ofInt 3), .int (Int32.ofInt 0), .int a2]) (h' := h3) zp_168 rfl ?_
      refine zQ_csI (M' := 121) (as := [.int a2, .int (Int32.ofInt 0), .int (Int32.ofInt 3)]) (S' := []) zp_168 rfl rfl rfl zp_121 (Or.inr rfl) rfl rfl (zqm_imp (r3'.2 c4) (fun rv h5 r5 => zri_imp r5 (fun v5 r5' => ?_)))
      refine zQ_if zp_168 rfl (t := 29) rfl (i := v5.toInt) rfl (fun c6 => ?_) (fun c6 => ?_)
      · refine zQ_seq 5 (pc' := 37) (L' := [some (.ref 58), some (.int a1), some (.int a2)]) (S' := [.int ((Int32.ofInt 15) + a1), .ref 64]) (h' := h5) zp_168 rfl ?_
        refine zQ_ial (N := 62) (f := h5.1 64) zp_168 rfl rfl rfl (fun b7 b7' => ?_)
        refine zQ_seq 1 (pc' := 39) (L' := [some (.ref 58), some (.int a1), some (.int a2)]) (S' := [.int a2, .int (h5.1 64 ((Int32.ofInt 15) + a1).toInt.toNat)]) (h' := h5) zp_168 rfl ?_
        refine zQ_ic zp_168 rfl (t := 45) rfl (i := (h5.1 64 ((Int32.ofInt 15) + a1).toInt.toNat).toInt) (j := a2.toInt) rfl rfl (fun c8 => ?_) (fun c8 => ?_)
        · refine zQ_seq 1 (pc' := 46) (L' := [some (.ref 58), some (.int a1), some (.int a2)]) (S' := [.ref 58]) (h' := h5) zp_168 rfl ?_
          refine zQ_cvV (M' := 148) (as := [.ref 58]) (S' := []) zp_168 rfl rfl zp_148 rfl rfl rfl (zqm_imp (((r5'.1 c6) b7 b7').1 c8) (fun rv h9 r9 => ?_))
          refine zQ_seq 5 (pc' := 56) (L' := [some (.ref 58), some (.int a1), some (.int a2)]) (S' := [.int a2, .int a1, .ref 64, .ref 58]) (h' := h9) zp_168 rfl ?_
          refine zQ_cvV (M' := 167) (as := [.ref 58, .ref 64, .int a1, .int a2]) (S' := []) zp_168 rfl rfl zp_167 rfl rfl rfl (zqm_imp r9 (fun rv h10 r10 => ?_))
          refine zQ_seq 3 (pc' := 64) (L' := [some (.ref 58), some (.int a1), some (.int a2)]) (S' := [.ref 64, .ref 58]) (h' := h10) zp_168 rfl ?_
          refine zQ_cvI (M' := 156) (as := [.ref 58, .ref 64]) (S' := []) zp_168 rfl rfl zp_156 (Or.inl rfl) rfl rfl (zqm_imp r10 (fun rv h11 r11 => zri_imp r11 (fun v11 r11' => ?_)))
          exact zQ_retI zp_168 rfl r11'
        · refine zQ_seq 1 (pc' := 44) (L' := [some (.ref 58), some (.int a1), some (.int a2)]) (S' := [.int (-1000002 : Int32)]) (h' := h5) zp_168 rfl ?_
          exact zQ_retI zp_168 rfl (((r5'.1 c6) b7 b7').2 c8)
      · refine zQ_seq 1 (pc' := 28) (L' := [some (.ref 58), some (.int a1), some (.int a2)]) (S' := [.int (-1000001 : Int32)]) (h' := h5) zp_168 rfl ?_
        exact zQ_retI zp_168 rfl (r5'.2 c6)
  · refine zQ_seq 1 (pc' := 9) (L' := [some (.ref 58), some (.int a1), some (.int a2)]) (S' := [.int (-1000002 : Int32)]) (h' := h1) zp_168 rfl ?_
    exact zQ_retI zp_168 rfl (r1'.2 c2)
theorem s_169_64 {h : zH} {Q : Option Value → zH → Prop} (a1 : Int32) (H : (0 ≤ ((Int32.ofInt 0) + a1).toInt → ((Int32.ofInt 0) + a1).toInt < 62 → (0 ≤ ((Int32.ofInt 0) + a1).toInt → ((Int32.ofInt 0) + a1).toInt < 62 → Q none (zSet h 64 ((Int32.ofInt 0) + a1).toInt.toNat (((h.1 64 ((Int32.ofInt 0) + a1).toInt.toNat) + (Int32.ofInt 1)) - ((h.1 64 ((Int32.ofInt 0) + a1).toInt.toNat) + (Int32.ofInt 1)) / (Int32.ofInt 4) * (Int32.ofInt 4)))))) : zqm 169 [.ref 64, .int a1] h Q := by
  refine zqm_of zp_169 (fun n => ?_)
  show zQ n 169 0 [some (.ref 64), some (.int a1)] [] h Q
  refine zQ_seq 8 (pc' := 8) (L' := [some (.ref 64), some (.int a1)]) (S' := [.int ((Int32.ofInt 0) + a1), .ref 64, .int ((Int32.ofInt 0) + a1), .ref 64]) (h' := h) zp_169 rfl ?_
  refine zQ_ial (N := 62) (f := h.1 64) zp_169 rfl rfl rfl (fun b1 b1' => ?_)
  refine zQ_seq 3 (pc' := 12) (L' := [some (.ref 64), some (.int a1)]) (S' := [.int (Int32.ofInt 4), .int ((h.1 64 ((Int32.ofInt 0) + a1).toInt.toNat) + (Int32.ofInt 1)), .int ((Int32.ofInt 0) + a1), .ref 64]) (h' := h) zp_169 rfl ?_
  refine zQ_rem zp_169 rfl (fun _ => ?_)
  refine zQ_ias (N := 62) zp_169 rfl rfl rfl (fun b2 b2' => ?_)
  exact zQ_retV zp_169 rfl ((H b1 b1') b2 b2')
theorem s_169_67 {h : zH} {Q : Option Value → zH → Prop} (a1 : Int32) (H : (0 ≤ ((Int32.ofInt 0) + a1).toInt → ((Int32.ofInt 0) + a1).toInt < 62 → (0 ≤ ((Int32.ofInt 0) + a1).toInt → ((Int32.ofInt 0) + a1).toInt < 62 → Q none (zSet h 67 ((Int32.ofInt 0) + a1).toInt.toNat (((h.1 67 ((Int32.ofInt 0) + a1).toInt.toNat) + (Int32.ofInt 1)) - ((h.1 67 ((Int32.ofInt 0) + a1).toInt.toNat) + (Int32.ofInt 1)) / (Int32.ofInt 4) * (Int32.ofInt 4)))))) : zqm 169 [.ref 67, .int a1] h Q := by
  refine zqm_of zp_169 (fun n => ?_)
  show zQ n 169 0 [some (.ref 67), some (.int a1)] [] h Q
  refine zQ_seq 8 (pc' := 8) (L' := [some (.ref 67), some (.int a1)]) (S' := [.int ((Int32.ofInt 0) + a1), .ref 67, .int ((Int32.ofInt 0) + a1), .ref 67]) (h' := h) zp_169 rfl ?_
  refine zQ_ial (N := 62) (f := h.1 67) zp_169 rfl rfl rfl (fun b1 b1' => ?_)
  refine zQ_seq 3 (pc' := 12) (L' := [some (.ref 67), some (.int a1)]) (S' := [.int (Int32.ofInt 4), .int ((h.1 67 ((Int32.ofInt 0) + a1).toInt.toNat) + (Int32.ofInt 1)), .int ((Int32.ofInt 0) + a1), .ref 67]) (h' := h) zp_169 rfl ?_
  refine zQ_rem zp_169 rfl (fun _ => ?_)
  refine zQ_ias (N := 62) zp_169 rfl rfl rfl (fun b2 b2' => ?_)
  exact zQ_retV zp_169 rfl ((H b1 b1') b2 b2')
theorem s_170 {h : zH} {Q : Option Value → zH → Prop} (a1 : Int32) (H : zqm 150 [.ref 58] h (fun rv h1 => zri rv (fun v1 => ((¬ v1.toInt = 0 → zqm 151 [.int a1] h1 (fun rv h3 => zri rv (fun v3 => ((¬ v3.toInt = 0 → zqm 148 [.ref 58] h3 (fun _ h5 => zqm 169 [.ref 64, .int a1] h5 (fun _ h6 => (0 ≤ ((Int32.ofInt 0) + a1).toInt → ((Int32.ofInt 0) + a1).toInt < 62 → Q (some (.int (h6.1 64 ((Int32.ofInt 0) + a1).toInt.toNat))) h6)))) ∧ (¬ (¬ v3.toInt = 0) → Q (some (.int (-1000001 : Int32))) h3))))) ∧ (¬ (¬ v1.toInt = 0) → Q (some (.int (-1000002 : Int32))) h1))))) : zqm 170 [.ref 58, .int a1] h Q := by
  refine zqm_of zp_170 (fun n => ?_)
  show zQ n 170 0 [some (.ref 58), some (.int a1)] [] h Q
  refine zQ_seq 1 (pc' := 1) (L' := [some (.ref 58), some (.int a1)]) (S' := [.ref 58]) (h' := h) zp_170 rfl ?_
  refine zQ_cvI (M' := 150) (as := [.ref 58]) (S' := []) zp_170 rfl rfl zp_150 (Or.inr rfl) rfl rfl (zqm_imp H (fun rv h1 r1 => zri_imp r1 (fun v1 r1' => ?_)))
  refine zQ_if zp_170 rfl (t := 10) rfl (i := v1.toInt) rfl (fun c2 => ?_) (fun c2 => ?_)
  · refine zQ_seq 1 (pc' := 11) (L' := [some (.ref 58), some (.int a1)]) (S' := [.int a1]) (h' := h1) zp_170 rfl ?_
    refine zQ_csI (M' := 151) (as := [.int a1]) (S' := []) zp_170 rfl rfl rfl zp_151 (Or.inr rfl) rfl rfl (zqm_imp (r1'.1 c2) (fun rv h3 r3 => zri_imp r3 (fun v3 r3' => ?_)))
    refine zQ_if zp_170 rfl (t := 20) rfl (i := v3.toInt) rfl (fun c4 => ?_) (fun c4 => ?_)
    · refine zQ_seq 1 (pc' := 21) (L' := [some (.ref 58), some (.int a1)]) (S' := [.ref 58]) (h' := h3) zp_170 rfl ?_
      refine zQ_cvV (M' := 148) (as := [.ref 58]) (S' := []) zp_170 rfl rfl zp_148 rfl rfl rfl (zqm_imp (r3'.1 c4) (fun rv h5 r5 => ?_))
      refine zQ_seq 3 (pc' := 29) (L' := [some (.ref 58), some (.int a1)]) (S' := [.int a1, .ref 64]) (h' := h5) zp_170 rfl ?_
      refine zQ_csV (M' := 169) (as := [.ref 64, .int a1]) (S' := []) zp_170 rfl rfl rfl zp_169 rfl rfl rfl (zqm_imp r5 (fun rv h6 r6 => ?_))
      refine zQ_seq 5 (pc' := 39) (L' := [some (.ref 58), some (.int a1)]) (S' := [.int ((Int32.ofInt 0) + a1), .ref 64]) (h' := h6) zp_170 rfl ?_
      refine zQ_ial (N := 62) (f := h6.1 64) zp_170 rfl rfl rfl (fun b7 b7' => ?_)
      exact zQ_retI zp_170 rfl (r6 b7 b7')
    · refine zQ_seq 1 (pc' := 19) (L' := [some (.ref 58), some (.int a1)]) (S' := [.int (-1000001 : Int32)]) (h' := h3) zp_170 rfl ?_
      exact zQ_retI zp_170 rfl (r3'.2 c4)
  · refine zQ_seq 1 (pc' := 9) (L' := [some (.ref 58), some (.int a1)]) (S' := [.int (-1000002 : Int32)]) (h' := h1) zp_170 rfl ?_
    exact zQ_retI zp_170 rfl (r1'.2 c2)
theorem s_171_64 {h : zH} {Q : Option Value → zH → Prop} (a1 : Int32) (a2 : Int32) (H : (∀ n, zQ n 171 5 [some (.ref 64), some (.int a1), some (.int a2), some (.int (Int32.ofInt 0)), some (.int (Int32.ofInt 0))] [] h Q)) : zqm 171 [.ref 64, .int a1, .int a2] h Q := by
  refine zqm_of zp_171 (fun n => ?_)
  have H := H n
  show zQ n 171 0 [some (.ref 64), some (.int a1), some (.int a2), none, none] [] h Q
  refine zQ_seq 4 (pc' := 5) (L' := [some (.ref 64), some (.int a1), some (.int a2), some (.int (Int32.ofInt 0)), some (.int (Int32.ofInt 0))]) (S' := []) (h' := h) zp_171 rfl ?_
  exact H
theorem s_171_64_5 {n : Nat} {h : zH} {Q : Option Value → zH → Prop} (x1 : Int32) (x2 : Int32) (x3 : Int32) (x4 : Int32) (H : (((15 : Int) ≤ x4.toInt → Q (some (.int x3)) h) ∧ (¬ ((15 : Int) ≤ x4.toInt) → ((x2.toInt ≤ x3.toInt → Q (some (.int x3)) h) ∧ (¬ (x2.toInt ≤ x3.toInt) → (0 ≤ ((Int32.ofInt 30) + x4).toInt → ((Int32.ofInt 30) + x4).toInt < 62 → ((¬ (h.1 64 ((Int32.ofInt 30) + x4).toInt.toNat).toInt = x1.toInt → zQ n 171 5 [some (.ref 64), some (.int x1), some (.int x2), some (.int x3), some (.int (x4 + Int32.ofInt 1))] [] h Q) ∧ (¬ (¬ (h.1 64 ((Int32.ofInt 30) + x4).toInt.toNat).toInt = x1.toInt) → (0 ≤ ((Int32.ofInt 0) + x4).toInt → ((Int32.ofInt 0) + x4).toInt < 62 → (0 ≤ ((Int32.ofInt 15) + x4).toInt → ((Int32.ofInt 15) + x4).toInt < 62 → (((h.1 64 ((Int32.ofInt 0) + x4).toInt.toNat).toInt = (h.1 64 ((Int32.ofInt 15) + x4).toInt.toNat).toInt → zQ n 171 5 [some (.ref 64), some (.int x1), some (.int x2), some (.int x3), some (.int (x4 + Int32.ofInt 1))] [] h Q) ∧ (¬ ((h.1 64 ((Int32.ofInt 0) + x4).toInt.toNat).toInt = (h.1 64 ((Int32.ofInt 15) + x4).toInt.toNat).toInt) → (0 ≤ ((Int32.ofInt 15) + x4).toInt → ((Int32.ofInt 15) + x4).toInt < 62 → (0 ≤ ((Int32.ofInt 0) + x4).toInt → ((Int32.ofInt 0) + x4).toInt < 62 → zQ n 171 5 [some (.ref 64), some (.int x1), some (.int x2), some (.int (x3 + Int32.ofInt 1)), some (.int (x4 + Int32.ofInt 1))] [] (zSet h 64 ((Int32.ofInt 0) + x4).toInt.toNat (h.1 64 ((Int32.ofInt 15) + x4).toInt.toNat)) Q)))))))))))))) : zQ (n + 1) 171 5 [some (.ref 64), some (.int x1), some (.int x2), some (.int x3), some (.int x4)] [] h Q := by
  refine zQ_seqL 1 (pc' := 9) (L' := [some (.ref 64), some (.int x1), some (.int x2), some (.int x3), some (.int x4)]) (S' := [.int (Int32.ofInt 15), .int x4]) (h' := h) zp_171 rfl ?_
  refine zQ_ic zp_171 rfl (t := 66) rfl (i := x4.toInt) (j := (15 : Int)) rfl kc_15 (fun c1 => ?_) (fun c1 => ?_)
  · refine zQ_seq 1 (pc' := 67) (L' := [some (.ref 64), some (.int x1), some (.int x2), some (.int x3), some (.int x4)]) (S' := [.int x3]) (h' := h) zp_171 rfl ?_
    exact zQ_retI zp_171 rfl (H.1 c1)
  · refine zQ_seq 2 (pc' := 14) (L' := [some (.ref 64), some (.int x1), some (.int x2), some (.int x3), some (.int x4)]) (S' := [.int x2, .int x3]) (h' := h) zp_171 rfl ?_
    refine zQ_ic zp_171 rfl (t := 66) rfl (i := x3.toInt) (j := x2.toInt) rfl rfl (fun c2 => ?_) (fun c2 => ?_)
    · refine zQ_seq 1 (pc' := 67) (L' := [some (.ref 64), some (.int x1), some (.int x2), some (.int x3), some (.int x4)]) (S' := [.int x3]) (h' := h) zp_171 rfl ?_
      exact zQ_retI zp_171 rfl ((H.2 c1).1 c2)
    · refine zQ_seq 4 (pc' := 23) (L' := [some (.ref 64), some (.int x1), some (.int x2), some (.int x3), some (.int x4)]) (S' := [.int ((Int32.ofInt 30) + x4), .ref 64]) (h' := h) zp_171 rfl ?_
      refine zQ_ial (N := 62) (f := h.1 64) zp_171 rfl rfl rfl (fun b3 b3' => ?_)
      refine zQ_seq 1 (pc' := 25) (L' := [some (.ref 64), some (.int x1), some (.int x2), some (.int x3), some (.int x4)]) (S' := [.int x1, .int (h.1 64 ((Int32.ofInt 30) + x4).toInt.toNat)]) (h' := h) zp_171 rfl ?_
      refine zQ_ic zp_171 rfl (t := 60) rfl (i := (h.1 64 ((Int32.ofInt 30) + x4).toInt.toNat).toInt) (j := x1.toInt) rfl rfl (fun c4 => ?_) (fun c4 => ?_)
      · refine zQ_seq 1 (pc' := 63) (L' := [some (.ref 64), some (.int x1), some (.int x2), some (.int x3), some (.int (x4 + Int32.ofInt 1))]) (S' := []) (h' := h) zp_171 rfl ?_
        refine zQ_goto zp_171 rfl (t := 5) rfl ?_
        exact ((((H.2 c1).2 c2) b3 b3').1 c4)
      · refine zQ_seq 4 (pc' := 33) (L' := [some (.ref 64), some (.int x1), some (.int x2), some (.int x3), some (.int x4)]) (S' := [.int ((Int32.ofInt 0) + x4), .ref 64]) (h' := h) zp_171 rfl ?_
        refine zQ_ial (N := 62) (f := h.1 64) zp_171 rfl rfl rfl (fun b5 b5' => ?_)
        refine zQ_seq 4 (pc' := 40) (L' := [some (.ref 64), some (.int x1), some (.int x2), some (.int x3), some (.int x4)]) (S' := [.int ((Int32.ofInt 15) + x4), .ref 64, .int (h.1 64 ((Int32.ofInt 0) + x4).toInt.toNat)]) (h' := h) zp_171 rfl ?_
        refine zQ_ial (N := 62) (f := h.1 64) zp_171 rfl rfl rfl (fun b6 b6' => ?_)
        refine zQ_ic zp_171 rfl (t := 60) rfl (i := (h.1 64 ((Int32.ofInt 0) + x4).toInt.toNat).toInt) (j := (h.1 64 ((Int32.ofInt 15) + x4).toInt.toNat).toInt) rfl rfl (fun c7 => ?_) (fun c7 => ?_)
        · refine zQ_seq 1 (pc' := 63) (L' := [some (.ref 64), some (.int x1), some (.int x2), some (.int x3), some (.int (x4 + Int32.ofInt 1))]) (S' := []) (h' := h) zp_171 rfl ?_
          refine zQ_goto zp_171 rfl (t := 5) rfl ?_
          exact (((((((H.2 c1).2 c2) b3 b3').2 c4) b5 b5') b6 b6').1 c7)
        · refine zQ_seq 8 (pc' := 55) (L' := [some (.ref 64), some (.int x1), some (.int x2), some (.int x3), some (.int x4)]) (S' := [.int ((Int32.ofInt 15) + x4), .ref 64, .int ((Int32.ofInt 0) + x4), .ref 64]) (h' := h) zp_171 rfl ?_
          refine zQ_ial (N := 62) (f := h.1 64) zp_171 rfl rfl rfl (fun b8 b8' => ?_)
          refine zQ_ias (N := 62) zp_171 rfl rfl rfl (fun b9 b9' => ?_)
          refine zQ_seq 2 (pc' := 63) (L' := [some (.ref 64), some (.int x1), some (.int x2), some (.int (x3 + Int32.ofInt 1)), some (.int (x4 + Int32.ofInt 1))]) (S' := []) (h' := (zSet h 64 ((Int32.ofInt 0) + x4).toInt.toNat (h.1 64 ((Int32.ofInt 15) + x4).toInt.toNat))) zp_171 rfl ?_
          refine zQ_goto zp_171 rfl (t := 5) rfl ?_
          exact (((((((((H.2 c1).2 c2) b3 b3').2 c4) b5 b5') b6 b6').2 c7) b8 b8') b9 b9')
theorem s_171_67 {h : zH} {Q : Option Value → zH → Prop} (a1 : Int32) (a2 : Int32) (H : (∀ n, zQ n 171 5 [some (.ref 67), some (.int a1), some (.int a2), some (.int (Int32.ofInt 0)), some (.int (Int32.ofInt 0))] [] h Q)) : zqm 171 [.ref 67, .int a1, .int a2] h Q := by
  refine zqm_of zp_171 (fun n => ?_)
  have H := H n
  show zQ n 171 0 [some (.ref 67), some (.int a1), some (.int a2), none, none] [] h Q
  refine zQ_seq 4 (pc' := 5) (L' := [some (.ref 67), some (.int a1), some (.int a2), some (.int (Int32.ofInt 0)), some (.int (Int32.ofInt 0))]) (S' := []) (h' := h) zp_171 rfl ?_
  exact H
theorem s_171_67_5 {n : Nat} {h : zH} {Q : Option Value → zH → Prop} (x1 : Int32) (x2 : Int32) (x3 : Int32) (x4 : Int32) (H : (((15 : Int) ≤ x4.toInt → Q (some (.int x3)) h) ∧ (¬ ((15 : Int) ≤ x4.toInt) → ((x2.toInt ≤ x3.toInt → Q (some (.int x3)) h) ∧ (¬ (x2.toInt ≤ x3.toInt) → (0 ≤ ((Int32.ofInt 30) + x4).toInt → ((Int32.ofInt 30) + x4).toInt < 62 → ((¬ (h.1 67 ((Int32.ofInt 30) + x4).toInt.toNat).toInt = x1.toInt → zQ n 171 5 [some (.ref 67), some (.int x1), some (.int x2), some (.int x3), some (.int (x4 + Int32.ofInt 1))] [] h Q) ∧ (¬ (¬ (h.1 67 ((Int32.ofInt 30) + x4).toInt.toNat).toInt = x1.toInt) → (0 ≤ ((Int32.ofInt 0) + x4).toInt → ((Int32.ofInt 0) + x4).toInt < 62 → (0 ≤ ((Int32.ofInt 15) + x4).toInt → ((Int32.ofInt 15) + x4).toInt < 62 → (((h.1 67 ((Int32.ofInt 0) + x4).toInt.toNat).toInt = (h.1 67 ((Int32.ofInt 15) + x4).toInt.toNat).toInt → zQ n 171 5 [some (.ref 67), some (.int x1), some (.int x2), some (.int x3), some (.int (x4 + Int32.ofInt 1))] [] h Q) ∧ (¬ ((h.1 67 ((Int32.ofInt 0) + x4).toInt.toNat).toInt = (h.1 67 ((Int32.ofInt 15) + x4).toInt.toNat).toInt) → (0 ≤ ((Int32.ofInt 15) + x4).toInt → ((Int32.ofInt 15) + x4).toInt < 62 → (0 ≤ ((Int32.ofInt 0) + x4).toInt → ((Int32.ofInt 0) + x4).toInt < 62 → zQ n 171 5 [some (.ref 67), some (.int x1), some (.int x2), some (.int (x3 + Int32.ofInt 1)), some (.int (x4 + Int32.ofInt 1))] [] (zSet h 67 ((Int32.ofInt 0) + x4).toInt.toNat (h.1 67 ((Int32.ofInt 15) + x4).toInt.toNat)) Q)))))))))))))) : zQ (n + 1) 171 5 [some (.ref 67), some (.int x1), some (.int x2), some (.int x3), some (.int x4)] [] h Q := by
  refine zQ_seqL 1 (pc' := 9) (L' := [some (.ref 67), some (.int x1), some (.int x2), some (.int x3), some (.int x4)]) (S' := [.int (Int32.ofInt 15), .int x4]) (h' := h) zp_171 rfl ?_
  refine zQ_ic zp_171 rfl (t := 66) rfl (i := x4.toInt) (j := (15 : Int)) rfl kc_15 (fun c1 => ?_) (fun c1 => ?_)
  · refine zQ_seq 1 (pc' := 67) (L' := [some (.ref 67), some (.int x1), some (.int x2), some (.int x3), some (.int x4)]) (S' := [.int x3]) (h' := h) zp_171 rfl ?_
    exact zQ_retI zp_171 rfl (H.1 c1)
  · refine zQ_seq 2 (pc' := 14) (L' := [some (.ref 67), some (.int x1), some (.int x2), some (.int x3), some (.int x4)]) (S' := [.int x2, .int x3]) (h' := h) zp_171 rfl ?_
    refine zQ_ic zp_171 rfl (t := 66) rfl (i := x3.toInt) (j := x2.toInt) rfl rfl (fun c2 => ?_) (fun c2 => ?_)
    · refine zQ_seq 1 (pc' := 67) (L' := [some (.ref 67), some (.int x1), some (.int x2), some (.int x3), some (.int x4)]) (S' := [.int x3]) (h' := h) zp_171 rfl ?_
      exact zQ_retI zp_171 rfl ((H.2 c1).1 c2)
    · refine zQ_seq 4 (pc' := 23) (L' := [some (.ref 67), some (.int x1), some (.int x2), some (.int x3), some (.int x4)]) (S' := [.int ((Int32.ofInt 30) + x4), .ref 67]) (h' := h) zp_171 rfl ?_
      refine zQ_ial (N := 62) (f := h.1 67) zp_171 rfl rfl rfl (fun b3 b3' => ?_)
      refine zQ_seq 1 (pc' := 25) (L' := [some (.ref 67), some (.int x1), some (.int x2), some (.int x3), some (.int x4)]) (S' := [.int x1, .int (h.1 67 ((Int32.ofInt 30) + x4).toInt.toNat)]) (h' := h) zp_171 rfl ?_
      refine zQ_ic zp_171 rfl (t := 60) rfl (i := (h.1 67 ((Int32.ofInt 30) + x4).toInt.toNat).toInt) (j := x1.toInt) rfl rfl (fun c4 => ?_) (fun c4 => ?_)
      · refine zQ_seq 1 (pc' := 63) (L' := [some (.ref 67), some (.int x1), some (.int x2), some (.int x3), some (.int (x4 + Int32.ofInt 1))]) (S' := []) (h' := h) zp_171 rfl ?_
        refine zQ_goto zp_171 rfl (t := 5) rfl ?_
        exact ((((H.2 c1).2 c2) b3 b3').1 c4)
      · refine zQ_seq 4 (pc' := 33) (L' := [some (.ref 67), some (.int x1), some (.int x2), some (.int x3), some (.int x4)]) (S' := [.int ((Int32.ofInt 0) + x4), .ref 67]) (h' := h) zp_171 rfl ?_
        refine zQ_ial (N := 62) (f := h.1 67) zp_171 rfl rfl rfl (fun b5 b5' => ?_)
        refine zQ_seq 4 (pc' := 40) (L' := [some (.ref 67), some (.int x1), some (.int x2), some (.int x3), some (.int x4)]) (S' := [.int ((Int32.ofInt 15) + x4), .ref 67, .int (h.1 67 ((Int32.ofInt 0) + x4).toInt.toNat)]) (h' := h) zp_171 rfl ?_
        refine zQ_ial (N := 62) (f := h.1 67) zp_171 rfl rfl rfl (fun b6 b6' => ?_)
        refine zQ_ic zp_171 rfl (t := 60) rfl (i := (h.1 67 ((Int32.ofInt 0) + x4).toInt.toNat).toInt) (j := (h.1 67 ((Int32.ofInt 15) + x4).toInt.toNat).toInt) rfl rfl (fun c7 => ?_) (fun c7 => ?_)
        · refine zQ_seq 1 (pc' := 63) (L' := [some (.ref 67), some (.int x1), some (.int x2), some (.int x3), some (.int (x4 + Int32.ofInt 1))]) (S' := []) (h' := h) zp_171 rfl ?_
          refine zQ_goto zp_171 rfl (t := 5) rfl ?_
          exact (((((((H.2 c1).2 c2) b3 b3').2 c4) b5 b5') b6 b6').1 c7)
        · refine zQ_seq 8 (pc' := 55) (L' := [some (.ref 67), some (.int x1), some (.int x2), some (.int x3), some (.int x4)]) (S' := [.int ((Int32.ofInt 15) + x4), .ref 67, .int ((Int32.ofInt 0) + x4), .ref 67]) (h' := h) zp_171 rfl ?_
          refine zQ_ial (N := 62) (f := h.1 67) zp_171 rfl rfl rfl (fun b8 b8' => ?_)
          refine zQ_ias (N := 62) zp_171 rfl rfl rfl (fun b9 b9' => ?_)
          refine zQ_seq 2 (pc' := 63) (L' := [some (.ref 67), some (.int x1), some (.int x2), some (.int (x3 + Int32.ofInt 1)), some (.int (x4 + Int32.ofInt 1))]) (S' := []) (h' := (zSet h 67 ((Int32.ofInt 0) + x4).toInt.toNat (h.1 67 ((Int32.ofInt 15) + x4).toInt.toNat))) zp_171 rfl ?_
          refine zQ_goto zp_171 rfl (t := 5) rfl ?_
          exact (((((((((H.2 c1).2 c2) b3 b3').2 c4) b5 b5') b6 b6').2 c7) b8 b8') b9 b9')
theorem s_172 {h : zH} {Q : Option Value → zH → Prop} (a1 : Int32) (H : zqm 152 [.ref 58, .int a1] h (fun rv h1 => zri rv (fun v1 => ((¬ v1.toInt = 0 → zqm 148 [.ref 58] h1 (fun _ h3 => zqm 159 [.ref 58, .int a1] h3 (fun rv h4 => zri rv (fun v4 => zqm 171 [.ref 64, .int v4, .int (Int32.ofInt 15)] h4 (fun rv h5 => zri rv (fun v5 => Q (some (.int v5)) h5)))))) ∧ (¬ (¬ v1.toInt = 0) → Q (some (.int (-1000001 : Int32))) h1))))) : zqm 172 [.ref 58, .int a1] h Q := by
  refine zqm_of zp_172 (fun n => ?_)
  show zQ n 172 0 [some (.ref 58), some (.int a1)] [] h Q
  refine zQ_seq 2 (pc' := 2) (L' := [some (.ref 58), some (.int a1)]) (S' := [.int a1, .ref 58]) (h' := h) zp_172 rfl ?_
  refine zQ_cvI (M' := 152) (as := [.ref 58, .int a1]) (S' := []) zp_172 rfl rfl zp_152 (Or.inr rfl) rfl rfl (zqm_imp H (fun rv h1 r1 => zri_imp r1 (fun v1 r1' => ?_)))
  refine zQ_if zp_172 rfl (t := 11) rfl (i := v1.toInt) rfl (fun c2 => ?_) (fun c2 => ?_)
  · refine zQ_seq 1 (pc' := 12) (L' := [some (.ref 58), some (.int a1)]) (S' := [.ref 58]) (h' := h1) zp_172 rfl ?_
    refine zQ_cvV (M' := 148) (as := [.ref 58]) (S' := []) zp_172 rfl rfl zp_148 rfl rfl rfl (zqm_imp (r1'.1 c2) (fun rv h3 r3 => ?_))
    refine zQ_seq 4 (pc' := 21) (L' := [some (.ref 58), some (.int a1)]) (S' := [.int a1, .ref 58, .ref 64]) (h' := h3) zp_172 rfl ?_
    refine zQ_cvI (M' := 159) (as := [.ref 58, .int a1]) (S' := [.ref 64]) zp_172 rfl rfl zp_159 (Or.inl rfl) rfl rfl (zqm_imp r3 (fun rv h4 r4 => zri_imp r4 (fun v4 r4' => ?_)))
    refine zQ_seq 1 (pc' := 26) (L' := [some (.ref 58), some (.int a1)]) (S' := [.int (Int32.ofInt 15), .int v4, .ref 64]) (h' := h4) zp_172 rfl ?_
    refine zQ_csI (M' := 171) (as := [.ref 64, .int v4, .int (Int32.ofInt 15)]) (S' := []) zp_172 rfl rfl rfl zp_171 (Or.inl rfl) rfl rfl (zqm_imp r4' (fun rv h5 r5 => zri_imp r5 (fun v5 r5' => ?_)))
    exact zQ_retI zp_172 rfl r5'
  · refine zQ_seq 1 (pc' := 10) (L' := [some (.ref 58), some (.int a1)]) (S' := [.int (-1000001 : Int32)]) (h' := h1) zp_172 rfl ?_
    exact zQ_retI zp_172 rfl (r1'.2 c2)
theorem s_173_64 {h : zH} {Q : Option Value → zH → Prop} (H : (∀ n, zQ n 173 2 [some (.ref 64), some (.int (Int32.ofInt 0))] [] h Q)) : zqm 173 [.ref 64] h Q := by
  refine zqm_of zp_173 (fun n => ?_)
  have H := H n
  show zQ n 173 0 [some (.ref 64), none] [] h Q
  refine zQ_seq 2 (pc' := 2) (L' := [some (.ref 64), some (.int (Int32.ofInt 0))]) (S' := []) (h' := h) zp_173 rfl ?_
  exact H
theorem s_173_64_2 {n : Nat} {h : zH} {Q : Option Value → zH → Prop} (x1 : Int32) (H : (((h.1 64 57).toInt ≤ x1.toInt → Q none (zSet h 64 60 ((h.1 64 60) + (Int32.ofInt 1)))) ∧ (¬ ((h.1 64 57).toInt ≤ x1.toInt) → (0 ≤ ((Int32.ofInt 45) + ((Int32.ofInt 3) * x1)).toInt → ((Int32.ofInt 45) + ((Int32.ofInt 3) * x1)).toInt < 62 → ((¬ (h.1 64 ((Int32.ofInt 45) + ((Int32.ofInt 3) * x1)).toInt.toNat).toInt = (5 : Int) → zQ n 173 2 [some (.ref 64), some (.int (x1 + Int32.ofInt 1))] [] h Q) ∧ (¬ (¬ (h.1 64 ((Int32.ofInt 45) + ((Int32.ofInt 3) * x1)).toInt.toNat).toInt = (5 : Int)) → (0 ≤ (((Int32.ofInt 45) + ((Int32.ofInt 3) * x1)) + (Int32.ofInt 1)).toInt → (((Int32.ofInt 45) + ((Int32.ofInt 3) * x1)) + (Int32.ofInt 1)).toInt < 62 → zqm 171 [.ref 64, .int (h.1 64 (((Int32.ofInt 45) + ((Int32.ofInt 3) * x1)) + (Int32.ofInt 1)).toInt.toNat), .int (Int32.ofInt 1)] h (fun rv h5 => zri rv (fun v5 => zQ n 173 2 [some (.ref 64), some (.int (x1 + Int32.ofInt 1))] [] h5 Q))))))))) : zQ (n + 1) 173 2 [some (.ref 64), some (.int x1)] [] h Q := by
  refine zQ_seqL 2 (pc' := 6) (L' := [some (.ref 64), some (.int x1)]) (S' := [.int (Int32.ofInt 57), .ref 64, .int x1]) (h' := h) zp_173 rfl ?_
  refine zQ_ialk 57 (N := 62) (f := h.1 64) zp_173 rfl rfl kc_57 ?_
  refine zQ_ic zp_173 rfl (t := 44) rfl (i := x1.toInt) (j := (h.1 64 57).toInt) rfl rfl (fun c1 => ?_) (fun c1 => ?_)
  · refine zQ_seq 3 (pc' := 48) (L' := [some (.ref 64), some (.int x1)]) (S' := [.int (Int32.ofInt 60), .ref 64, .int (Int32.ofInt 60), .ref 64]) (h' := h) zp_173 rfl ?_
    refine zQ_ialk 60 (N := 62) (f := h.1 64) zp_173 rfl rfl kc_60 ?_
    refine zQ_seq 2 (pc' := 51) (L' := [some (.ref 64), some (.int x1)]) (S' := [.int ((h.1 64 60) + (Int32.ofInt 1)), .int (Int32.ofInt 60), .ref 64]) (h' := h) zp_173 rfl ?_
    refine zQ_iask 60 (N := 62) zp_173 rfl rfl kc_60 ?_
    exact zQ_retV zp_173 rfl (H.1 c1)
  · refine zQ_seq 6 (pc' := 17) (L' := [some (.ref 64), some (.int x1)]) (S' := [.int ((Int32.ofInt 45) + ((Int32.ofInt 3) * x1)), .ref 64]) (h' := h) zp_173 rfl ?_
    refine zQ_ial (N := 62) (f := h.1 64) zp_173 rfl rfl rfl (fun b2 b2' => ?_)
    refine zQ_seq 1 (pc' := 19) (L' := [some (.ref 64), some (.int x1)]) (S' := [.int (Int32.ofInt 5), .int (h.1 64 ((Int32.ofInt 45) + ((Int32.ofInt 3) * x1)).toInt.toNat)]) (h' := h) zp_173 rfl ?_
    refine zQ_ic zp_173 rfl (t := 38) rfl (i := (h.1 64 ((Int32.ofInt 45) + ((Int32.ofInt 3) * x1)).toInt.toNat).toInt) (j := (5 : Int)) rfl kc_5 (fun c3 => ?_) (fun c3 => ?_)
    · refine zQ_seq 1 (pc' := 41) (L' := [some (.ref 64), some (.int (x1 + Int32.ofInt 1))]) (S' := []) (h' := h) zp_173 rfl ?_
      refine zQ_goto zp_173 rfl (t := 2) rfl ?_
      exact (((H.2 c1) b2 b2').1 c3)
    · refine zQ_seq 9 (pc' := 32) (L' := [some (.ref 64), some (.int x1)]) (S' := [.int (((Int32.ofInt 45) + ((Int32.ofInt 3) * x1)) + (Int32.ofInt 1)), .ref 64, .ref 64]) (h' := h) zp_173 rfl ?_
      refine zQ_ial (N := 62) (f := h.1 64) zp_173 rfl rfl rfl (fun b4 b4' => ?_)
      refine zQ_seq 1 (pc' := 34) (L' := [some (.ref 64), some (.int x1)]) (S' := [.int (Int32.ofInt 1), .int (h.1 64 (((Int32.ofInt 45) + ((Int32.ofInt 3) * x1)) + (Int32.ofInt 1)).toInt.toNat), .ref 64]) (h' := h) zp_173 rfl ?_
      refine zQ_csI (M' := 171) (as := [.ref 64, .int (h.1 64 (((Int32.ofInt 45) + ((Int32.ofInt 3) * x1)) + (Int32.ofInt 1)).toInt.toNat), .int (Int32.ofInt 1)]) (S' := []) zp_173 rfl rfl rfl zp_171 (Or.inl rfl) rfl rfl (zqm_imp ((((H.2 c1) b2 b2').2 c3) b4 b4') (fun rv h5 r5 => zri_imp r5 (fun v5 r5' => ?_)))
      refine zQ_seq 2 (pc' := 41) (L' := [some (.ref 64), some (.int (x1 + Int32.ofInt 1))]) (S' := []) (h' := h5) zp_173 rfl ?_
      refine zQ_goto zp_173 rfl (t := 2) rfl ?_
      exact r5'
theorem s_173_67 {h : zH} {Q : Option Value → zH → Prop} (H : (∀ n, zQ n 173 2 [some (.ref 67), some (.int (Int32.ofInt 0))] [] h Q)) : zqm 173 [.ref 67] h Q := by
  refine zqm_of zp_173 (fun n => ?_)
  have H := H n
  show zQ n 173 0 [some (.ref 67), none] [] h Q
  refine zQ_seq 2 (pc' := 2) (L' := [some (.ref 67), some (.int (Int32.ofInt 0))]) (S' := []) (h' := h) zp_173 rfl ?_
  exact H
theorem s_173_67_2 {n : Nat} {h : zH} {Q : Option Value → zH → Prop} (x1 : Int32) (H : (((h.1 67 57).toInt ≤ x1.toInt → Q none (zSet h 67 60 ((h.1 67 60) + (Int32.ofInt 1)))) ∧ (¬ ((h.1 67 57).toInt ≤ x1.toInt) → (0 ≤ ((Int32.ofInt 45) + ((Int32.ofInt 3) * x1)).toInt → ((Int32.ofInt 45) + ((Int32.ofInt 3) * x1)).toInt < 62 → ((¬ (h.1 67 ((Int32.ofInt 45) + ((Int32.ofInt 3) * x1)).toInt.toNat).toInt = (5 : Int) → zQ n 173 2 [some (.ref 67), some (.int (x1 + Int32.ofInt 1))] [] h Q) ∧ (¬ (¬ (h.1 67 ((Int32.ofInt 45) + ((Int32.ofInt 3) * x1)).toInt.toNat).toInt = (5 : Int)) → (0 ≤ (((Int32.ofInt 45) + ((Int32.ofInt 3) * x1)) + (Int32.ofInt 1)).toInt → (((Int32.ofInt 45) + ((Int32.ofInt 3) * x1)) + (Int32.ofInt 1)).toInt < 62 → zqm 171 [.ref 67, .int (h.1 67 (((Int32.ofInt 45) + ((Int32.ofInt 3) * x1)) + (Int32.ofInt 1)).toInt.toNat), .int (Int32.ofInt 1)] h (fun rv h5 => zri rv (fun v5 => zQ n 173 2 [some (.ref 67), some (.int (x1 + Int32.ofInt 1))] [] h5 Q))))))))) : zQ (n + 1) 173 2 [some (.ref 67), some (.int x1)] [] h Q := by
  refine zQ_seqL 2 (pc' := 6) (L' := [some (.ref 67), some (.int x1)]) (S' := [.int (Int32.ofInt 57), .ref 67, .int x1]) (h' := h) zp_173 rfl ?_
  refine zQ_ialk 57 (N := 62) (f := h.1 67) zp_173 rfl rfl kc_57 ?_
  refine zQ_ic zp_173 rfl (t := 44) rfl (i := x1.toInt) (j := (h.1 67 57).toInt) rfl rfl (fun c1 => ?_) (fun c1 => ?_)
  · refine zQ_seq 3 (pc' := 48) (L' := [some (.ref 67), some (.int x1)]) (S' := [.int (Int32.ofInt 60), .ref 67, .int (Int32.ofInt 60), .ref 67]) (h' := h) zp_173 rfl ?_
    refine zQ_ialk 60 (N := 62) (f := h.1 67) zp_173 rfl rfl kc_60 ?_
    refine zQ_seq 2 (pc' := 51) (L' := [some (.ref 67), some (.int x1)]) (S' := [.int ((h.1 67 60) + (Int32.ofInt 1)), .int (Int32.ofInt 60), .ref 67]) (h' := h) zp_173 rfl ?_
    refine zQ_iask 60 (N := 62) zp_173 rfl rfl kc_60 ?_
    exact zQ_retV zp_173 rfl (H.1 c1)
  · refine zQ_seq 6 (pc' := 17) (L' := [some (.ref 67), some (.int x1)]) (S' := [.int ((Int32.ofInt 45) + ((Int32.ofInt 3) * x1)), .ref 67]) (h' := h) zp_173 rfl ?_
    refine zQ_ial (N := 62) (f := h.1 67) zp_173 rfl rfl rfl (fun b2 b2' => ?_)
    refine zQ_seq 1 (pc' := 19) (L' := [some (.ref 67), some (.int x1)]) (S' := [.int (Int32.ofInt 5), .int (h.1 67 ((Int32.ofInt 45) + ((Int32.ofInt 3) * x1)).toInt.toNat)]) (h' := h) zp_173 rfl ?_
    refine zQ_ic zp_173 rfl (t := 38) rfl (i := (h.1 67 ((Int32.ofInt 45) + ((Int32.ofInt 3) * x1)).toInt.toNat).toInt) (j := (5 : Int)) rfl kc_5 (fun c3 => ?_) (fun c3 => ?_)
    · refine zQ_seq 1 (pc' := 41) (L' := [some (.ref 67), some (.int (x1 + Int32.ofInt 1))]) (S' := []) (h' := h) zp_173 rfl ?_
      refine zQ_goto zp_173 rfl (t := 2) rfl ?_
      exact (((H.2 c1) b2 b2').1 c3)
    · refine zQ_seq 9 (pc' := 32) (L' := [some (.ref 67), some (.int x1)]) (S' := [.int (((Int32.ofInt 45) + ((Int32.ofInt 3) * x1)) + (Int32.ofInt 1)), .ref 67, .ref 67]) (h' := h) zp_173 rfl ?_
      refine zQ_ial (N := 62) (f := h.1 67) zp_173 rfl rfl rfl (fun b4 b4' => ?_)
      refine zQ_seq 1 (pc' := 34) (L' := [some (.ref 67), some (.int x1)]) (S' := [.int (Int32.ofInt 1), .int (h.1 67 (((Int32.ofInt 45) + ((Int32.ofInt 3) * x1)) + (Int32.ofInt 1)).toInt.toNat), .ref 67]) (h' := h) zp_173 rfl ?_
      refine zQ_csI (M' := 171) (as := [.ref 67, .int (h.1 67 (((Int32.ofInt 45) + ((Int32.ofInt 3) * x1)) + (Int32.ofInt 1)).toInt.toNat), .int (Int32.ofInt 1)]) (S' := []) zp_173 rfl rfl rfl zp_171 (Or.inl rfl) rfl rfl (zqm_imp ((((H.2 c1) b2 b2').2 c3) b4 b4') (fun rv h5 r5 => zri_imp r5 (fun v5 r5' => ?_)))
      refine zQ_seq 2 (pc' := 41) (L' := [some (.ref 67), some (.int (x1 + Int32.ofInt 1))]) (S' := []) (h' := h5) zp_173 rfl ?_
      refine zQ_goto zp_173 rfl (t := 2) rfl ?_
      exact r5'
theorem s_174 {h : zH} {Q : Option Value → zH → Prop} (a1 : Int32) (H : (∀ n, zqm 150 [.ref 58] h (fun rv h1 => zri rv (fun v1 => ((¬ v1.toInt = 0 → zqm 121 [.int a1, .int (Int32.ofInt 1), .int (Int32.ofInt 24)] h1 (fun rv h3 => zri rv (fun v3 => ((¬ v3.toInt = 0 → ((((h3.1 64 60) + a1).toInt ≤ (999 : Int) → zQ n 174 43 [some (.ref 58), some (.int a1), some (.int (Int32.ofInt 0))] [] h3 Q) ∧ (¬ (((h3.1 64 60) + a1).toInt ≤ (999 : Int)) → Q (some (.int (-1000003 : Int32))) h3))) ∧ (¬ (¬ v3.toInt = 0) → Q (some (.int (-1000001 : Int32))) h3))))) ∧ (¬ (¬ v1.toInt = 0) → Q (some (.int (-1000002 : Int32))) h1)))))) : zqm 174 [.ref 58, .int a1] h Q := by
  refine zqm_of zp_174 (fun n => ?_)
  have H := H n
  show zQ n 174 0 [some (.ref 58), some (.int a1), none] [] h Q
  refine zQ_seq 1 (pc' := 1) (L' := [some (.ref 58), some (.int a1), none]) (S' := [.ref 58]) (h' := h) zp_174 rfl ?_
  refine zQ_cvI (M' := 150) (as := [.ref 58]) (S' := []) zp_174 rfl rfl zp_150 (Or.inr rfl) rfl rfl (zqm_imp H (fun rv h1 r1 => zri_imp r1 (fun v1 r1' => ?_)))
  refine zQ_if zp_174 rfl (t := 10) rfl (i := v1.toInt) rfl (fun c2 => ?_) (fun c2 => ?_)
  · refine zQ_seq 3 (pc' := 14) (L' := [some (.ref 58), some (.int a1), none]) (S' := [.int (Int32.ofInt 24), .int (Int32.ofInt 1), .int a1]) (h' := h1) zp_174 rfl ?_
    refine zQ_csI (M' := 121) (as := [.int a1, .int (Int32.ofInt 1), .int (Int32.ofInt 24)]) (S' := []) zp_174 rfl rfl rfl zp_121 (Or.inr rfl) rfl rfl (zqm_imp (r1'.1 c2) (fun rv h3 r3 => zri_imp r3 (fun v3 r3' => ?_)))
    refine zQ_if zp_174 rfl (t := 23) rfl (i := v3.toInt) rfl (fun c4 => ?_) (fun c4 => ?_)
    · refine zQ_seq 3 (pc' := 29) (L' := [some (.ref 58), some (.int a1), none]) (S' := [.int (Int32.ofInt 60), .ref 64]) (h' := h3) zp_174 rfl ?_
      refine zQ_ialk 60 (N := 62) (f := h3.1 64) zp_174 rfl rfl kc_60 ?_
      refine zQ_seq 3 (pc' := 35) (L' := [some (.ref 58), some (.int a1), none]) (S' := [.int (Int32.ofInt 999), .int ((h3.1 64 60) + a1)]) (h' := h3) zp_174 rfl ?_
      refine zQ_ic zp_174 rfl (t := 41) rfl (i := ((h3.1 64 60) + a1).toInt) (j := (999 : Int)) rfl kc_999 (fun c5 => ?_) (fun c5 => ?_)
      · refine zQ_seq 2 (pc' := 43) (L' := [some (.ref 58), some (.int a1), some (.int (Int32.ofInt 0))]) (S' := []) (h' := h3) zp_174 rfl ?_
        exact ((r3'.1 c4).1 c5)
      · refine zQ_seq 1 (pc' := 40) (L' := [some (.ref 58), some (.int a1), none]) (S' := [.int (-1000003 : Int32)]) (h' := h3) zp_174 rfl ?_
        exact zQ_retI zp_174 rfl ((r3'.1 c4).2 c5)
    · refine zQ_seq 1 (pc' := 22) (L' := [some (.ref 58), some (.int a1), none]) (S' := [.int (-1000001 : Int32)]) (h' := h3) zp_174 rfl ?_
      exact zQ_retI zp_174 rfl (r3'.2 c4)
  · refine zQ_seq 1 (pc' := 9) (L' := [some (.ref 58), some (.int a1), none]) (S' := [.int (-1000002 : Int32)]) (h' := h1) zp_174 rfl ?_
    exact zQ_retI zp_174 rfl (r1'.2 c2)
theorem s_174_43 {n : Nat} {h : zH} {Q : Option Value → zH → Prop} (x1 : Int32) (x2 : Int32) (H : ((x1.toInt ≤ x2.toInt → zqm 156 [.ref 58, .ref 64] h (fun rv h2 => zri rv (fun v2 => Q (some (.int v2)) h2))) ∧ (¬ (x1.toInt ≤ x2.toInt) → zqm 148 [.ref 58] h (fun _ h3 => zqm 173 [.ref 64] h3 (fun _ h4 => zQ n 174 43 [some (.ref 58), some (.int x1), some (.int (x2 + Int32.ofInt 1))] [] h4 Q))))) : zQ (n + 1) 174 43 [some (.ref 58), some (.int x1), some (.int x2)] [] h Q := by
  refine zQ_seqL 1 (pc' := 45) (L' := [some (.ref 58), some (.int x1), some (.int x2)]) (S' := [.int x1, .int x2]) (h' := h) zp_174 rfl ?_
  refine zQ_ic zp_174 rfl (t := 65) rfl (i := x2.toInt) (j := x1.toInt) rfl rfl (fun c1 => ?_) (fun c1 => ?_)
  · refine zQ_seq 3 (pc' := 70) (L' := [some (.ref 58), some (.int x1), some (.int x2)]) (S' := [.ref 64, .ref 58]) (h' := h) zp_174 rfl ?_
    refine zQ_cvI (M' := 156) (as := [.ref 58, .ref 64]) (S' := []) zp_174 rfl rfl zp_156 (Or.inl rfl) rfl rfl (zqm_imp (H.1 c1) (fun rv h2 r2 => zri_imp r2 (fun v2 r2' => ?_)))
    exact zQ_retI zp_174 rfl r2'
  · refine zQ_seq 1 (pc' := 49) (L' := [some (.ref 58), some (.int x1), some (.int x2)]) (S' := [.ref 58]) (h' := h) zp_174 rfl ?_
    refine zQ_cvV (M' := 148) (as := [.ref 58]) (S' := []) zp_174 rfl rfl zp_148 rfl rfl rfl (zqm_imp (H.2 c1) (fun rv h3 r3 => ?_))
    refine zQ_seq 2 (pc' := 56) (L' := [some (.ref 58), some (.int x1), some (.int x2)]) (S' := [.ref 64]) (h' := h3) zp_174 rfl ?_
    refine zQ_csV (M' := 173) (as := [.ref 64]) (S' := []) zp_174 rfl rfl rfl zp_173 rfl rfl rfl (zqm_imp r3 (fun rv h4 r4 => ?_))
    refine zQ_seq 1 (pc' := 62) (L' := [some (.ref 58), some (.int x1), some (.int (x2 + Int32.ofInt 1))]) (S' := []) (h' := h4) zp_174 rfl ?_
    refine zQ_goto zp_174 rfl (t := 43) rfl ?_
    exact r4
theorem s_175 {h : zH} {Q : Option Value → zH → Prop} (a1 : Int32) (a2 : Int32) (H : (∀ n, zqm 150 [.ref 58] h (fun rv h1 => zri rv (fun v1 => ((¬ v1.toInt = 0 → zqm 151 [.int a1] h1 (fun rv h3 => zri rv (fun v3 => ((v3.toInt = 0 → Q (some (.int (-1000001 : Int32))) h3) ∧ (¬ (v3.toInt = 0) → zqm 121 [.int a2, .int (Int32.ofInt 0), .int (Int32.ofInt 4)] h3 (fun rv h5 => zri rv (fun v5 => ((¬ v5.toInt = 0 → (((3 : Int) ≤ a2.toInt → zQ n 175 71 [some (.ref 58), some (.int a1), some (.int a2), some (.int (Int32.ofInt 0)), some (.int (Int32.ofInt 0))] [] h5 Q) ∧ (¬ ((3 : Int) ≤ a2.toInt) → ((¬ a2.toInt = 0 → ((¬ a2.toInt = (1 : Int) → (0 ≤ ((Int32.ofInt 30) + a1).toInt → ((Int32.ofInt 30) + a1).toInt < 62 → Q (some (.int (h5.1 64 ((Int32.ofInt 30) + a1).toInt.toNat))) h5)) ∧ (¬ (¬ a2.toInt = (1 : Int)) → (0 ≤ ((Int32.ofInt 15) + a1).toInt → ((Int32.ofInt 15) + a1).toInt < 62 → Q (some (.int (h5.1 64 ((Int32.ofInt 15) + a1).toInt.toNat))) h5)))) ∧ (¬ (¬ a2.toInt = 0) → (0 ≤ ((Int32.ofInt 0) + a1).toInt → ((Int32.ofInt 0) + a1).toInt < 62 → Q (some (.int (h5.1 64 ((Int32.ofInt 0) + a1).toInt.toNat))) h5)))))) ∧ (¬ (¬ v5.toInt = 0) → Q (some (.int (-1000001 : Int32))) h5))))))))) ∧ (¬ (¬ v1.toInt = 0) → Q (some (.int (-1000002 : Int32))) h1)))))) : zqm 175 [.ref 58, .int a1, .int a2] h Q := by
  refine zqm_of zp_175 (fun n => ?_)
  have H := H n
  show zQ n 175 0 [some (.ref 58), some (.int a1), some (.int a2), none, none] [] h Q
  refine zQ_seq 1 (pc' := 1) (L' := [some (.ref 58), some (.int a1), some (.int a2), none, none]) (S' := [.ref 58]) (h' := h) zp_175 rfl ?_
  refine zQ_cvI (M' := 150) (as := [.ref 58]) (S' := []) zp_175 rfl rfl zp_150 (Or.inr rfl) rfl rfl (zqm_imp H (fun rv h1 r1 => zri_imp r1 (fun v1 r1' => ?_)))
  refine zQ_if zp_175 rfl (t := 10) rfl (i := v1.toInt) rfl (fun c2 => ?_) (fun c2 => ?_)
  · refine zQ_seq 1 (pc' := 11) (L' := [some (.ref 58), some (.int a1), some (.int a2), none, none]) (S' := [.int a1]) (h' := h1) zp_175 rfl ?_
    refine zQ_csI (M' := 151) (as := [.int a1]) (S' := []) zp_175 rfl rfl rfl zp_151 (Or.inr rfl) rfl rfl (zqm_imp (r1'.1 c2) (fun rv h3 r3 => zri_imp r3 (fun v3 r3' => ?_)))
    refine zQ_if zp_175 rfl (t := 26) rfl (i := v3.toInt) rfl (fun c4 => ?_) (fun c4 => ?_)
    · refine zQ_seq 1 (pc' := 28) (L' := [some (.ref 58), some (.int a1), some (.int a2), none, none]) (S' := [.int (-1000001 : Int32)]) (h' := h3) zp_175 rfl ?_
      exact zQ_retI zp_175 rfl (r3'.1 c4)
    · refine zQ_seq 3 (pc' := 20) (L' := [some (.ref 58), some (.int a1), some (.int a2), none, none]) (S' := [.int (Int32.ofInt 4), .int (Int32.ofInt 0), .int a2]) (h' := h3) zp_175 rfl ?_
      refine zQ_csI (M' := 121) (as := [.int a2, .int (Int32.ofInt 0), .int (Int32.ofInt 4)]) (S' := []) zp_175 rfl rfl rfl zp_121 (Or.inr rfl) rfl rfl (zqm_imp (r3'.2 c4) (fun rv h5 r5 => zri_imp r5 (fun v5 r5' => ?_)))
      refine zQ_if zp_175 rfl (t := 29) rfl (i := v5.toInt) rfl (fun c6 => ?_) (fun c6 => ?_)
      · refine zQ_seq 2 (pc' := 31) (L' := [some (.ref 58), some (.int a1), some (.int a2), none, none]) (S' := [.int (Int32.ofInt 3), .int a2]) (h' := h5) zp_175 rfl ?_
        refine zQ_ic zp_175 rfl (t := 66) rfl (i := a2.toInt) (j := (3 : Int)) rfl kc_3 (fun c7 => ?_) (fun c7 => ?_)
        · refine zQ_seq 4 (pc' := 71) (L' := [some (.ref 58), some (.int a1), some (.int a2), some (.int (Int32.ofInt 0)), some (.int (Int32.ofInt 0))]) (S' := []) (h' := h5) zp_175 rfl ?_
          exact ((r5'.1 c6).1 c7)
        · refine zQ_seq 3 (pc' := 39) (L' := [some (.ref 58), some (.int a1), some (.int a2), none, none]) (S' := [.int a2, .ref 64]) (h' := h5) zp_175 rfl ?_
          refine zQ_if zp_175 rfl (t := 48) rfl (i := a2.toInt) rfl (fun c8 => ?_) (fun c8 => ?_)
          · refine zQ_seq 2 (pc' := 50) (L' := [some (.ref 58), some (.int a1), some (.int a2), none, none]) (S' := [.int (Int32.ofInt 1), .int a2, .ref 64]) (h' := h5) zp_175 rfl ?_
            refine zQ_ic zp_175 rfl (t := 60) rfl (i := a2.toInt) (j := (1 : Int)) rfl kc_1 (fun c9 => ?_) (fun c9 => ?_)
            · refine zQ_seq 3 (pc' := 64) (L' := [some (.ref 58), some (.int a1), some (.int a2), none, none]) (S' := [.int ((Int32.ofInt 30) + a1), .ref 64]) (h' := h5) zp_175 rfl ?_
              refine zQ_ial (N := 62) (f := h5.1 64) zp_175 rfl rfl rfl (fun b10 b10' => ?_)
              exact zQ_retI zp_175 rfl (((((r5'.1 c6).2 c7).1 c8).1 c9) b10 b10')
            · refine zQ_seq 3 (pc' := 57) (L' := [some (.ref 58), some (.int a1), some (.int a2), none, none]) (S' := [.int ((Int32.ofInt 15) + a1), .ref 64]) (h' := h5) zp_175 rfl ?_
              refine zQ_goto zp_175 rfl (t := 64) rfl ?_
              refine zQ_ial (N := 62) (f := h5.1 64) zp_175 rfl rfl rfl (fun b11 b11' => ?_)
              exact zQ_retI zp_175 rfl (((((r5'.1 c6).2 c7).1 c8).2 c9) b11 b11')
          · refine zQ_seq 3 (pc' := 45) (L' := [some (.ref 58), some (.int a1), some (.int a2), none, none]) (S' := [.int ((Int32.ofInt 0) + a1), .ref 64]) (h' := h5) zp_175 rfl ?_
            refine zQ_goto zp_175 rfl (t := 64) rfl ?_
            refine zQ_ial (N := 62) (f := h5.1 64) zp_175 rfl rfl rfl (fun b12 b12' => ?_)
            exact zQ_retI zp_175 rfl ((((r5'.1 c6).2 c7).2 c8) b12 b12')
      · refine zQ_seq 1 (pc' := 28) (L' := [some (.ref 58), some (.int a1), some (.int a2), none, none]) (S' := [.int (-1000001 : Int32)]) (h' := h5) zp_175 rfl ?_
        exact zQ_retI zp_175 rfl (r5'.2 c6)
  · refine zQ_seq 1 (pc' := 9) (L' := [some (.ref 58), some (.int a1), some (.int a2), none, none]) (S' := [.int (-1000002 : Int32)]) (h' := h1) zp_175 rfl ?_
    exact zQ_retI zp_175 rfl (r1'.2 c2)
theorem s_175_71 {n : Nat} {h : zH} {Q : Option Value → zH → Prop} (x1 : Int32) (x2 : Int32) (x3 : Int32) (x4 : Int32) (H : (((h.1 64 57).toInt ≤ x4.toInt → ((¬ x2.toInt = (4 : Int) → zqm 154 [.ref 58, .int x1] h (fun rv h3 => zri rv (fun v3 => ((v3.toInt = 0 → Q (some (.int (Int32.ofInt 0))) h3) ∧ (¬ (v3.toInt = 0) → Q (some (.int (Int32.ofInt 1))) h3))))) ∧ (¬ (¬ x2.toInt = (4 : Int)) → Q (some (.int x3)) h))) ∧ (¬ ((h.1 64 57).toInt ≤ x4.toInt) → zqm 161 [.ref 58, .int x4, .int x1] h (fun rv h5 => zri rv (fun v5 => ((v5.toInt = 0 → zQ n 175 71 [some (.ref 58), some (.int x1), some (.int x2), some (.int (x3 ||| (Int32.ofInt 0))), some (.int (x4 + Int32.ofInt 1))] [] h5 Q) ∧ (¬ (v5.toInt = 0) → zQ n 175 71 [some (.ref 58), some (.int x1), some (.int x2), some (.int (x3 ||| ((Int32.ofInt 1) <<< (x4 &&& 31)))), some (.int (x4 + Int32.ofInt 1))] [] h5 Q))))))) : zQ (n + 1) 175 71 [some (.ref 58), some (.int x1), some (.int x2), some (.int x3), some (.int x4)] [] h Q := by
  refine zQ_seqL 3 (pc' := 79) (L' := [some (.ref 58), some (.int x1), some (.int x2), some (.int x3), some (.int x4)]) (S' := [.int (Int32.ofInt 57), .ref 64, .int x4]) (h' := h) zp_175 rfl ?_
  refine zQ_ialk 57 (N := 62) (f := h.1 64) zp_175 rfl rfl kc_57 ?_
  refine zQ_ic zp_175 rfl (t := 110) rfl (i := x4.toInt) (j := (h.1 64 57).toInt) rfl rfl (fun c1 => ?_) (fun c1 => ?_)
  · refine zQ_seq 2 (pc' := 112) (L' := [some (.ref 58), some (.int x1), some (.int x2), some (.int x3), some (.int x4)]) (S' := [.int (Int32.ofInt 4), .int x2]) (h' := h) zp_175 rfl ?_
    refine zQ_ic zp_175 rfl (t := 119) rfl (i := x2.toInt) (j := (4 : Int)) rfl kc_4 (fun c2 => ?_) (fun c2 => ?_)
    · refine zQ_seq 2 (pc' := 121) (L' := [some (.ref 58), some (.int x1), some (.int x2), some (.int x3), some (.int x4)]) (S' := [.int x1, .ref 58]) (h' := h) zp_175 rfl ?_
      refine zQ_cvI (M' := 154) (as := [.ref 58, .int x1]) (S' := []) zp_175 rfl rfl zp_154 (Or.inr rfl) rfl rfl (zqm_imp ((H.1 c1).1 c2) (fun rv h3 r3 => zri_imp r3 (fun v3 r3' => ?_)))
      refine zQ_if zp_175 rfl (t := 131) rfl (i := v3.toInt) rfl (fun c4 => ?_) (fun c4 => ?_)
      · refine zQ_seq 1 (pc' := 132) (L' := [some (.ref 58), some (.int x1), some (.int x2), some (.int x3), some (.int x4)]) (S' := [.int (Int32.ofInt 0)]) (h' := h3) zp_175 rfl ?_
        exact zQ_retI zp_175 rfl (r3'.1 c4)
      · refine zQ_seq 1 (pc' := 128) (L' := [some (.ref 58), some (.int x1), some (.int x2), some (.int x3), some (.int x4)]) (S' := [.int (Int32.ofInt 1)]) (h' := h3) zp_175 rfl ?_
        refine zQ_goto zp_175 rfl (t := 132) rfl ?_
        exact zQ_retI zp_175 rfl (r3'.2 c4)
    · refine zQ_seq 1 (pc' := 116) (L' := [some (.ref 58), some (.int x1), some (.int x2), some (.int x3), some (.int x4)]) (S' := [.int x3]) (h' := h) zp_175 rfl ?_
      refine zQ_goto zp_175 rfl (t := 132) rfl ?_
      exact zQ_retI zp_175 rfl ((H.1 c1).2 c2)
  · refine zQ_seq 4 (pc' := 88) (L' := [some (.ref 58), some (.int x1), some (.int x2), some (.int x3), some (.int x4)]) (S' := [.int x1, .int x4, .ref 58, .int x3]) (h' := h) zp_175 rfl ?_
    refine zQ_cvI (M' := 161) (as := [.ref 58, .int x4, .int x1]) (S' := [.int x3]) zp_175 rfl rfl zp_161 (Or.inr rfl) rfl rfl (zqm_imp (H.2 c1) (fun rv h5 r5 => zri_imp r5 (fun v5 r5' => ?_)))
    refine zQ_if zp_175 rfl (t := 101) rfl (i := v5.toInt) rfl (fun c6 => ?_) (fun c6 => ?_)
    · refine zQ_seq 4 (pc' := 107) (L' := [some (.ref 58), some (.int x1), some (.int x2), some (.int (x3 ||| (Int32.ofInt 0))), some (.int (x4 + Int32.ofInt 1))]) (S' := []) (h' := h5) zp_175 rfl ?_
      refine zQ_goto zp_175 rfl (t := 71) rfl ?_
      exact (r5'.1 c6)
    · refine zQ_seq 3 (pc' := 98) (L' := [some (.ref 58), some (.int x1), some (.int x2), some (.int x3), some (.int x4)]) (S' := [.int ((Int32.ofInt 1) <<< (x4 &&& 31)), .int x3]) (h' := h5) zp_175 rfl ?_
      refine zQ_goto zp_175 rfl (t := 102) rfl ?_
      refine zQ_seq 3 (pc' := 107) (L' := [some (.ref 58), some (.int x1), some (.int x2), some (.int (x3 ||| ((Int32.ofInt 1) <<< (x4 &&& 31)))), some (.int (x4 + Int32.ofInt 1))]) (S' := []) (h' := h5) zp_175 rfl ?_
      refine zQ_goto zp_175 rfl (t := 71) rfl ?_
      exact (r5'.2 c6)
theorem s_176 {h : zH} {Q : Option Value → zH → Prop} (a1 : Int32) (a2 : Int32) (H : zqm 152 [.ref 58, .int a1] h (fun rv h1 => zri rv (fun v1 => ((v1.toInt = 0 → Q (some (.int (-1000001 : Int32))) h1) ∧ (¬ (v1.toInt = 0) → zqm 121 [.int a2, .int (Int32.ofInt 0), .int (Int32.ofInt 3)] h1 (fun rv h3 => zri rv (fun v3 => ((¬ v3.toInt = 0 → ((¬ a2.toInt = 0 → ((¬ a2.toInt = (1 : Int) → ((¬ a2.toInt = (2 : Int) → zqm 162 [.ref 58, .int a1] h3 (fun rv h8 => zri rv (fun v8 => Q (some (.int v8)) h8))) ∧ (¬ (¬ a2.toInt = (2 : Int)) → zqm 165 [.ref 58, .int a1] h3 (fun rv h9 => zri rv (fun v9 => Q (some (.int v9)) h9))))) ∧ (¬ (¬ a2.toInt = (1 : Int)) → zqm 160 [.ref 58, .int a1] h3 (fun rv h10 => zri rv (fun v10 => Q (some (.int v10)) h10))))) ∧ (¬ (¬ a2.toInt = 0) → zqm 159 [.ref 58, .int a1] h3 (fun rv h11 => zri rv (fun v11 => Q (some (.int v11)) h11))))) ∧ (¬ (¬ v3.toInt = 0) → Q (some (.int (-1000001 : Int32))) h3))))))))) : zqm 176 [.ref 58, .int a1, .int a2] h Q := by
  refine zqm_of zp_176 (fun n => ?_)
  show zQ n 176 0 [some (.ref 58), some (.int a1), some (.int a2)] [] h Q
  refine zQ_seq 2 (pc' := 2) (L' := [some (.ref 58), some (.int a1), some (.int a2)]) (S' := [.int a1, .ref 58]) (h' := h) zp_176 rfl ?_
  refine zQ_cvI (M' := 152) (as := [.ref 58, .int a1]) (S' := []) zp_176 rfl rfl zp_152 (Or.inr rfl) rfl rfl (zqm_imp H (fun rv h1 r1 => zri_imp r1 (fun v1 r1' => ?_)))
  refine zQ_if zp_176 rfl (t := 17) rfl (i := v1.toInt) rfl (fun c2 => ?_) (fun c2 => ?_)
  · refine zQ_seq 1 (pc' := 19) (L' := [some (.ref 58), some (.int a1), some (.int a2)]) (S' := [.int (-1000001 : Int32)]) (h' := h1) zp_176 rfl ?_
    exact zQ_retI zp_176 rfl (r1'.1 c2)
  · refine zQ_seq 3 (pc' := 11) (L' := [some (.ref 58), some (.int a1), some (.int a2)]) (S' := [.int (Int32.ofInt 3), .int (Int32.ofInt 0), .int a2]) (h' := h1) zp_176 rfl ?_
    refine zQ_csI (M' := 121) (as := [.int a2, .int (Int32.ofInt 0), .int (Int32.ofInt 3)]) (S' := []) zp_176 rfl rfl rfl zp_121 (Or.inr rfl) rfl rfl (zqm_imp (r1'.2 c2) (fun rv h3 r3 => zri_imp r3 (fun v3 r3' => ?_)))
    refine zQ_if zp_176 rfl (t := 20) rfl (i := v3.toInt) rfl (fun c4 => ?_) (fun c4 => ?_)
    · refine zQ_seq 1 (pc' := 21) (L' := [some (.ref 58), some (.int a1), some (.int a2)]) (S' := [.int a2]) (h' := h3) zp_176 rfl ?_
      refine zQ_if zp_176 rfl (t := 32) rfl (i := a2.toInt) rfl (fun c5 => ?_) (fun c5 => ?_)
      · refine zQ_seq 2 (pc' := 34) (L' := [some (.ref 58), some (.int a1), some (.int a2)]) (S' := [.int (Int32.ofInt 1), .int a2]) (h' := h3) zp_176 rfl ?_
        refine zQ_ic zp_176 rfl (t := 45) rfl (i := a2.toInt) (j := (1 : Int)) rfl kc_1 (fun c6 => ?_) (fun c6 => ?_)
        · refine zQ_seq 2 (pc' := 47) (L' := [some (.ref 58), some (.int a1), some (.int a2)]) (S' := [.int (Int32.ofInt 2), .int a2]) (h' := h3) zp_176 rfl ?_
          refine zQ_ic zp_176 rfl (t := 58) rfl (i := a2.toInt) (j := (2 : Int)) rfl kc_2 (fun c7 => ?_) (fun c7 => ?_)
          · refine zQ_seq 2 (pc' := 60) (L' := [some (.ref 58), some (.int a1), some (.int a2)]) (S' := [.int a1, .ref 58]) (h' := h3) zp_176 rfl ?_
            refine zQ_cvI (M' := 162) (as := [.ref 58, .int a1]) (S' := []) zp_176 rfl rfl zp_162 (Or.inl rfl) rfl rfl (zqm_imp ((((r3'.1 c4).1 c5).1 c6).1 c7) (fun rv h8 r8 => zri_imp r8 (fun v8 r8' => ?_)))
            exact zQ_retI zp_176 rfl r8'
          · refine zQ_seq 2 (pc' := 52) (L' := [some (.ref 58), some (.int a1), some (.int a2)]) (S' := [.int a1, .ref 58]) (h' := h3) zp_176 rfl ?_
            refine zQ_cvI (M' := 165) (as := [.ref 58, .int a1]) (S' := []) zp_176 rfl rfl zp_165 (Or.inl rfl) rfl rfl (zqm_imp ((((r3'.1 c4).1 c5).1 c6).2 c7) (fun rv h9 r9 => zri_imp r9 (fun v9 r9' => ?_)))
            refine zQ_goto zp_176 rfl (t := 63) rfl ?_
            exact zQ_retI zp_176 rfl r9'
        · refine zQ_seq 2 (pc' := 39) (L' := [some (.ref 58), some (.int a1), some (.int a2)]) (S' := [.int a1, .ref 58]) (h' := h3) zp_176 rfl ?_
          refine zQ_cvI (M' := 160) (as := [.ref 58, .int a1]) (S' := []) zp_176 rfl rfl zp_160 (Or.inl rfl) rfl rfl (zqm_imp (((r3'.1 c4).1 c5).2 c6) (fun rv h10 r10 => zri_imp r10 (fun v10 r10' => ?_)))
          refine zQ_goto zp_176 rfl (t := 63) rfl ?_
          exact zQ_retI zp_176 rfl r10'
      · refine zQ_seq 2 (pc' := 26) (L' := [some (.ref 58), some (.int a1), some (.int a2)]) (S' := [.int a1, .ref 58]) (h' := h3) zp_176 rfl ?_
        refine zQ_cvI (M' := 159) (as := [.ref 58, .int a1]) (S' := []) zp_176 rfl rfl zp_159 (Or.inl rfl) rfl rfl (zqm_imp ((r3'.1 c4).2 c5) (fun rv h11 r11 => zri_imp r11 (fun v11 r11' => ?_)))
        refine zQ_goto zp_176 rfl (t := 63) rfl ?_
        exact zQ_retI zp_176 rfl r11'
    · refine zQ_seq 1 (pc' := 19) (L' := [some (.ref 58), some (.int a1), some (.int a2)]) (S' := [.int (-1000001 : Int32)]) (h' := h3) zp_176 rfl ?_
      exact zQ_retI zp_176 rfl (r3'.2 c4)
theorem s_177 {h : zH} {Q : Option Value → zH → Prop} (a1 : Int32) (H : (∀ n, zQ n 177 4 [some (.ref 58), some (.int a1), some (.int (Int32.ofInt 0)), some (.int (Int32.ofInt 0))] [] h Q)) : zqm 177 [.ref 58, .int a1] h Q := by
  refine zqm_of zp_177 (fun n => ?_)
  have H := H n
  show zQ n 177 0 [some (.ref 58), some (.int a1), none, none] [] h Q
  refine zQ_seq 4 (pc' := 4) (L' := [some (.ref 58), some (.int a1), some (.int (Int32.ofInt 0)), some (.int (Int32.ofInt 0))]) (S' := []) (h' := h) zp_177 rfl ?_
  exact H
theorem s_177_4 {n : Nat} {h : zH} {Q : Option Value → zH → Prop} (x1 : Int32) (x2 : Int32) (x3 : Int32) (H : (((h.1 64 57).toInt ≤ x3.toInt → Q (some (.int x2)) h) ∧ (¬ ((h.1 64 57).toInt ≤ x3.toInt) → zqm 164 [.ref 58, .int x3, .int x1] h (fun rv h2 => zri rv (fun v2 => ((¬ v2.toInt = 0 → zQ n 177 4 [some (.ref 58), some (.int x1), some (.int (x2 ||| (Int32.ofInt 0))), some (.int (x3 + Int32.ofInt 1))] [] h2 Q) ∧ (¬ (¬ v2.toInt = 0) → zQ n 177 4 [some (.ref 58), some (.int x1), some (.int (x2 ||| ((Int32.ofInt 1) <<< (x3 &&& 31)))), some (.int (x3 + Int32.ofInt 1))] [] h2 Q))))))) : zQ (n + 1) 177 4 [some (.ref 58), some (.int x1), some (.int x2), some (.int x3)] [] h Q := by
  refine zQ_seqL 3 (pc' := 11) (L' := [some (.ref 58), some (.int x1), some (.int x2), some (.int x3)]) (S' := [.int (Int32.ofInt 57), .ref 64, .int x3]) (h' := h) zp_177 rfl ?_
  refine zQ_ialk 57 (N := 62) (f := h.1 64) zp_177 rfl rfl kc_57 ?_
  refine zQ_ic zp_177 rfl (t := 40) rfl (i := x3.toInt) (j := (h.1 64 57).toInt) rfl rfl (fun c1 => ?_) (fun c1 => ?_)
  · refine zQ_seq 1 (pc' := 41) (L' := [some (.ref 58), some (.int x1), some (.int x2), some (.int x3)]) (S' := [.int x2]) (h' := h) zp_177 rfl ?_
    exact zQ_retI zp_177 rfl (H.1 c1)
  · refine zQ_seq 4 (pc' := 19) (L' := [some (.ref 58), some (.int x1), some (.int x2), some (.int x3)]) (S' := [.int x1, .int x3, .ref 58, .int x2]) (h' := h) zp_177 rfl ?_
    refine zQ_cvI (M' := 164) (as := [.ref 58, .int x3, .int x1]) (S' := [.int x2]) zp_177 rfl rfl zp_164 (Or.inl rfl) rfl rfl (zqm_imp (H.2 c1) (fun rv h2 r2 => zri_imp r2 (fun v2 r2' => ?_)))
    refine zQ_if zp_177 rfl (t := 31) rfl (i := v2.toInt) rfl (fun c3 => ?_) (fun c3 => ?_)
    · refine zQ_seq 4 (pc' := 37) (L' := [some (.ref 58), some (.int x1), some (.int (x2 ||| (Int32.ofInt 0))), some (.int (x3 + Int32.ofInt 1))]) (S' := []) (h' := h2) zp_177 rfl ?_
      refine zQ_goto zp_177 rfl (t := 4) rfl ?_
      exact (r2'.1 c3)
    · refine zQ_seq 3 (pc' := 28) (L' := [some (.ref 58), some (.int x1), some (.int x2), some (.int x3)]) (S' := [.int ((Int32.ofInt 1) <<< (x3 &&& 31)), .int x2]) (h' := h2) zp_177 rfl ?_
      refine zQ_goto zp_177 rfl (t := 32) rfl ?_
      refine zQ_seq 3 (pc' := 37) (L' := [some (.ref 58), some (.int x1), some (.int (x2 ||| ((Int32.ofInt 1) <<< (x3 &&& 31)))), some (.int (x3 + Int32.ofInt 1))]) (S' := []) (h' := h2) zp_177 rfl ?_
      refine zQ_goto zp_177 rfl (t := 4) rfl ?_
      exact (r2'.2 c3)
theorem s_178 {h : zH} {Q : Option Value → zH → Prop} (a1 : Int32) (H : zqm 150 [.ref 58] h (fun rv h1 => zri rv (fun v1 => ((¬ v1.toInt = 0 → zqm 121 [.int a1, .int (Int32.ofInt 0), .int (Int32.ofInt 2)] h1 (fun rv h3 => zri rv (fun v3 => ((¬ v3.toInt = 0 → zqm 156 [.ref 58, .ref 64] h3 (fun rv h5 => zri rv (fun v5 => ((¬ a1.toInt = 0 → ((¬ a1.toInt = (1 : Int) → zqm 177 [.ref 58, .int v5] h5 (fun rv h8 => zri rv (fun v8 => Q (some (.int v8)) h8))) ∧ (¬ (¬ a1.toInt = (1 : Int)) → zqm 157 [.ref 58] h5 (fun rv h9 => zri rv (fun v9 => Q (some (.int v9)) h9))))) ∧ (¬ (¬ a1.toInt = 0) → Q (some (.int v5)) h5))))) ∧ (¬ (¬ v3.toInt = 0) → Q (some (.int (-1000001 : Int32))) h3))))) ∧ (¬ (¬ v1.toInt = 0) → Q (some (.int (-1000002 : Int32))) h1))))) : zqm 178 [.ref 58, .int a1] h Q := by
  refine zqm_of zp_178 (fun n => ?_)
  show zQ n 178 0 [some (.ref 58), some (.int a1), none] [] h Q
  refine zQ_seq 1 (pc' := 1) (L' := [some (.ref 58), some (.int a1), none]) (S' := [.ref 58]) (h' := h) zp_178 rfl ?_
  refine zQ_cvI (M' := 150) (as := [.ref 58]) (S' := []) zp_178 rfl rfl zp_150 (Or.inr rfl) rfl rfl (zqm_imp H (fun rv h1 r1 => zri_imp r1 (fun v1 r1' => ?_)))
  refine zQ_if zp_178 rfl (t := 10) rfl (i := v1.toInt) rfl (fun c2 => ?_) (fun c2 => ?_)
  · refine zQ_seq 3 (pc' := 13) (L' := [some (.ref 58), some (.int a1), none]) (S' := [.int (Int32.ofInt 2), .int (Int32.ofInt 0), .int a1]) (h' := h1) zp_178 rfl ?_
    refine zQ_csI (M' := 121) (as := [.int a1, .int (Int32.ofInt 0), .int (Int32.ofInt 2)]) (S' := []) zp_178 rfl rfl rfl zp_121 (Or.inr rfl) rfl rfl (zqm_imp (r1'.1 c2) (fun rv h3 r3 => zri_imp r3 (fun v3 r3' => ?_)))
    refine zQ_if zp_178 rfl (t := 22) rfl (i := v3.toInt) rfl (fun c4 => ?_) (fun c4 => ?_)
    · refine zQ_seq 3 (pc' := 27) (L' := [some (.ref 58), some (.int a1), none]) (S' := [.ref 64, .ref 58]) (h' := h3) zp_178 rfl ?_
      refine zQ_cvI (M' := 156) (as := [.ref 58, .ref 64]) (S' := []) zp_178 rfl rfl zp_156 (Or.inl rfl) rfl rfl (zqm_imp (r3'.1 c4) (fun rv h5 r5 => zri_imp r5 (fun v5 r5' => ?_)))
      refine zQ_seq 2 (pc' := 32) (L' := [some (.ref 58), some (.int a1), some (.int v5)]) (S' := [.int a1]) (h' := h5) zp_178 rfl ?_
      refine zQ_if zp_178 rfl (t := 39) rfl (i := a1.toInt) rfl (fun c6 => ?_) (fun c6 => ?_)
      · refine zQ_seq 2 (pc' := 41) (L' := [some (.ref 58), some (.int a1), some (.int v5)]) (S' := [.int (Int32.ofInt 1), .int a1]) (h' := h5) zp_178 rfl ?_
        refine zQ_ic zp_178 rfl (t := 51) rfl (i := a1.toInt) (j := (1 : Int)) rfl kc_1 (fun c7 => ?_) (fun c7 => ?_)
        · refine zQ_seq 2 (pc' := 53) (L' := [some (.ref 58), some (.int a1), some (.int v5)]) (S' := [.int v5, .ref 58]) (h' := h5) zp_178 rfl ?_
          refine zQ_cvI (M' := 177) (as := [.ref 58, .int v5]) (S' := []) zp_178 rfl rfl zp_177 (Or.inl rfl) rfl rfl (zqm_imp ((r5'.1 c6).1 c7) (fun rv h8 r8 => zri_imp r8 (fun v8 r8' => ?_)))
          exact zQ_retI zp_178 rfl r8'
        · refine zQ_seq 1 (pc' := 45) (L' := [some (.ref 58), some (.int a1), some (.int v5)]) (S' := [.ref 58]) (h' := h5) zp_178 rfl ?_
          refine zQ_cvI (M' := 157) (as := [.ref 58]) (S' := []) zp_178 rfl rfl zp_157 (Or.inl rfl) rfl rfl (zqm_imp ((r5'.1 c6).2 c7) (fun rv h9 r9 => zri_imp r9 (fun v9 r9' => ?_)))
          refine zQ_goto zp_178 rfl (t := 56) rfl ?_
          exact zQ_retI zp_178 rfl r9'
      · refine zQ_seq 1 (pc' := 36) (L' := [some (.ref 58), some (.int a1), some (.int v5)]) (S' := [.int v5]) (h' := h5) zp_178 rfl ?_
        refine zQ_goto zp_178 rfl (t := 56) rfl ?_
        exact zQ_retI zp_178 rfl (r5'.2 c6)
    · refine zQ_seq 1 (pc' := 21) (L' := [some (.ref 58), some (.int a1), none]) (S' := [.int (-1000001 : Int32)]) (h' := h3) zp_178 rfl ?_
      exact zQ_retI zp_178 rfl (r3'.2 c4)
  · refine zQ_seq 1 (pc' := 9) (L' := [some (.ref 58), some (.int a1), none]) (S' := [.int (-1000002 : Int32)]) (h' := h1) zp_178 rfl ?_
    exact zQ_retI zp_178 rfl (r1'.2 c2)
theorem s_184 {h : zH} {Q : Option Value → zH → Prop} (H : (∀ n, zqm 150 [.ref 58] h (fun rv h1 => zri rv (fun v1 => ((¬ v1.toInt = 0 → zQ n 184 14 [some (.ref 58), some (.int (Int32.ofInt 0)), some (.int (Int32.ofInt 0))] [] h1 Q) ∧ (¬ (¬ v1.toInt = 0) → Q (some (.int (-1000002 : Int32))) h1)))))) : zqm 184 [.ref 58] h Q := by
  refine zqm_of zp_184 (fun n => ?_)
  have H := H n
  show zQ n 184 0 [some (.ref 58), none, none] [] h Q
  refine zQ_seq 1 (pc' := 1) (L' := [some (.ref 58), none, none]) (S' := [.ref 58]) (h' := h) zp_184 rfl ?_
  refine zQ_cvI (M' := 150) (as := [.ref 58]) (S' := []) zp_184 rfl rfl zp_150 (Or.inr rfl) rfl rfl (zqm_imp H (fun rv h1 r1 => zri_imp r1 (fun v1 r1' => ?_)))
  refine zQ_if zp_184 rfl (t := 10) rfl (i := v1.toInt) rfl (fun c2 => ?_) (fun c2 => ?_)
  · refine zQ_seq 4 (pc' := 14) (L' := [some (.ref 58), some (.int (Int32.ofInt 0)), some (.int (Int32.ofInt 0))]) (S' := []) (h' := h1) zp_184 rfl ?_
    exact (r1'.1 c2)
  · refine zQ_seq 1 (pc' := 9) (L' := [some (.ref 58), none, none]) (S' := [.int (-1000002 : Int32)]) (h' := h1) zp_184 rfl ?_
    exact zQ_retI zp_184 rfl (r1'.2 c2)
theorem s_184_14 {n : Nat} {h : zH} {Q : Option Value → zH → Prop} (x1 : Int32) (x2 : Int32) (H : (((15 : Int) ≤ x2.toInt → zqm 156 [.ref 58, .ref 64] h (fun rv h2 => zri rv (fun v2 => Q (some (.int (x1 &&& v2))) h2))) ∧ (¬ ((15 : Int) ≤ x2.toInt) → zqm 166 [.ref 58, .int ((Int32.ofInt 1) <<< (x2 &&& 31))] h (fun rv h3 => zri rv (fun v3 => ((¬ v3.toInt = 0 → zQ n 184 14 [some (.ref 58), some (.int (x1 ||| (Int32.ofInt 0))), some (.int (x2 + Int32.ofInt 1))] [] h3 Q) ∧ (¬ (¬ v3.toInt = 0) → zQ n 184 14 [some (.ref 58), some (.int (x1 ||| ((Int32.ofInt 1) <<< (x2 &&& 31)))), some (.int (x2 + Int32.ofInt 1))] [] h3 Q))))))) : zQ (n + 1) 184 14 [some (.ref 58), some (.int x1), some (.int x2)] [] h Q := by
  refine zQ_seqL 1 (pc' := 17) (L' := [some (.ref 58), some (.int x1), some (.int x2)]) (S' := [.int (Int32.ofInt 15), .int x2]) (h' := h) zp_184 rfl ?_
  refine zQ_ic zp_184 rfl (t := 46) rfl (i := x2.toInt) (j := (15 : Int)) rfl kc_15 (fun c1 => ?_) (fun c1 => ?_)
  · refine zQ_seq 4 (pc' := 52) (L' := [some (.ref 58), some (.int x1), some (.int x2)]) (S' := [.ref 64, .ref 58, .int x1]) (h' := h) zp_184 rfl ?_
    refine zQ_cvI (M' := 156) (as := [.ref 58, .ref 64]) (S' := [.int x1]) zp_184 rfl rfl zp_156 (Or.inl rfl) rfl rfl (zqm_imp (H.1 c1) (fun rv h2 r2 => zri_imp r2 (fun v2 r2' => ?_)))
    refine zQ_seq 1 (pc' := 56) (L' := [some (.ref 58), some (.int x1), some (.int x2)]) (S' := [.int (x1 &&& v2)]) (h' := h2) zp_184 rfl ?_
    exact zQ_retI zp_184 rfl r2'
  · refine zQ_seq 5 (pc' := 25) (L' := [some (.ref 58), some (.int x1), some (.int x2)]) (S' := [.int ((Int32.ofInt 1) <<< (x2 &&& 31)), .ref 58, .int x1]) (h' := h) zp_184 rfl ?_
    refine zQ_cvI (M' := 166) (as := [.ref 58, .int ((Int32.ofInt 1) <<< (x2 &&& 31))]) (S' := [.int x1]) zp_184 rfl rfl zp_166 (Or.inl rfl) rfl rfl (zqm_imp (H.2 c1) (fun rv h3 r3 => zri_imp r3 (fun v3 r3' => ?_)))
    refine zQ_if zp_184 rfl (t := 37) rfl (i := v3.toInt) rfl (fun c4 => ?_) (fun c4 => ?_)
    · refine zQ_seq 4 (pc' := 43) (L' := [some (.ref 58), some (.int (x1 ||| (Int32.ofInt 0))), some (.int (x2 + Int32.ofInt 1))]) (S' := []) (h' := h3) zp_184 rfl ?_
      refine zQ_goto zp_184 rfl (t := 14) rfl ?_
      exact (r3'.1 c4)
    · refine zQ_seq 3 (pc' := 34) (L' := [some (.ref 58), some (.int x1), some (.int x2)]) (S' := [.int ((Int32.ofInt 1) <<< (x2 &&& 31)), .int x1]) (h' := h3) zp_184 rfl ?_
      refine zQ_goto zp_184 rfl (t := 38) rfl ?_
      refine zQ_seq 3 (pc' := 43) (L' := [some (.ref 58), some (.int (x1 ||| ((Int32.ofInt 1) <<< (x2 &&& 31)))), some (.int (x2 + Int32.ofInt 1))]) (S' := []) (h' := h3) zp_184 rfl ?_
      refine zQ_goto zp_184 rfl (t := 14) rfl ?_
      exact (r3'.2 c4)
theorem s_200 {h : zH} {Q : Option Value → zH → Prop} (a1 : Int32) (H : (∀ n, zqm 121 [.int a1, .int (Int32.ofInt 0), .int (Int32.ofInt 1)] h (fun rv h1 => zri rv (fun v1 => ((¬ v1.toInt = 0 → zqm 150 [.ref 58] h1 (fun rv h3 => zri rv (fun v3 => ((¬ v3.toInt = 0 → zQ n 200 24 [some (.ref 58), some (.int a1), some (.int (Int32.ofInt 0))] [] h3 Q) ∧ (¬ (¬ v3.toInt = 0) → Q (some (.int (-1000002 : Int32))) h3))))) ∧ (¬ (¬ v1.toInt = 0) → Q (some (.int (-1000001 : Int32))) h1)))))) : zqm 200 [.ref 58, .int a1] h Q := by
  refine zqm_of zp_200 (fun n => ?_)
  have H := H n
  show zQ n 200 0 [some (.ref 58), some (.int a1), none] [] h Q
  refine zQ_seq 3 (pc' := 3) (L' := [some (.ref 58), some (.int a1), none]) (S' := [.int (Int32.ofInt 1), .int (Int32.ofInt 0), .int a1]) (h' := h) zp_200 rfl ?_
  refine zQ_csI (M' := 121) (as := [.int a1, .int (Int32.ofInt 0), .int (Int32.ofInt 1)]) (S' := []) zp_200 rfl rfl rfl zp_121 (Or.inr rfl) rfl rfl (zqm_imp H (fun rv h1 r1 => zri_imp r1 (fun v1 r1' => ?_)))
  refine zQ_if zp_200 rfl (t := 12) rfl (i := v1.toInt) rfl (fun c2 => ?_) (fun c2 => ?_)
  · refine zQ_seq 1 (pc' := 13) (L' := [some (.ref 58), some (.int a1), none]) (S' := [.ref 58]) (h' := h1) zp_200 rfl ?_
    refine zQ_cvI (M' := 150) (as := [.ref 58]) (S' := []) zp_200 rfl rfl zp_150 (Or.inr rfl) rfl rfl (zqm_imp (r1'.1 c2) (fun rv h3 r3 => zri_imp r3 (fun v3 r3' => ?_)))
    refine zQ_if zp_200 rfl (t := 22) rfl (i := v3.toInt) rfl (fun c4 => ?_) (fun c4 => ?_)
    · refine zQ_seq 2 (pc' := 24) (L' := [some (.ref 58), some (.int a1), some (.int (Int32.ofInt 0))]) (S' := []) (h' := h3) zp_200 rfl ?_
      exact (r3'.1 c4)
    · refine zQ_seq 1 (pc' := 21) (L' := [some (.ref 58), some (.int a1), none]) (S' := [.int (-1000002 : Int32)]) (h' := h3) zp_200 rfl ?_
      exact zQ_retI zp_200 rfl (r3'.2 c4)
  · refine zQ_seq 1 (pc' := 11) (L' := [some (.ref 58), some (.int a1), none]) (S' := [.int (-1000001 : Int32)]) (h' := h1) zp_200 rfl ?_
    exact zQ_retI zp_200 rfl (r1'.2 c2)
theorem s_200_24 {n : Nat} {h : zH} {Q : Option Value → zH → Prop} (x1 : Int32) (x2 : Int32) (H : (((62 : Int) ≤ x2.toInt → Q (some (.int (Int32.ofInt 1))) h) ∧ (¬ ((62 : Int) ≤ x2.toInt) → (0 ≤ x2.toInt → x2.toInt < 62 → (0 ≤ (((Int32.ofInt 62) * x1) + x2).toInt → (((Int32.ofInt 62) * x1) + x2).toInt < 124 → zQ n 200 24 [some (.ref 58), some (.int x1), some (.int (x2 + Int32.ofInt 1))] [] (zSet h 72 (((Int32.ofInt 62) * x1) + x2).toInt.toNat (h.1 64 x2.toInt.toNat)) Q))))) : zQ (n + 1) 200 24 [some (.ref 58), some (.int x1), some (.int x2)] [] h Q := by
  refine zQ_seqL 1 (pc' := 27) (L' := [some (.ref 58), some (.int x1), some (.int x2)]) (S' := [.int (Int32.ofInt 62), .int x2]) (h' := h) zp_200 rfl ?_
  refine zQ_ic zp_200 rfl (t := 53) rfl (i := x2.toInt) (j := (62 : Int)) rfl kc_62 (fun c1 => ?_) (fun c1 => ?_)
  · refine zQ_seq 1 (pc' := 54) (L' := [some (.ref 58), some (.int x1), some (.int x2)]) (S' := [.int (Int32.ofInt 1)]) (h' := h) zp_200 rfl ?_
    exact zQ_retI zp_200 rfl (H.1 c1)
  · refine zQ_seq 10 (pc' := 45) (L' := [some (.ref 58), some (.int x1), some (.int x2)]) (S' := [.int x2, .ref 64, .int (((Int32.ofInt 62) * x1) + x2), .ref 72]) (h' := h) zp_200 rfl ?_
    refine zQ_ial (N := 62) (f := h.1 64) zp_200 rfl rfl rfl (fun b2 b2' => ?_)
    refine zQ_ias (N := 124) zp_200 rfl rfl rfl (fun b3 b3' => ?_)
    refine zQ_seq 1 (pc' := 50) (L' := [some (.ref 58), some (.int x1), some (.int (x2 + Int32.ofInt 1))]) (S' := []) (h' := (zSet h 72 (((Int32.ofInt 62) * x1) + x2).toInt.toNat (h.1 64 x2.toInt.toNat))) zp_200 rfl ?_
    refine zQ_goto zp_200 rfl (t := 24) rfl ?_
    exact (((H.2 c1) b2 b2') b3 b3')
theorem s_201 {h : zH} {Q : Option Value → zH → Prop} (a1 : Int32) (H : (∀ n, zqm 121 [.int a1, .int (Int32.ofInt 0), .int (Int32.ofInt 1)] h (fun rv h1 => zri rv (fun v1 => ((¬ v1.toInt = 0 → (0 ≤ (((Int32.ofInt 62) * a1) + (Int32.ofInt 61)).toInt → (((Int32.ofInt 62) * a1) + (Int32.ofInt 61)).toInt < 124 → ((¬ (h1.1 72 (((Int32.ofInt 62) * a1) + (Int32.ofInt 61)).toInt.toNat).toInt = 0 → zQ n 201 32 [some (.ref 58), some (.int a1), some (.int (Int32.ofInt 0))] [] h1 Q) ∧ (¬ (¬ (h1.1 72 (((Int32.ofInt 62) * a1) + (Int32.ofInt 61)).toInt.toNat).toInt = 0) → Q (some (.int (-1000002 : Int32))) h1)))) ∧ (¬ (¬ v1.toInt = 0) → Q (some (.int (-1000001 : Int32))) h1)))))) : zqm 201 [.ref 58, .int a1] h Q := by
  refine zqm_of zp_201 (fun n => ?_)
  have H := H n
  show zQ n 201 0 [some (.ref 58), some (.int a1), none] [] h Q
  refine zQ_seq 3 (pc' := 3) (L' := [some (.ref 58), some (.int a1), none]) (S' := [.int (Int32.ofInt 1), .int (Int32.ofInt 0), .int a1]) (h' := h) zp_201 rfl ?_
  refine zQ_csI (M' := 121) (as := [.int a1, .int (Int32.ofInt 0), .int (Int32.ofInt 1)]) (S' := []) zp_201 rfl rfl rfl zp_121 (Or.inr rfl) rfl rfl (zqm_imp H (fun rv h1 r1 => zri_imp r1 (fun v1 r1' => ?_)))
  refine zQ_if zp_201 rfl (t := 12) rfl (i := v1.toInt) rfl (fun c2 => ?_) (fun c2 => ?_)
  · refine zQ_seq 7 (pc' := 23) (L' := [some (.ref 58), some (.int a1), none]) (S' := [.int (((Int32.ofInt 62) * a1) + (Int32.ofInt 61)), .ref 72]) (h' := h1) zp_201 rfl ?_
    refine zQ_ial (N := 124) (f := h1.1 72) zp_201 rfl rfl rfl (fun b3 b3' => ?_)
    refine zQ_if zp_201 rfl (t := 30) rfl (i := (h1.1 72 (((Int32.ofInt 62) * a1) + (Int32.ofInt 61)).toInt.toNat).toInt) rfl (fun c4 => ?_) (fun c4 => ?_)
    · refine zQ_seq 2 (pc' := 32) (L' := [some (.ref 58), some (.int a1), some (.int (Int32.ofInt 0))]) (S' := []) (h' := h1) zp_201 rfl ?_
      exact (((r1'.1 c2) b3 b3').1 c4)
    · refine zQ_seq 1 (pc' := 29) (L' := [some (.ref 58), some (.int a1), none]) (S' := [.int (-1000002 : Int32)]) (h' := h1) zp_201 rfl ?_
      exact zQ_retI zp_201 rfl (((r1'.1 c2) b3 b3').2 c4)
  · refine zQ_seq 1 (pc' := 11) (L' := [some (.ref 58), some (.int a1), none]) (S' := [.int (-1000001 : Int32)]) (h' := h1) zp_201 rfl ?_
    exact zQ_retI zp_201 rfl (r1'.2 c2)
theorem s_201_32 {n : Nat} {h : zH} {Q : Option Value → zH → Prop} (x1 : Int32) (x2 : Int32) (H : (((62 : Int) ≤ x2.toInt → zqm 155 [.ref 58] (zSet h 58 12 (Int32.ofInt 0)) (fun _ h2 => Q (some (.int (Int32.ofInt 1))) h2)) ∧ (¬ ((62 : Int) ≤ x2.toInt) → (0 ≤ (((Int32.ofInt 62) * x1) + x2).toInt → (((Int32.ofInt 62) * x1) + x2).toInt < 124 → (0 ≤ x2.toInt → x2.toInt < 62 → zQ n 201 32 [some (.ref 58), some (.int x1), some (.int (x2 + Int32.ofInt 1))] [] (zSet h 64 x2.toInt.toNat (h.1 72 (((Int32.ofInt 62) * x1) + x2).toInt.toNat)) Q))))) : zQ (n + 1) 201 32 [some (.ref 58), some (.int x1), some (.int x2)] [] h Q := by
  refine zQ_seqL 1 (pc' := 35) (L' := [some (.ref 58), some (.int x1), some (.int x2)]) (S' := [.int (Int32.ofInt 62), .int x2]) (h' := h) zp_201 rfl ?_
  refine zQ_ic zp_201 rfl (t := 61) rfl (i := x2.toInt) (j := (62 : Int)) rfl kc_62 (fun c1 => ?_) (fun c1 => ?_)
  · refine zQ_seq 4 (pc' := 67) (L' := [some (.ref 58), some (.int x1), some (.int x2)]) (S' := [.ref 58]) (h' := (zSet h 58 12 (Int32.ofInt 0))) zp_201 rfl ?_
    refine zQ_cvV (M' := 155) (as := [.ref 58]) (S' := []) zp_201 rfl rfl zp_155 rfl rfl rfl (zqm_imp (H.1 c1) (fun rv h2 r2 => ?_))
    refine zQ_seq 1 (pc' := 71) (L' := [some (.ref 58), some (.int x1), some (.int x2)]) (S' := [.int (Int32.ofInt 1)]) (h' := h2) zp_201 rfl ?_
    exact zQ_retI zp_201 rfl r2
  · refine zQ_seq 10 (pc' := 53) (L' := [some (.ref 58), some (.int x1), some (.int x2)]) (S' := [.int (((Int32.ofInt 62) * x1) + x2), .ref 72, .int x2, .ref 64]) (h' := h) zp_201 rfl ?_
    refine zQ_ial (N := 124) (f := h.1 72) zp_201 rfl rfl rfl (fun b3 b3' => ?_)
    refine zQ_ias (N := 62) zp_201 rfl rfl rfl (fun b4 b4' => ?_)
    refine zQ_seq 1 (pc' := 58) (L' := [some (.ref 58), some (.int x1), some (.int (x2 + Int32.ofInt 1))]) (S' := []) (h' := (zSet h 64 x2.toInt.toNat (h.1 72 (((Int32.ofInt 62) * x1) + x2).toInt.toNat))) zp_201 rfl ?_
    refine zQ_goto zp_201 rfl (t := 32) rfl ?_
    exact (((H.2 c1) b3 b3') b4 b4')
